section
variable {p : Program} {l : Launch} {e : Env} {s : State} {m : MethodId} {below : List Frame} {meth : Method} {c : Code} {D : va_G} {cI cO cB : ClassId} {adr : Nat → Nat} {A : Nat → Prop}
abbrev rmX8_cause : Room := { frames := 3, cells := 0, slots := 0, locals := 73 }
theorem qX8_cause : fw_QV RX8 yX8_cause cX8_cause 6 (some .int) 2 := ⟨⟨tw_4_167, tv_X8_cause, tw_1_10, tw_4_168⟩, by decide +kernel⟩
def pX8_cause_84 : Nat → Int32 → Int32 → Int32 → Int32 → fw_T → Option (Int32 × fw_T)
  | 0, _, _, _, _, _ => none
  | n + 1, x1, x2, x4, x5, σ =>
    if (10 : Int32) ≤ x5 then
      if (fw_g σ 0 8) = 0 then
        some ((1 : Int32), σ)
      else
        fw_b2 (pX8_dropper (1 : Int32) x1 x2 σ) fun w6 τ5 =>
        if w6 = (-10001 : Int32) then
          if (fw_g (fw_u τ5 0 8 ((fw_g τ5 0 8) &&& x4)) 0 8) = 0 then
            some ((2 : Int32), (fw_u τ5 0 8 ((fw_g τ5 0 8) &&& x4)))
          else
            fw_b2 (pX8_dropper (2 : Int32) x1 x2 (fw_u τ5 0 8 ((fw_g τ5 0 8) &&& x4))) fun w9 τ8 =>
            if w9 = (-10001 : Int32) then
              some ((9 : Int32), τ8)
            else
              some (w9, τ8)
        else
          some (w6, τ5)
    else
      fw_b2 (pX8_hasRight x5 x2 σ) fun w12 τ11 =>
      if w12 = 0 then
        pX8_cause_84 n x1 x2 x4 (x5 + (1 : Int32)) (fw_u τ11 0 8 ((fw_g σ 0 8) ||| (0 : Int32)))
      else
        pX8_cause_84 n x1 x2 x4 (x5 + (1 : Int32)) (fw_u τ11 0 8 ((fw_g σ 0 8) ||| ((1 : Int32) <<< (x5 &&& 31))))
set_option maxRecDepth 100000 in
set_option maxHeartbeats 4000000 in
theorem wX8_cause_84 {args : Array Value} {r : Int32} {σ' : fw_T} (X : fmX p m c cX8_cause 6 s args RX8 meth (some .int) D cI cB)  : ∀ (n : Nat), ∀ (x1 : Int32), ∀ (x2 : Int32), ∀ (x4 : Int32), ∀ (x5 : Int32), ∀ (σ : fw_T), pX8_cause_84 n x1 x2 x4 x5 σ = some (r, σ') → ∀ (H : Heap) (locs : List Loc) (ls : Array Slot), fmH D cI cB adr A s H locs σ → lv_has ls 6 [(0, .ref (adr 0)), (1, .int x1), (2, .int x2), (4, .int x4), (5, .int x5)] → W p l e rmX8_cause s m args below meth c H locs 0 0 (fw_Qi D 7 adr (fw_M cI cB adr) A below args s r σ') (F0 m 84 ls []) := by
  have hx := X.1.1
  have hb := X.1.2.1
  intro n
  induction n with
  | zero =>
    intro x1 x2 x4 x5 σ hf
    exact absurd hf (by simp [pX8_cause_84])
  | succ n ih =>
    intro x1 x2 x4 x5 σ hf H locs ls hH hl
    rw [pX8_cause_84] at hf
    refine lv_iload hx hb dX8_cause_84 (lv_at hl 4 rfl) ?_
    refine lv_bipush (v := (10 : Int32)) hx hb dX8_cause_86 (by decide) ?_
    refine lv_icmp_ge (tgt := 124) hx hb dX8_cause_88 (by decide) (fun hc => ?_) (fun hc => ?_)
    · have hf := fw_pos hc hf
      refine lv_aload_n hx hb dX8_cause_124 rfl (lv_at hl 0 rfl) ?_
      refine fw_get (id := 0) (k := 8) (v := .int (fw_g σ 0 8)) X hH (by decide) rfl rfl inX8 (by decide) rfl tw_3_210 dX8_cause_125 ?_
      refine lv_if_ne (tgt := 133) hx hb dX8_cause_128 (by decide) (fun hc => ?_) (fun hc => ?_)
      · have hf := fw_neg hc hf
        refine lv_aload_n hx hb dX8_cause_133 rfl (lv_at hl 0 rfl) ?_
        refine lv_iconst (v := (1 : Int32)) hx hb dX8_cause_134 (by decide) ?_
        refine lv_iload_n hx hb dX8_cause_135 rfl (lv_at hl 1 rfl) ?_
        refine lv_iload_n hx hb dX8_cause_136 rfl (lv_at hl 2 rfl) ?_
        obtain ⟨w6, τ5, g4, hf⟩ := fw_b2s hf
        refine fw_ci hH (fw_rV (As := [.int (1 : Int32), .int x1, .int x2]) (rest := []) (id := 0) X hH (kX8_dropper  g4 _) qX8_dropper tw_4_169 ⟨Nat.le_of_ble_eq_true rfl, Nat.le_of_ble_eq_true rfl⟩ rfl rfl (by decide) rfl rfl rfl hl.1 rfl (Nat.le_of_ble_eq_true rfl) dX8_cause_137) (fun H locs hH => ?_)
        refine lv_istore_n (lv' := [(3, .int w6), (0, .ref (adr 0)), (1, .int x1), (2, .int x2), (4, .int x4), (5, .int x5)]) hx hb dX8_cause_140 rfl hl (by decide) rfl (fun ls hl => ?_)
        refine lv_iload_n hx hb dX8_cause_141 rfl (lv_at hl 0 rfl) ?_
        refine lv_sipush (v := (-10001 : Int32)) hx hb dX8_cause_142 (by decide) ?_
        refine lv_icmp_eq (tgt := 150) hx hb dX8_cause_145 (by decide) (fun hc => ?_) (fun hc => ?_)
        · have hf := fw_pos hc hf
          refine lv_aload_n hx hb dX8_cause_150 rfl (lv_at hl 1 rfl) ?_
          refine lv_dup hx hb dX8_cause_151 rfl ?_
          refine fw_get (id := 0) (k := 8) (v := .int (fw_g τ5 0 8)) X hH (by decide) rfl rfl inX8 (by decide) rfl tw_3_210 dX8_cause_152 ?_
          refine lv_iload hx hb dX8_cause_155 (lv_at hl 4 rfl) ?_
          refine lv_iand hx hb dX8_cause_157 ?_
          refine fw_put (id := 0) (k := 8) (v := .int ((fw_g τ5 0 8) &&& x4)) (ty := .int) (σ' := (fw_u τ5 0 8 ((fw_g τ5 0 8) &&& x4))) X hH (by decide) rfl fpm_8 (fun j h => fm_ne h) rfl inX8 tyX8 tyX8_ok nmX8 (by decide) (Nat.le_of_ble_eq_true rfl) rfl (by decide +kernel) rfl rfl tw_3_210 dX8_cause_158 (fun H locs hH => ?_)
          refine lv_aload_n hx hb dX8_cause_161 rfl (lv_at hl 1 rfl) ?_
          refine fw_get (id := 0) (k := 8) (v := .int (fw_g (fw_u τ5 0 8 ((fw_g τ5 0 8) &&& x4)) 0 8)) X hH (by decide) rfl rfl inX8 (by decide) rfl tw_3_210 dX8_cause_162 ?_
          refine lv_if_ne (tgt := 170) hx hb dX8_cause_165 (by decide) (fun hc => ?_) (fun hc => ?_)
          · have hf := fw_neg hc hf
            refine lv_aload_n hx hb dX8_cause_170 rfl (lv_at hl 1 rfl) ?_
            refine lv_iconst (v := (2 : Int32)) hx hb dX8_cause_171 (by decide) ?_
            refine lv_iload_n hx hb dX8_cause_172 rfl (lv_at hl 2 rfl) ?_
            refine lv_iload_n hx hb dX8_cause_173 rfl (lv_at hl 3 rfl) ?_
            obtain ⟨w9, τ8, g7, hf⟩ := fw_b2s hf
            refine fw_ci hH (fw_rV (As := [.int (2 : Int32), .int x1, .int x2]) (rest := []) (id := 0) X hH (kX8_dropper  g7 _) qX8_dropper tw_4_169 ⟨Nat.le_of_ble_eq_true rfl, Nat.le_of_ble_eq_true rfl⟩ rfl rfl (by decide) rfl rfl rfl hl.1 rfl (Nat.le_of_ble_eq_true rfl) dX8_cause_174) (fun H locs hH => ?_)
            refine lv_istore_n (lv' := [(3, .int w9), (0, .ref (adr 0)), (1, .int x1), (2, .int x2), (4, .int x4), (5, .int x5)]) hx hb dX8_cause_177 rfl hl (by decide) rfl (fun ls hl => ?_)
            refine lv_iload_n hx hb dX8_cause_178 rfl (lv_at hl 0 rfl) ?_
            refine lv_sipush (v := (-10001 : Int32)) hx hb dX8_cause_179 (by decide) ?_
            refine lv_icmp_ne (tgt := 190) hx hb dX8_cause_182 (by decide) (fun hc => ?_) (fun hc => ?_)
            · have hf := fw_neg hc hf
              refine lv_iload_n hx hb dX8_cause_190 rfl (lv_at hl 0 rfl) ?_
              obtain ⟨rfl, rfl⟩ := fw_s2 hf
              exact fw_reti X hH dX8_cause_191
            · have hf := fw_pos hc hf
              refine lv_bipush (v := (9 : Int32)) hx hb dX8_cause_185 (by decide) ?_
              refine lv_goto (tgt := 191) hx hb dX8_cause_187 (by decide) ?_
              obtain ⟨rfl, rfl⟩ := fw_s2 hf
              exact fw_reti X hH dX8_cause_191
          · have hf := fw_pos hc hf
            refine lv_iconst (v := (2 : Int32)) hx hb dX8_cause_168 (by decide) ?_
            obtain ⟨rfl, rfl⟩ := fw_s2 hf
            exact fw_reti X hH dX8_cause_169
        · have hf := fw_neg hc hf
          refine lv_iload_n hx hb dX8_cause_148 rfl (lv_at hl 0 rfl) ?_
          obtain ⟨rfl, rfl⟩ := fw_s2 hf
          exact fw_reti X hH dX8_cause_149
      · have hf := fw_pos hc hf
        refine lv_iconst (v := (1 : Int32)) hx hb dX8_cause_131 (by decide) ?_
        obtain ⟨rfl, rfl⟩ := fw_s2 hf
        exact fw_reti X hH dX8_cause_132
    · have hf := fw_neg hc hf
      refine lv_aload_n hx hb dX8_cause_91 rfl (lv_at hl 0 rfl) ?_
      refine lv_dup hx hb dX8_cause_92 rfl ?_
      refine fw_get (id := 0) (k := 8) (v := .int (fw_g σ 0 8)) X hH (by decide) rfl rfl inX8 (by decide) rfl tw_3_210 dX8_cause_93 ?_
      refine lv_aload_n hx hb dX8_cause_96 rfl (lv_at hl 0 rfl) ?_
      refine lv_iload hx hb dX8_cause_97 (lv_at hl 4 rfl) ?_
      refine lv_iload_n hx hb dX8_cause_99 rfl (lv_at hl 2 rfl) ?_
      obtain ⟨w12, τ11, g10, hf⟩ := fw_b2s hf
      refine fw_ci hH (fw_rV (As := [.int x5, .int x2]) (rest := [.int (fw_g σ 0 8), .ref (adr 0)]) (id := 0) X hH (kX8_hasRight  g10 _) qX8_hasRight tw_4_137 ⟨Nat.le_of_ble_eq_true rfl, Nat.le_of_ble_eq_true rfl⟩ rfl rfl (by decide) rfl rfl rfl hl.1 rfl (Nat.le_of_ble_eq_true rfl) dX8_cause_100) (fun H locs hH => ?_)
      refine lv_if_eq (tgt := 113) hx hb dX8_cause_103 (by decide) (fun hc => ?_) (fun hc => ?_)
      · have hf := fw_pos hc hf
        refine lv_iconst (v := (0 : Int32)) hx hb dX8_cause_113 (by decide) ?_
        refine lv_ior hx hb dX8_cause_114 ?_
        refine fw_put (id := 0) (k := 8) (v := .int ((fw_g σ 0 8) ||| (0 : Int32))) (ty := .int) (σ' := (fw_u τ11 0 8 ((fw_g σ 0 8) ||| (0 : Int32)))) X hH (by decide) rfl fpm_8 (fun j h => fm_ne h) rfl inX8 tyX8 tyX8_ok nmX8 (by decide) (Nat.le_of_ble_eq_true rfl) rfl (by decide +kernel) rfl rfl tw_3_210 dX8_cause_115 (fun H locs hH => ?_)
        refine lv_iinc (v := (x5 + (1 : Int32))) (lv' := [(5, .int (x5 + (1 : Int32))), (0, .ref (adr 0)), (1, .int x1), (2, .int x2), (4, .int x4)]) hx hb dX8_cause_118 hl (k := 4) rfl rfl (by decide) rfl (fun ls hl => ?_)
        refine lv_goto (tgt := 84) hx hb dX8_cause_121 (by decide) ?_
        exact ih x1 x2 x4 (x5 + (1 : Int32)) (fw_u τ11 0 8 ((fw_g σ 0 8) ||| (0 : Int32))) hf _ _ _ hH (lv_sub hl [1, 2, 3, 4, 0] rfl)
      · have hf := fw_neg hc hf
        refine lv_iconst (v := (1 : Int32)) hx hb dX8_cause_106 (by decide) ?_
        refine lv_iload hx hb dX8_cause_107 (lv_at hl 4 rfl) ?_
        refine lv_ishl hx hb dX8_cause_109 ?_
        refine lv_goto (tgt := 114) hx hb dX8_cause_110 (by decide) ?_
        refine lv_ior hx hb dX8_cause_114 ?_
        refine fw_put (id := 0) (k := 8) (v := .int ((fw_g σ 0 8) ||| ((1 : Int32) <<< (x5 &&& 31)))) (ty := .int) (σ' := (fw_u τ11 0 8 ((fw_g σ 0 8) ||| ((1 : Int32) <<< (x5 &&& 31))))) X hH (by decide) rfl fpm_8 (fun j h => fm_ne h) rfl inX8 tyX8 tyX8_ok nmX8 (by decide) (Nat.le_of_ble_eq_true rfl) rfl (by decide +kernel) rfl rfl tw_3_210 dX8_cause_115 (fun H locs hH => ?_)
        refine lv_iinc (v := (x5 + (1 : Int32))) (lv' := [(5, .int (x5 + (1 : Int32))), (0, .ref (adr 0)), (1, .int x1), (2, .int x2), (4, .int x4)]) hx hb dX8_cause_118 hl (k := 4) rfl rfl (by decide) rfl (fun ls hl => ?_)
        refine lv_goto (tgt := 84) hx hb dX8_cause_121 (by decide) ?_
        exact ih x1 x2 x4 (x5 + (1 : Int32)) (fw_u τ11 0 8 ((fw_g σ 0 8) ||| ((1 : Int32) <<< (x5 &&& 31)))) hf _ _ _ hH (lv_sub hl [1, 2, 3, 4, 0] rfl)
def pX8_cause_7 : Nat → Int32 → Int32 → Int32 → fw_T → Option (Int32 × fw_T)
  | 0, _, _, _, _ => none
  | n + 1, x1, x2, x3, σ =>
    if (10 : Int32) ≤ x3 then
      if (fw_g σ 0 8) = 0 then
        some ((0 : Int32), σ)
      else
        fw_b2 (pX8_dropper (0 : Int32) x1 x2 σ) fun w3 τ2 =>
        if w3 = (-10001 : Int32) then
          pX8_cause_84 400 x1 x2 (fw_g τ2 0 8) (0 : Int32) (fw_u τ2 0 8 (0 : Int32))
        else
          some (w3, τ2)
    else
      fw_b2 (pX8_hasLeft x1 x3 σ) fun w15 τ14 =>
      if w15 = 0 then
        pX8_cause_7 n x1 x2 (x3 + (1 : Int32)) (fw_u τ14 0 8 ((fw_g σ 0 8) ||| (0 : Int32)))
      else
        pX8_cause_7 n x1 x2 (x3 + (1 : Int32)) (fw_u τ14 0 8 ((fw_g σ 0 8) ||| ((1 : Int32) <<< (x3 &&& 31))))
set_option maxRecDepth 100000 in
set_option maxHeartbeats 4000000 in
theorem wX8_cause_7 {args : Array Value} {r : Int32} {σ' : fw_T} (X : fmX p m c cX8_cause 6 s args RX8 meth (some .int) D cI cB)  : ∀ (n : Nat), ∀ (x1 : Int32), ∀ (x2 : Int32), ∀ (x3 : Int32), ∀ (σ : fw_T), pX8_cause_7 n x1 x2 x3 σ = some (r, σ') → ∀ (H : Heap) (locs : List Loc) (ls : Array Slot), fmH D cI cB adr A s H locs σ → lv_has ls 6 [(0, .ref (adr 0)), (1, .int x1), (2, .int x2), (3, .int x3)] → W p l e rmX8_cause s m args below meth c H locs 0 0 (fw_Qi D 7 adr (fw_M cI cB adr) A below args s r σ') (F0 m 7 ls []) := by
  have hx := X.1.1
  have hb := X.1.2.1
  intro n
  induction n with
  | zero =>
    intro x1 x2 x3 σ hf
    exact absurd hf (by simp [pX8_cause_7])
  | succ n ih =>
    intro x1 x2 x3 σ hf H locs ls hH hl
    rw [pX8_cause_7] at hf
    refine lv_iload_n hx hb dX8_cause_7 rfl (lv_at hl 3 rfl) ?_
    refine lv_bipush (v := (10 : Int32)) hx hb dX8_cause_8 (by decide) ?_
    refine lv_icmp_ge (tgt := 44) hx hb dX8_cause_10 (by decide) (fun hc => ?_) (fun hc => ?_)
    · have hf := fw_pos hc hf
      refine lv_aload_n hx hb dX8_cause_44 rfl (lv_at hl 0 rfl) ?_
      refine fw_get (id := 0) (k := 8) (v := .int (fw_g σ 0 8)) X hH (by decide) rfl rfl inX8 (by decide) rfl tw_3_210 dX8_cause_45 ?_
      refine lv_if_ne (tgt := 53) hx hb dX8_cause_48 (by decide) (fun hc => ?_) (fun hc => ?_)
      · have hf := fw_neg hc hf
        refine lv_aload_n hx hb dX8_cause_53 rfl (lv_at hl 0 rfl) ?_
        refine lv_iconst (v := (0 : Int32)) hx hb dX8_cause_54 (by decide) ?_
        refine lv_iload_n hx hb dX8_cause_55 rfl (lv_at hl 1 rfl) ?_
        refine lv_iload_n hx hb dX8_cause_56 rfl (lv_at hl 2 rfl) ?_
        obtain ⟨w3, τ2, g1, hf⟩ := fw_b2s hf
        refine fw_ci hH (fw_rV (As := [.int (0 : Int32), .int x1, .int x2]) (rest := []) (id := 0) X hH (kX8_dropper  g1 _) qX8_dropper tw_4_169 ⟨Nat.le_of_ble_eq_true rfl, Nat.le_of_ble_eq_true rfl⟩ rfl rfl (by decide) rfl rfl rfl hl.1 rfl (Nat.le_of_ble_eq_true rfl) dX8_cause_57) (fun H locs hH => ?_)
        refine lv_istore_n (lv' := [(3, .int w3), (0, .ref (adr 0)), (1, .int x1), (2, .int x2)]) hx hb dX8_cause_60 rfl hl (by decide) rfl (fun ls hl => ?_)
        refine lv_iload_n hx hb dX8_cause_61 rfl (lv_at hl 0 rfl) ?_
        refine lv_sipush (v := (-10001 : Int32)) hx hb dX8_cause_62 (by decide) ?_
        refine lv_icmp_eq (tgt := 70) hx hb dX8_cause_65 (by decide) (fun hc => ?_) (fun hc => ?_)
        · have hf := fw_pos hc hf
          refine lv_aload_n hx hb dX8_cause_70 rfl (lv_at hl 1 rfl) ?_
          refine fw_get (id := 0) (k := 8) (v := .int (fw_g τ2 0 8)) X hH (by decide) rfl rfl inX8 (by decide) rfl tw_3_210 dX8_cause_71 ?_
          refine lv_istore (lv' := [(4, .int (fw_g τ2 0 8)), (3, .int w3), (0, .ref (adr 0)), (1, .int x1), (2, .int x2)]) hx hb dX8_cause_74 hl (by decide) rfl (fun ls hl => ?_)
          refine lv_aload_n hx hb dX8_cause_76 rfl (lv_at hl 2 rfl) ?_
          refine lv_iconst (v := (0 : Int32)) hx hb dX8_cause_77 (by decide) ?_
          refine fw_put (id := 0) (k := 8) (v := .int (0 : Int32)) (ty := .int) (σ' := (fw_u τ2 0 8 (0 : Int32))) X hH (by decide) rfl fpm_8 (fun j h => fm_ne h) rfl inX8 tyX8 tyX8_ok nmX8 (by decide) (Nat.le_of_ble_eq_true rfl) rfl (by decide +kernel) rfl rfl tw_3_210 dX8_cause_78 (fun H locs hH => ?_)
          refine lv_iconst (v := (0 : Int32)) hx hb dX8_cause_81 (by decide) ?_
          refine lv_istore (lv' := [(5, .int (0 : Int32)), (4, .int (fw_g τ2 0 8)), (3, .int w3), (0, .ref (adr 0)), (1, .int x1), (2, .int x2)]) hx hb dX8_cause_82 hl (by decide) rfl (fun ls hl => ?_)
          exact wX8_cause_84 X 400 x1 x2 (fw_g τ2 0 8) (0 : Int32) (fw_u τ2 0 8 (0 : Int32)) hf _ _ _ hH (lv_sub hl [3, 4, 5, 1, 0] rfl)
        · have hf := fw_neg hc hf
          refine lv_iload_n hx hb dX8_cause_68 rfl (lv_at hl 0 rfl) ?_
          obtain ⟨rfl, rfl⟩ := fw_s2 hf
          exact fw_reti X hH dX8_cause_69
      · have hf := fw_pos hc hf
        refine lv_iconst (v := (0 : Int32)) hx hb dX8_cause_51 (by decide) ?_
        obtain ⟨rfl, rfl⟩ := fw_s2 hf
        exact fw_reti X hH dX8_cause_52
    · have hf := fw_neg hc hf
      refine lv_aload_n hx hb dX8_cause_13 rfl (lv_at hl 0 rfl) ?_
      refine lv_dup hx hb dX8_cause_14 rfl ?_
      refine fw_get (id := 0) (k := 8) (v := .int (fw_g σ 0 8)) X hH (by decide) rfl rfl inX8 (by decide) rfl tw_3_210 dX8_cause_15 ?_
      refine lv_aload_n hx hb dX8_cause_18 rfl (lv_at hl 0 rfl) ?_
      refine lv_iload_n hx hb dX8_cause_19 rfl (lv_at hl 1 rfl) ?_
      refine lv_iload_n hx hb dX8_cause_20 rfl (lv_at hl 3 rfl) ?_
      obtain ⟨w15, τ14, g13, hf⟩ := fw_b2s hf
      refine fw_ci hH (fw_rV (As := [.int x1, .int x3]) (rest := [.int (fw_g σ 0 8), .ref (adr 0)]) (id := 0) X hH (kX8_hasLeft  g13 _) qX8_hasLeft tw_4_133 ⟨Nat.le_of_ble_eq_true rfl, Nat.le_of_ble_eq_true rfl⟩ rfl rfl (by decide) rfl rfl rfl hl.1 rfl (Nat.le_of_ble_eq_true rfl) dX8_cause_21) (fun H locs hH => ?_)
      refine lv_if_eq (tgt := 33) hx hb dX8_cause_24 (by decide) (fun hc => ?_) (fun hc => ?_)
      · have hf := fw_pos hc hf
        refine lv_iconst (v := (0 : Int32)) hx hb dX8_cause_33 (by decide) ?_
        refine lv_ior hx hb dX8_cause_34 ?_
        refine fw_put (id := 0) (k := 8) (v := .int ((fw_g σ 0 8) ||| (0 : Int32))) (ty := .int) (σ' := (fw_u τ14 0 8 ((fw_g σ 0 8) ||| (0 : Int32)))) X hH (by decide) rfl fpm_8 (fun j h => fm_ne h) rfl inX8 tyX8 tyX8_ok nmX8 (by decide) (Nat.le_of_ble_eq_true rfl) rfl (by decide +kernel) rfl rfl tw_3_210 dX8_cause_35 (fun H locs hH => ?_)
        refine lv_iinc (v := (x3 + (1 : Int32))) (lv' := [(3, .int (x3 + (1 : Int32))), (0, .ref (adr 0)), (1, .int x1), (2, .int x2)]) hx hb dX8_cause_38 hl (k := 3) rfl rfl (by decide) rfl (fun ls hl => ?_)
        refine lv_goto (tgt := 7) hx hb dX8_cause_41 (by decide) ?_
        exact ih x1 x2 (x3 + (1 : Int32)) (fw_u τ14 0 8 ((fw_g σ 0 8) ||| (0 : Int32))) hf _ _ _ hH (lv_sub hl [1, 2, 3, 0] rfl)
      · have hf := fw_neg hc hf
        refine lv_iconst (v := (1 : Int32)) hx hb dX8_cause_27 (by decide) ?_
        refine lv_iload_n hx hb dX8_cause_28 rfl (lv_at hl 3 rfl) ?_
        refine lv_ishl hx hb dX8_cause_29 ?_
        refine lv_goto (tgt := 34) hx hb dX8_cause_30 (by decide) ?_
        refine lv_ior hx hb dX8_cause_34 ?_
        refine fw_put (id := 0) (k := 8) (v := .int ((fw_g σ 0 8) ||| ((1 : Int32) <<< (x3 &&& 31)))) (ty := .int) (σ' := (fw_u τ14 0 8 ((fw_g σ 0 8) ||| ((1 : Int32) <<< (x3 &&& 31))))) X hH (by decide) rfl fpm_8 (fun j h => fm_ne h) rfl inX8 tyX8 tyX8_ok nmX8 (by decide) (Nat.le_of_ble_eq_true rfl) rfl (by decide +kernel) rfl rfl tw_3_210 dX8_cause_35 (fun H locs hH => ?_)
        refine lv_iinc (v := (x3 + (1 : Int32))) (lv' := [(3, .int (x3 + (1 : Int32))), (0, .ref (adr 0)), (1, .int x1), (2, .int x2)]) hx hb dX8_cause_38 hl (k := 3) rfl rfl (by decide) rfl (fun ls hl => ?_)
        refine lv_goto (tgt := 7) hx hb dX8_cause_41 (by decide) ?_
        exact ih x1 x2 (x3 + (1 : Int32)) (fw_u τ14 0 8 ((fw_g σ 0 8) ||| ((1 : Int32) <<< (x3 &&& 31)))) hf _ _ _ hH (lv_sub hl [1, 2, 3, 0] rfl)
def pX8_cause (x1 : Int32) (x2 : Int32) (σ : fw_T) : Option (Int32 × fw_T) :=
  pX8_cause_7 400 x1 x2 (0 : Int32) (fw_u σ 0 8 (0 : Int32))
set_option maxRecDepth 100000 in
set_option maxHeartbeats 4000000 in
theorem kX8_cause {x1 : Int32} {x2 : Int32} {r : Int32} {σ σ' : fw_T} (hf : pX8_cause x1 x2 σ = some (r, σ')) : fw_Ci l yX8_cause (Cond.code yX8_cause cX8_cause 6 (some .int) :: lwT) rmX8_cause [.ref (adr 0), .int x1, .int x2] D 7 adr (fw_M cI cB adr) (fmT cI cB) [] σ r σ' := by
  refine fw_start (Qc := (fun A => va_Qi (fun r' (_ : Unit) => r' = r) (fun _ t => va_P D vwCl (fw_ws 7 adr (fw_M cI cB adr σ')) t.heap) A)) (by decide) (by simp [lg_sl, Value.category]) rfl ?_
  intro p e s m below meth c A X hH ls hl
  have hx := X.1.1
  have hb := X.1.2.1
  have hl : lv_has ls 6 [(0, .ref (adr 0)), (1, .int x1), (2, .int x2)] := hl
  unfold pX8_cause at hf
  refine lv_aload_n hx hb dX8_cause_0 rfl (lv_at hl 0 rfl) ?_
  refine lv_iconst (v := (0 : Int32)) hx hb dX8_cause_1 (by decide) ?_
  refine fw_put (id := 0) (k := 8) (v := .int (0 : Int32)) (ty := .int) (σ' := (fw_u σ 0 8 (0 : Int32))) X hH (by decide) rfl fpm_8 (fun j h => fm_ne h) rfl inX8 tyX8 tyX8_ok nmX8 (by decide) (Nat.le_of_ble_eq_true rfl) rfl (by decide +kernel) rfl rfl tw_3_210 dX8_cause_2 (fun H locs hH => ?_)
  refine lv_iconst (v := (0 : Int32)) hx hb dX8_cause_5 (by decide) ?_
  refine lv_istore_n (lv' := [(3, .int (0 : Int32)), (0, .ref (adr 0)), (1, .int x1), (2, .int x2)]) hx hb dX8_cause_6 rfl hl (by decide) rfl (fun ls hl => ?_)
  exact wX8_cause_7 X 400 x1 x2 (0 : Int32) (fw_u σ 0 8 (0 : Int32)) hf _ _ _ hH (lv_sub hl [1, 2, 3, 0] rfl)
abbrev rmX8_blame : Room := { frames := 4, cells := 0, slots := 0, locals := 98 }
theorem qX8_blame : fw_QV RX8 yX8_blame cX8_blame 3 (some .int) 2 := ⟨⟨tw_4_162, tw_4_163, tw_1_10, tw_4_164⟩, by decide +kernel⟩
def pX8_blame (x1 : Int32) (x2 : Int32) (σ : fw_T) : Option (Int32 × fw_T) :=
  fw_b2 (pX8_isDigitPair x1 x2 σ) fun w3 τ2 =>
  if w3 = 0 then
    fw_b2 (pX8_fail (-10002 : Int32) τ2) fun w6 τ5 =>
    some (w6, τ5)
  else
    fw_b2 (pX8_cause x1 x2 τ2) fun w9 τ8 =>
    some (w9, τ8)
set_option maxRecDepth 100000 in
set_option maxHeartbeats 4000000 in
theorem kX8_blame {x1 : Int32} {x2 : Int32} {r : Int32} {σ σ' : fw_T} (hf : pX8_blame x1 x2 σ = some (r, σ')) : fw_Ci l yX8_blame (Cond.code yX8_blame cX8_blame 3 (some .int) :: lwT) rmX8_blame [.ref (adr 0), .int x1, .int x2] D 7 adr (fw_M cI cB adr) (fmT cI cB) [] σ r σ' := by
  refine fw_start (Qc := (fun A => va_Qi (fun r' (_ : Unit) => r' = r) (fun _ t => va_P D vwCl (fw_ws 7 adr (fw_M cI cB adr σ')) t.heap) A)) (by decide) (by simp [lg_sl, Value.category]) rfl ?_
  intro p e s m below meth c A X hH ls hl
  have hx := X.1.1
  have hb := X.1.2.1
  have hl : lv_has ls 3 [(0, .ref (adr 0)), (1, .int x1), (2, .int x2)] := hl
  unfold pX8_blame at hf
  refine lv_iload_n hx hb dX8_blame_0 rfl (lv_at hl 1 rfl) ?_
  refine lv_iload_n hx hb dX8_blame_1 rfl (lv_at hl 2 rfl) ?_
  obtain ⟨w3, τ2, g1, hf⟩ := fw_b2s hf
  refine fw_ci hH (fw_rS (As := [.int x1, .int x2]) (rest := []) X hH (kX8_isDigitPair  g1 _) qX8_isDigitPair tw_4_14 ⟨Nat.le_of_ble_eq_true rfl, Nat.le_of_ble_eq_true rfl⟩ rfl rfl rfl hl.1 rfl (Nat.le_of_ble_eq_true rfl) dX8_blame_2) (fun H locs hH => ?_)
  refine lv_if_eq (tgt := 17) hx hb dX8_blame_5 (by decide) (fun hc => ?_) (fun hc => ?_)
  · have hf := fw_pos hc hf
    refine lv_aload_n hx hb dX8_blame_17 rfl (lv_at hl 0 rfl) ?_
    refine lv_sipush (v := (-10002 : Int32)) hx hb dX8_blame_18 (by decide) ?_
    obtain ⟨w6, τ5, g4, hf⟩ := fw_b2s hf
    refine fw_ci hH (fw_rV (As := [.int (-10002 : Int32)]) (rest := []) (id := 0) X hH (kX8_fail  g4 _) qX8_fail tw_4_20 ⟨Nat.le_of_ble_eq_true rfl, Nat.le_of_ble_eq_true rfl⟩ rfl rfl (by decide) rfl rfl rfl hl.1 rfl (Nat.le_of_ble_eq_true rfl) dX8_blame_21) (fun H locs hH => ?_)
    obtain ⟨rfl, rfl⟩ := fw_s2 hf
    exact fw_reti X hH dX8_blame_24
  · have hf := fw_neg hc hf
    refine lv_aload_n hx hb dX8_blame_8 rfl (lv_at hl 0 rfl) ?_
    refine lv_iload_n hx hb dX8_blame_9 rfl (lv_at hl 1 rfl) ?_
    refine lv_iload_n hx hb dX8_blame_10 rfl (lv_at hl 2 rfl) ?_
    obtain ⟨w9, τ8, g7, hf⟩ := fw_b2s hf
    refine fw_ci hH (fw_rV (As := [.int x1, .int x2]) (rest := []) (id := 0) X hH (kX8_cause  g7 _) qX8_cause tw_4_165 ⟨Nat.le_of_ble_eq_true rfl, Nat.le_of_ble_eq_true rfl⟩ rfl rfl (by decide) rfl rfl rfl hl.1 rfl (Nat.le_of_ble_eq_true rfl) dX8_blame_11) (fun H locs hH => ?_)
    refine lv_goto (tgt := 24) hx hb dX8_blame_14 (by decide) ?_
    obtain ⟨rfl, rfl⟩ := fw_s2 hf
    exact fw_reti X hH dX8_blame_24
abbrev rmX8_ones : Room := { frames := 0, cells := 0, slots := 0, locals := 0 }
theorem qX8_ones : fw_QS yX8_ones cX8_ones 3 (some .int) 1 := ⟨⟨tw_4_182, tw_1_10, tw_4_183⟩, by decide +kernel⟩
def pX8_ones_4 : Nat → Int32 → Int32 → Int32 → fw_T → Option (Int32 × fw_T)
  | 0, _, _, _, _ => none
  | n + 1, x0, x1, x2, σ =>
    if (6 : Int32) ≤ x2 then
      some (x1, σ)
    else
      pX8_ones_4 n x0 (x1 + ((x0 >>> (x2 &&& 31)) &&& (1 : Int32))) (x2 + (1 : Int32)) σ
set_option maxRecDepth 100000 in
set_option maxHeartbeats 4000000 in
theorem wX8_ones_4 {args : Array Value} {r : Int32} {σ' : fw_T} (X : fmX p m c cX8_ones 3 s args RX8 meth (some .int) D cI cB)  : ∀ (n : Nat), ∀ (x0 : Int32), ∀ (x1 : Int32), ∀ (x2 : Int32), ∀ (σ : fw_T), pX8_ones_4 n x0 x1 x2 σ = some (r, σ') → ∀ (H : Heap) (locs : List Loc) (ls : Array Slot), fmH D cI cB adr A s H locs σ → lv_has ls 3 [(0, .int x0), (1, .int x1), (2, .int x2)] → W p l e rmX8_ones s m args below meth c H locs 0 0 (fw_Qi D 7 adr (fw_M cI cB adr) A below args s r σ') (F0 m 4 ls []) := by
  have hx := X.1.1
  have hb := X.1.2.1
  intro n
  induction n with
  | zero =>
    intro x0 x1 x2 σ hf
    exact absurd hf (by simp [pX8_ones_4])
  | succ n ih =>
    intro x0 x1 x2 σ hf H locs ls hH hl
    rw [pX8_ones_4] at hf
    refine lv_iload_n hx hb dX8_ones_4 rfl (lv_at hl 2 rfl) ?_
    refine lv_bipush (v := (6 : Int32)) hx hb dX8_ones_5 (by decide) ?_
    refine lv_icmp_ge (tgt := 24) hx hb dX8_ones_7 (by decide) (fun hc => ?_) (fun hc => ?_)
    · have hf := fw_pos hc hf
      refine lv_iload_n hx hb dX8_ones_24 rfl (lv_at hl 1 rfl) ?_
      obtain ⟨rfl, rfl⟩ := fw_s2 hf
      exact fw_reti X hH dX8_ones_25
    · have hf := fw_neg hc hf
      refine lv_iload_n hx hb dX8_ones_10 rfl (lv_at hl 1 rfl) ?_
      refine lv_iload_n hx hb dX8_ones_11 rfl (lv_at hl 0 rfl) ?_
      refine lv_iload_n hx hb dX8_ones_12 rfl (lv_at hl 2 rfl) ?_
      refine lv_ishr hx hb dX8_ones_13 ?_
      refine lv_iconst (v := (1 : Int32)) hx hb dX8_ones_14 (by decide) ?_
      refine lv_iand hx hb dX8_ones_15 ?_
      refine lv_iadd hx hb dX8_ones_16 ?_
      refine lv_istore_n (lv' := [(1, .int (x1 + ((x0 >>> (x2 &&& 31)) &&& (1 : Int32)))), (0, .int x0), (2, .int x2)]) hx hb dX8_ones_17 rfl hl (by decide) rfl (fun ls hl => ?_)
      refine lv_iinc (v := (x2 + (1 : Int32))) (lv' := [(2, .int (x2 + (1 : Int32))), (1, .int (x1 + ((x0 >>> (x2 &&& 31)) &&& (1 : Int32)))), (0, .int x0)]) hx hb dX8_ones_18 hl (k := 2) rfl rfl (by decide) rfl (fun ls hl => ?_)
      refine lv_goto (tgt := 4) hx hb dX8_ones_21 (by decide) ?_
      exact ih x0 (x1 + ((x0 >>> (x2 &&& 31)) &&& (1 : Int32))) (x2 + (1 : Int32)) σ hf _ _ _ hH (lv_sub hl [2, 1, 0] rfl)
def pX8_ones (x0 : Int32) (σ : fw_T) : Option (Int32 × fw_T) :=
  pX8_ones_4 400 x0 (0 : Int32) (0 : Int32) σ
set_option maxRecDepth 100000 in
set_option maxHeartbeats 4000000 in
theorem kX8_ones {x0 : Int32} {r : Int32} {σ σ' : fw_T} (hf : pX8_ones x0 σ = some (r, σ')) : fw_Ci l yX8_ones (Cond.code yX8_ones cX8_ones 3 (some .int) :: lwT) rmX8_ones [.int x0] D 7 adr (fw_M cI cB adr) (fmT cI cB) [] σ r σ' := by
  refine fw_start (Qc := (fun A => va_Qi (fun r' (_ : Unit) => r' = r) (fun _ t => va_P D vwCl (fw_ws 7 adr (fw_M cI cB adr σ')) t.heap) A)) (by decide) (by simp [lg_sl, Value.category]) rfl ?_
  intro p e s m below meth c A X hH ls hl
  have hx := X.1.1
  have hb := X.1.2.1
  have hl : lv_has ls 3 [(0, .int x0)] := hl
  unfold pX8_ones at hf
  refine lv_iconst (v := (0 : Int32)) hx hb dX8_ones_0 (by decide) ?_
  refine lv_istore_n (lv' := [(1, .int (0 : Int32)), (0, .int x0)]) hx hb dX8_ones_1 rfl hl (by decide) rfl (fun ls hl => ?_)
  refine lv_iconst (v := (0 : Int32)) hx hb dX8_ones_2 (by decide) ?_
  refine lv_istore_n (lv' := [(2, .int (0 : Int32)), (1, .int (0 : Int32)), (0, .int x0)]) hx hb dX8_ones_3 rfl hl (by decide) rfl (fun ls hl => ?_)
  exact wX8_ones_4 X 400 x0 (0 : Int32) (0 : Int32) σ hf _ _ _ hH (lv_sub hl [2, 1, 0] rfl)
abbrev rmX8_removal : Room := { frames := 5, cells := 0, slots := 0, locals := 124 }
theorem qX8_removal : fw_QV RX8 yX8_removal cX8_removal 6 (some .int) 2 := ⟨⟨tw_4_179, tv_X8_removal, tw_1_10, tw_4_180⟩, by decide +kernel⟩
def pX8_removal_46 (K17 : Int32 → Int32 → Int32 → Int32 → fw_T → Option (Int32 × fw_T)) (x1 : Int32) (x2 : Int32) (x3 : Int32) (x4 : Int32) (y0 : Int32) (σ : fw_T) : Option (Int32 × fw_T) :=
  if y0 = 0 then
    K17 x1 x2 x3 (x4 + (-1 : Int32)) σ
  else
    fw_b2 (pX8_matches x1 x2 x4 σ) fun w5 τ4 =>
    if w5 ≤ 0 then
      K17 x1 x2 x3 (x4 + (-1 : Int32)) τ4
    else
      K17 x1 x2 x4 (x4 + (-1 : Int32)) τ4
set_option maxRecDepth 100000 in
set_option maxHeartbeats 4000000 in
theorem wX8_removal_46 {args : Array Value} {r : Int32} {σ' : fw_T} {K17 : Int32 → Int32 → Int32 → Int32 → fw_T → Option (Int32 × fw_T)} (X : fmX p m c cX8_removal 6 s args RX8 meth (some .int) D cI cB) (hK17 : ∀ (x1 : Int32), ∀ (x2 : Int32), ∀ (x3 : Int32), ∀ (x4 : Int32), ∀ (σ : fw_T), K17 x1 x2 x3 x4 σ = some (r, σ') → ∀ (H : Heap) (locs : List Loc) (ls : Array Slot), fmH D cI cB adr A s H locs σ → lv_has ls 6 [(0, .ref (adr 0)), (1, .int x1), (2, .int x2), (3, .int x3), (4, .int x4)] → W p l e rmX8_removal s m args below meth c H locs 0 0 (fw_Qi D 7 adr (fw_M cI cB adr) A below args s r σ') (F0 m 17 ls [])) : ∀ (x1 : Int32), ∀ (x2 : Int32), ∀ (x3 : Int32), ∀ (x4 : Int32), ∀ (y0 : Int32), ∀ (σ : fw_T), pX8_removal_46 K17 x1 x2 x3 x4 y0 σ = some (r, σ') → ∀ (H : Heap) (locs : List Loc) (ls : Array Slot), fmH D cI cB adr A s H locs σ → lv_has ls 6 [(0, .ref (adr 0)), (1, .int x1), (2, .int x2), (3, .int x3), (4, .int x4)] → W p l e rmX8_removal s m args below meth c H locs 0 0 (fw_Qi D 7 adr (fw_M cI cB adr) A below args s r σ') (F0 m 46 ls [.int y0]) := by
  have hx := X.1.1
  have hb := X.1.2.1
  intro x1 x2 x3 x4 y0 σ hf H locs ls hH hl
  unfold pX8_removal_46 at hf
  refine lv_istore (lv' := [(5, .int y0), (0, .ref (adr 0)), (1, .int x1), (2, .int x2), (3, .int x3), (4, .int x4)]) hx hb dX8_removal_46 hl (by decide) rfl (fun ls hl => ?_)
  refine lv_iload hx hb dX8_removal_48 (lv_at hl 0 rfl) ?_
  refine lv_if_eq (tgt := 69) hx hb dX8_removal_50 (by decide) (fun hc => ?_) (fun hc => ?_)
  · have hf := fw_pos hc hf
    refine lv_iload_n hx hb dX8_removal_69 rfl (lv_at hl 4 rfl) ?_
    refine lv_istore_n (lv' := [(3, .int x3), (5, .int y0), (0, .ref (adr 0)), (1, .int x1), (2, .int x2), (4, .int x4)]) hx hb dX8_removal_70 rfl hl (by decide) rfl (fun ls hl => ?_)
    refine lv_iinc (v := (x4 + (-1 : Int32))) (lv' := [(4, .int (x4 + (-1 : Int32))), (3, .int x3), (5, .int y0), (0, .ref (adr 0)), (1, .int x1), (2, .int x2)]) hx hb dX8_removal_71 hl (k := 5) rfl rfl (by decide) rfl (fun ls hl => ?_)
    refine lv_goto (tgt := 17) hx hb dX8_removal_74 (by decide) ?_
    exact hK17 x1 x2 x3 (x4 + (-1 : Int32)) σ hf _ _ _ hH (lv_sub hl [3, 4, 5, 1, 0] rfl)
  · have hf := fw_neg hc hf
    refine lv_aload_n hx hb dX8_removal_53 rfl (lv_at hl 1 rfl) ?_
    refine lv_iload_n hx hb dX8_removal_54 rfl (lv_at hl 2 rfl) ?_
    refine lv_iload_n hx hb dX8_removal_55 rfl (lv_at hl 3 rfl) ?_
    refine lv_iload hx hb dX8_removal_56 (lv_at hl 5 rfl) ?_
    obtain ⟨w5, τ4, g3, hf⟩ := fw_b2s hf
    refine fw_ci hH (fw_rV (As := [.int x1, .int x2, .int x4]) (rest := []) (id := 0) X hH (kX8_matches  g3 _) qX8_matches tw_4_129 ⟨Nat.le_of_ble_eq_true rfl, Nat.le_of_ble_eq_true rfl⟩ rfl rfl (by decide) rfl rfl rfl hl.1 rfl (Nat.le_of_ble_eq_true rfl) dX8_removal_58) (fun H locs hH => ?_)
    refine lv_if_le (tgt := 69) hx hb dX8_removal_61 (by decide) (fun hc => ?_) (fun hc => ?_)
    · have hf := fw_pos hc hf
      refine lv_iload_n hx hb dX8_removal_69 rfl (lv_at hl 4 rfl) ?_
      refine lv_istore_n (lv' := [(3, .int x3), (5, .int y0), (0, .ref (adr 0)), (1, .int x1), (2, .int x2), (4, .int x4)]) hx hb dX8_removal_70 rfl hl (by decide) rfl (fun ls hl => ?_)
      refine lv_iinc (v := (x4 + (-1 : Int32))) (lv' := [(4, .int (x4 + (-1 : Int32))), (3, .int x3), (5, .int y0), (0, .ref (adr 0)), (1, .int x1), (2, .int x2)]) hx hb dX8_removal_71 hl (k := 5) rfl rfl (by decide) rfl (fun ls hl => ?_)
      refine lv_goto (tgt := 17) hx hb dX8_removal_74 (by decide) ?_
      exact hK17 x1 x2 x3 (x4 + (-1 : Int32)) τ4 hf _ _ _ hH (lv_sub hl [3, 4, 5, 1, 0] rfl)
    · have hf := fw_neg hc hf
      refine lv_iload hx hb dX8_removal_64 (lv_at hl 5 rfl) ?_
      refine lv_goto (tgt := 70) hx hb dX8_removal_66 (by decide) ?_
      refine lv_istore_n (lv' := [(3, .int x4), (5, .int y0), (0, .ref (adr 0)), (1, .int x1), (2, .int x2), (4, .int x4)]) hx hb dX8_removal_70 rfl hl (by decide) rfl (fun ls hl => ?_)
      refine lv_iinc (v := (x4 + (-1 : Int32))) (lv' := [(4, .int (x4 + (-1 : Int32))), (3, .int x4), (5, .int y0), (0, .ref (adr 0)), (1, .int x1), (2, .int x2)]) hx hb dX8_removal_71 hl (k := 5) rfl rfl (by decide) rfl (fun ls hl => ?_)
      refine lv_goto (tgt := 17) hx hb dX8_removal_74 (by decide) ?_
      exact hK17 x1 x2 x4 (x4 + (-1 : Int32)) τ4 hf _ _ _ hH (lv_sub hl [3, 4, 5, 1, 0] rfl)
def pX8_removal_17 : Nat → Int32 → Int32 → Int32 → Int32 → fw_T → Option (Int32 × fw_T)
  | 0, _, _, _, _, _ => none
  | n + 1, x1, x2, x3, x4, σ =>
    if x4 < 0 then
      some (x3, σ)
    else
      if x3 = (-10001 : Int32) then
        pX8_removal_46 (fun a0 a1 a2 a3 σ => pX8_removal_17 n a0 a1 a2 a3 σ) x1 x2 x3 x4 (1 : Int32) σ
      else
        fw_b2 (pX8_ones x4 σ) fun w8 τ7 =>
        fw_b2 (pX8_ones x3 τ7) fun w11 τ10 =>
        if w11 < w8 then
          pX8_removal_46 (fun a0 a1 a2 a3 σ => pX8_removal_17 n a0 a1 a2 a3 σ) x1 x2 x3 x4 (0 : Int32) τ10
        else
          pX8_removal_46 (fun a0 a1 a2 a3 σ => pX8_removal_17 n a0 a1 a2 a3 σ) x1 x2 x3 x4 (1 : Int32) τ10
set_option maxRecDepth 100000 in
set_option maxHeartbeats 4000000 in
theorem wX8_removal_17 {args : Array Value} {r : Int32} {σ' : fw_T} (X : fmX p m c cX8_removal 6 s args RX8 meth (some .int) D cI cB)  : ∀ (n : Nat), ∀ (x1 : Int32), ∀ (x2 : Int32), ∀ (x3 : Int32), ∀ (x4 : Int32), ∀ (σ : fw_T), pX8_removal_17 n x1 x2 x3 x4 σ = some (r, σ') → ∀ (H : Heap) (locs : List Loc) (ls : Array Slot), fmH D cI cB adr A s H locs σ → lv_has ls 6 [(0, .ref (adr 0)), (1, .int x1), (2, .int x2), (3, .int x3), (4, .int x4)] → W p l e rmX8_removal s m args below meth c H locs 0 0 (fw_Qi D 7 adr (fw_M cI cB adr) A below args s r σ') (F0 m 17 ls []) := by
  have hx := X.1.1
  have hb := X.1.2.1
  intro n
  induction n with
  | zero =>
    intro x1 x2 x3 x4 σ hf
    exact absurd hf (by simp [pX8_removal_17])
  | succ n ih =>
    intro x1 x2 x3 x4 σ hf H locs ls hH hl
    rw [pX8_removal_17] at hf
    refine lv_iload hx hb dX8_removal_17 (lv_at hl 4 rfl) ?_
    refine lv_if_lt (tgt := 77) hx hb dX8_removal_19 (by decide) (fun hc => ?_) (fun hc => ?_)
    · have hf := fw_pos hc hf
      refine lv_iload_n hx hb dX8_removal_77 rfl (lv_at hl 3 rfl) ?_
      obtain ⟨rfl, rfl⟩ := fw_s2 hf
      exact fw_reti X hH dX8_removal_78
    · have hf := fw_neg hc hf
      refine lv_iload_n hx hb dX8_removal_22 rfl (lv_at hl 3 rfl) ?_
      refine lv_sipush (v := (-10001 : Int32)) hx hb dX8_removal_23 (by decide) ?_
      refine lv_icmp_eq (tgt := 41) hx hb dX8_removal_26 (by decide) (fun hc => ?_) (fun hc => ?_)
      · have hf := fw_pos hc hf
        refine lv_iconst (v := (1 : Int32)) hx hb dX8_removal_41 (by decide) ?_
        refine lv_goto (tgt := 46) hx hb dX8_removal_42 (by decide) ?_
        exact wX8_removal_46 X ih x1 x2 x3 x4 (1 : Int32) σ hf _ _ _ hH (lv_sub hl [0, 1, 2, 3, 4] rfl)
      · have hf := fw_neg hc hf
        refine lv_iload hx hb dX8_removal_29 (lv_at hl 4 rfl) ?_
        obtain ⟨w8, τ7, g6, hf⟩ := fw_b2s hf
        refine fw_ci hH (fw_rS (As := [.int x4]) (rest := []) X hH (kX8_ones  g6 _) qX8_ones tw_4_181 ⟨Nat.le_of_ble_eq_true rfl, Nat.le_of_ble_eq_true rfl⟩ rfl rfl rfl hl.1 rfl (Nat.le_of_ble_eq_true rfl) dX8_removal_31) (fun H locs hH => ?_)
        refine lv_iload_n hx hb dX8_removal_34 rfl (lv_at hl 3 rfl) ?_
        obtain ⟨w11, τ10, g9, hf⟩ := fw_b2s hf
        refine fw_ci hH (fw_rS (As := [.int x3]) (rest := [.int w8]) X hH (kX8_ones  g9 _) qX8_ones tw_4_181 ⟨Nat.le_of_ble_eq_true rfl, Nat.le_of_ble_eq_true rfl⟩ rfl rfl rfl hl.1 rfl (Nat.le_of_ble_eq_true rfl) dX8_removal_35) (fun H locs hH => ?_)
        refine lv_icmp_gt (tgt := 45) hx hb dX8_removal_38 (by decide) (fun hc => ?_) (fun hc => ?_)
        · have hf := fw_pos hc hf
          refine lv_iconst (v := (0 : Int32)) hx hb dX8_removal_45 (by decide) ?_
          exact wX8_removal_46 X ih x1 x2 x3 x4 (0 : Int32) τ10 hf _ _ _ hH (lv_sub hl [0, 1, 2, 3, 4] rfl)
        · have hf := fw_neg hc hf
          refine lv_iconst (v := (1 : Int32)) hx hb dX8_removal_41 (by decide) ?_
          refine lv_goto (tgt := 46) hx hb dX8_removal_42 (by decide) ?_
          exact wX8_removal_46 X ih x1 x2 x3 x4 (1 : Int32) τ10 hf _ _ _ hH (lv_sub hl [0, 1, 2, 3, 4] rfl)
def pX8_removal (x1 : Int32) (x2 : Int32) (σ : fw_T) : Option (Int32 × fw_T) :=
  (fw_rd σ 1 52 (22 : Int32)).bind fun w1 =>
  pX8_removal_17 400 x1 x2 (-10001 : Int32) (((1 : Int32) <<< (w1 &&& 31)) - (1 : Int32)) σ
set_option maxRecDepth 100000 in
set_option maxHeartbeats 4000000 in
theorem kX8_removal {x1 : Int32} {x2 : Int32} {r : Int32} {σ σ' : fw_T} (hf : pX8_removal x1 x2 σ = some (r, σ')) : fw_Ci l yX8_removal (Cond.code yX8_removal cX8_removal 6 (some .int) :: lwT) rmX8_removal [.ref (adr 0), .int x1, .int x2] D 7 adr (fw_M cI cB adr) (fmT cI cB) [] σ r σ' := by
  refine fw_start (Qc := (fun A => va_Qi (fun r' (_ : Unit) => r' = r) (fun _ t => va_P D vwCl (fw_ws 7 adr (fw_M cI cB adr σ')) t.heap) A)) (by decide) (by simp [lg_sl, Value.category]) rfl ?_
  intro p e s m below meth c A X hH ls hl
  have hx := X.1.1
  have hb := X.1.2.1
  have hl : lv_has ls 6 [(0, .ref (adr 0)), (1, .int x1), (2, .int x2)] := hl
  unfold pX8_removal at hf
  refine lv_sipush (v := (-10001 : Int32)) hx hb dX8_removal_0 (by decide) ?_
  refine lv_istore_n (lv' := [(3, .int (-10001 : Int32)), (0, .ref (adr 0)), (1, .int x1), (2, .int x2)]) hx hb dX8_removal_3 rfl hl (by decide) rfl (fun ls hl => ?_)
  refine lv_iconst (v := (1 : Int32)) hx hb dX8_removal_4 (by decide) ?_
  refine lv_aload_n hx hb dX8_removal_5 rfl (lv_at hl 1 rfl) ?_
  refine fw_get (id := 0) (k := 0) (v := .ref (adr 1)) X hH (by decide) rfl rfl inX8 (by decide) rfl tw_3_202 dX8_removal_6 ?_
  refine lv_bipush (v := (22 : Int32)) hx hb dX8_removal_9 (by decide) ?_
  obtain ⟨w1, g2, hf⟩ := fw_bd hf
  refine fw_iald (id := 1) (n := 52) X hH (by decide) rfl rfl g2 dX8_removal_11 ?_
  refine lv_ishl hx hb dX8_removal_12 ?_
  refine lv_iconst (v := (1 : Int32)) hx hb dX8_removal_13 (by decide) ?_
  refine lv_isub hx hb dX8_removal_14 ?_
  refine lv_istore (lv' := [(4, .int (((1 : Int32) <<< (w1 &&& 31)) - (1 : Int32))), (3, .int (-10001 : Int32)), (0, .ref (adr 0)), (1, .int x1), (2, .int x2)]) hx hb dX8_removal_15 hl (by decide) rfl (fun ls hl => ?_)
  exact wX8_removal_17 X 400 x1 x2 (-10001 : Int32) (((1 : Int32) <<< (w1 &&& 31)) - (1 : Int32)) σ hf _ _ _ hH (lv_sub hl [2, 3, 4, 1, 0] rfl)
abbrev rmX8_filtersToRemove : Room := { frames := 6, cells := 0, slots := 0, locals := 149 }
theorem qX8_filtersToRemove : fw_QV RX8 yX8_filtersToRemove cX8_filtersToRemove 3 (some .int) 2 := ⟨⟨tw_4_174, tw_4_175, tw_1_10, tw_4_176⟩, by decide +kernel⟩
def pX8_filtersToRemove (x1 : Int32) (x2 : Int32) (σ : fw_T) : Option (Int32 × fw_T) :=
  fw_b2 (pX8_isDigitPair x1 x2 σ) fun w3 τ2 =>
  if w3 = 0 then
    fw_b2 (pX8_fail (-10002 : Int32) τ2) fun w6 τ5 =>
    some (w6, τ5)
  else
    fw_b2 (pX8_removal x1 x2 τ2) fun w9 τ8 =>
    some (w9, τ8)
set_option maxRecDepth 100000 in
set_option maxHeartbeats 4000000 in
theorem kX8_filtersToRemove {x1 : Int32} {x2 : Int32} {r : Int32} {σ σ' : fw_T} (hf : pX8_filtersToRemove x1 x2 σ = some (r, σ')) : fw_Ci l yX8_filtersToRemove (Cond.code yX8_filtersToRemove cX8_filtersToRemove 3 (some .int) :: lwT) rmX8_filtersToRemove [.ref (adr 0), .int x1, .int x2] D 7 adr (fw_M cI cB adr) (fmT cI cB) [] σ r σ' := by
  refine fw_start (Qc := (fun A => va_Qi (fun r' (_ : Unit) => r' = r) (fun _ t => va_P D vwCl (fw_ws 7 adr (fw_M cI cB adr σ')) t.heap) A)) (by decide) (by simp [lg_sl, Value.category]) rfl ?_
  intro p e s m below meth c A X hH ls hl
  have hx := X.1.1
  have hb := X.1.2.1
  have hl : lv_has ls 3 [(0, .ref (adr 0)), (1, .int x1), (2, .int x2)] := hl
  unfold pX8_filtersToRemove at hf
  refine lv_iload_n hx hb dX8_filtersToRemove_0 rfl (lv_at hl 1 rfl) ?_
  refine lv_iload_n hx hb dX8_filtersToRemove_1 rfl (lv_at hl 2 rfl) ?_
  obtain ⟨w3, τ2, g1, hf⟩ := fw_b2s hf
  refine fw_ci hH (fw_rS (As := [.int x1, .int x2]) (rest := []) X hH (kX8_isDigitPair  g1 _) qX8_isDigitPair tw_4_14 ⟨Nat.le_of_ble_eq_true rfl, Nat.le_of_ble_eq_true rfl⟩ rfl rfl rfl hl.1 rfl (Nat.le_of_ble_eq_true rfl) dX8_filtersToRemove_2) (fun H locs hH => ?_)
  refine lv_if_eq (tgt := 17) hx hb dX8_filtersToRemove_5 (by decide) (fun hc => ?_) (fun hc => ?_)
  · have hf := fw_pos hc hf
    refine lv_aload_n hx hb dX8_filtersToRemove_17 rfl (lv_at hl 0 rfl) ?_
    refine lv_sipush (v := (-10002 : Int32)) hx hb dX8_filtersToRemove_18 (by decide) ?_
    obtain ⟨w6, τ5, g4, hf⟩ := fw_b2s hf
    refine fw_ci hH (fw_rV (As := [.int (-10002 : Int32)]) (rest := []) (id := 0) X hH (kX8_fail  g4 _) qX8_fail tw_4_20 ⟨Nat.le_of_ble_eq_true rfl, Nat.le_of_ble_eq_true rfl⟩ rfl rfl (by decide) rfl rfl rfl hl.1 rfl (Nat.le_of_ble_eq_true rfl) dX8_filtersToRemove_21) (fun H locs hH => ?_)
    obtain ⟨rfl, rfl⟩ := fw_s2 hf
    exact fw_reti X hH dX8_filtersToRemove_24
  · have hf := fw_neg hc hf
    refine lv_aload_n hx hb dX8_filtersToRemove_8 rfl (lv_at hl 0 rfl) ?_
    refine lv_iload_n hx hb dX8_filtersToRemove_9 rfl (lv_at hl 1 rfl) ?_
    refine lv_iload_n hx hb dX8_filtersToRemove_10 rfl (lv_at hl 2 rfl) ?_
    obtain ⟨w9, τ8, g7, hf⟩ := fw_b2s hf
    refine fw_ci hH (fw_rV (As := [.int x1, .int x2]) (rest := []) (id := 0) X hH (kX8_removal  g7 _) qX8_removal tw_4_177 ⟨Nat.le_of_ble_eq_true rfl, Nat.le_of_ble_eq_true rfl⟩ rfl rfl (by decide) rfl rfl rfl hl.1 rfl (Nat.le_of_ble_eq_true rfl) dX8_filtersToRemove_11) (fun H locs hH => ?_)
    refine lv_goto (tgt := 24) hx hb dX8_filtersToRemove_14 (by decide) ?_
    obtain ⟨rfl, rfl⟩ := fw_s2 hf
    exact fw_reti X hH dX8_filtersToRemove_24
abbrev rmX8_repairedConstant : Room := { frames := 6, cells := 0, slots := 0, locals := 146 }
theorem qX8_repairedConstant : fw_QV RX8 yX8_repairedConstant cX8_repairedConstant 11 (some .int) 3 := ⟨⟨tw_4_185, tw_4_186, tw_1_10, tw_4_187⟩, by decide +kernel⟩
def pX8_repairedConstant_135 (K56 : Int32 → Int32 → Int32 → Int32 → Int32 → Int32 → Int32 → Int32 → fw_T → Option (Int32 × fw_T)) (x1 : Int32) (x2 : Int32) (x3 : Int32) (x4 : Int32) (x5 : Int32) (x7 : Int32) (x8 : Int32) (x9 : Int32) (x10 : Int32) (y0 : Int32) (σ : fw_T) : Option (Int32 × fw_T) :=
  if x10 = 0 then
    (fw_wr σ 1 52 x4 x5).bind fun τ23 =>
    K56 x1 x2 x3 x4 x5 y0 x7 (x8 + (1 : Int32)) τ23
  else
    (fw_wr σ 1 52 x4 x5).bind fun τ25 =>
    K56 x1 x2 x3 x4 x5 y0 x9 (x8 + (1 : Int32)) τ25
set_option maxRecDepth 100000 in
set_option maxHeartbeats 4000000 in
theorem wX8_repairedConstant_135 {args : Array Value} {r : Int32} {σ' : fw_T} {K56 : Int32 → Int32 → Int32 → Int32 → Int32 → Int32 → Int32 → Int32 → fw_T → Option (Int32 × fw_T)} (X : fmX p m c cX8_repairedConstant 11 s args RX8 meth (some .int) D cI cB) (hK56 : ∀ (x1 : Int32), ∀ (x2 : Int32), ∀ (x3 : Int32), ∀ (x4 : Int32), ∀ (x5 : Int32), ∀ (x6 : Int32), ∀ (x7 : Int32), ∀ (x8 : Int32), ∀ (σ : fw_T), K56 x1 x2 x3 x4 x5 x6 x7 x8 σ = some (r, σ') → ∀ (H : Heap) (locs : List Loc) (ls : Array Slot), fmH D cI cB adr A s H locs σ → lv_has ls 11 [(0, .ref (adr 0)), (1, .int x1), (2, .int x2), (3, .int x3), (4, .int x4), (5, .int x5), (6, .int x6), (7, .int x7), (8, .int x8)] → W p l e rmX8_repairedConstant s m args below meth c H locs 0 0 (fw_Qi D 7 adr (fw_M cI cB adr) A below args s r σ') (F0 m 56 ls [])) : ∀ (x1 : Int32), ∀ (x2 : Int32), ∀ (x3 : Int32), ∀ (x4 : Int32), ∀ (x5 : Int32), ∀ (x7 : Int32), ∀ (x8 : Int32), ∀ (x9 : Int32), ∀ (x10 : Int32), ∀ (y0 : Int32), ∀ (σ : fw_T), pX8_repairedConstant_135 K56 x1 x2 x3 x4 x5 x7 x8 x9 x10 y0 σ = some (r, σ') → ∀ (H : Heap) (locs : List Loc) (ls : Array Slot), fmH D cI cB adr A s H locs σ → lv_has ls 11 [(0, .ref (adr 0)), (1, .int x1), (2, .int x2), (3, .int x3), (4, .int x4), (5, .int x5), (7, .int x7), (8, .int x8), (9, .int x9), (10, .int x10)] → W p l e rmX8_repairedConstant s m args below meth c H locs 0 0 (fw_Qi D 7 adr (fw_M cI cB adr) A below args s r σ') (F0 m 135 ls [.int y0]) := by
  have hx := X.1.1
  have hb := X.1.2.1
  intro x1 x2 x3 x4 x5 x7 x8 x9 x10 y0 σ hf H locs ls hH hl
  unfold pX8_repairedConstant_135 at hf
  refine lv_istore (lv' := [(6, .int y0), (0, .ref (adr 0)), (1, .int x1), (2, .int x2), (3, .int x3), (4, .int x4), (5, .int x5), (7, .int x7), (8, .int x8), (9, .int x9), (10, .int x10)]) hx hb dX8_repairedConstant_135 hl (by decide) rfl (fun ls hl => ?_)
  refine lv_iload hx hb dX8_repairedConstant_137 (lv_at hl 10 rfl) ?_
  refine lv_if_eq (tgt := 147) hx hb dX8_repairedConstant_139 (by decide) (fun hc => ?_) (fun hc => ?_)
  · have hf := fw_pos hc hf
    refine lv_iload hx hb dX8_repairedConstant_147 (lv_at hl 7 rfl) ?_
    refine lv_istore (lv' := [(7, .int x7), (6, .int y0), (0, .ref (adr 0)), (1, .int x1), (2, .int x2), (3, .int x3), (4, .int x4), (5, .int x5), (8, .int x8), (9, .int x9), (10, .int x10)]) hx hb dX8_repairedConstant_149 hl (by decide) rfl (fun ls hl => ?_)
    refine lv_aload_n hx hb dX8_repairedConstant_151 rfl (lv_at hl 2 rfl) ?_
    refine fw_get (id := 0) (k := 0) (v := .ref (adr 1)) X hH (by decide) rfl rfl inX8 (by decide) rfl tw_3_202 dX8_repairedConstant_152 ?_
    refine lv_iload hx hb dX8_repairedConstant_155 (lv_at hl 6 rfl) ?_
    refine lv_iload hx hb dX8_repairedConstant_157 (lv_at hl 7 rfl) ?_
    obtain ⟨τ23, g24, hf⟩ := fw_bd hf
    refine fw_iast (id := 1) (n := 52) X hH (by decide) (fun σ => rfl) (fun k x j h => fm_ne h) rfl g24 dX8_repairedConstant_159 (fun H locs hH => ?_)
    refine lv_iinc (v := (x8 + (1 : Int32))) (lv' := [(8, .int (x8 + (1 : Int32))), (7, .int x7), (6, .int y0), (0, .ref (adr 0)), (1, .int x1), (2, .int x2), (3, .int x3), (4, .int x4), (5, .int x5), (9, .int x9), (10, .int x10)]) hx hb dX8_repairedConstant_160 hl (k := 8) rfl rfl (by decide) rfl (fun ls hl => ?_)
    refine lv_goto (tgt := 56) hx hb dX8_repairedConstant_163 (by decide) ?_
    exact hK56 x1 x2 x3 x4 x5 y0 x7 (x8 + (1 : Int32)) τ23 hf _ _ _ hH (lv_sub hl [3, 4, 5, 6, 7, 8, 2, 1, 0] rfl)
  · have hf := fw_neg hc hf
    refine lv_iload hx hb dX8_repairedConstant_142 (lv_at hl 9 rfl) ?_
    refine lv_goto (tgt := 149) hx hb dX8_repairedConstant_144 (by decide) ?_
    refine lv_istore (lv' := [(7, .int x9), (6, .int y0), (0, .ref (adr 0)), (1, .int x1), (2, .int x2), (3, .int x3), (4, .int x4), (5, .int x5), (8, .int x8), (9, .int x9), (10, .int x10)]) hx hb dX8_repairedConstant_149 hl (by decide) rfl (fun ls hl => ?_)
    refine lv_aload_n hx hb dX8_repairedConstant_151 rfl (lv_at hl 2 rfl) ?_
    refine fw_get (id := 0) (k := 0) (v := .ref (adr 1)) X hH (by decide) rfl rfl inX8 (by decide) rfl tw_3_202 dX8_repairedConstant_152 ?_
    refine lv_iload hx hb dX8_repairedConstant_155 (lv_at hl 6 rfl) ?_
    refine lv_iload hx hb dX8_repairedConstant_157 (lv_at hl 7 rfl) ?_
    obtain ⟨τ25, g26, hf⟩ := fw_bd hf
    refine fw_iast (id := 1) (n := 52) X hH (by decide) (fun σ => rfl) (fun k x j h => fm_ne h) rfl g26 dX8_repairedConstant_159 (fun H locs hH => ?_)
    refine lv_iinc (v := (x8 + (1 : Int32))) (lv' := [(8, .int (x8 + (1 : Int32))), (7, .int x9), (6, .int y0), (0, .ref (adr 0)), (1, .int x1), (2, .int x2), (3, .int x3), (4, .int x4), (5, .int x5), (9, .int x9), (10, .int x10)]) hx hb dX8_repairedConstant_160 hl (k := 8) rfl rfl (by decide) rfl (fun ls hl => ?_)
    refine lv_goto (tgt := 56) hx hb dX8_repairedConstant_163 (by decide) ?_
    exact hK56 x1 x2 x3 x4 x5 y0 x9 (x8 + (1 : Int32)) τ25 hf _ _ _ hH (lv_sub hl [3, 4, 5, 6, 7, 8, 2, 1, 0] rfl)
def pX8_repairedConstant_83 (K56 : Int32 → Int32 → Int32 → Int32 → Int32 → Int32 → Int32 → Int32 → fw_T → Option (Int32 × fw_T)) (x1 : Int32) (x2 : Int32) (x3 : Int32) (x4 : Int32) (x5 : Int32) (x6 : Int32) (x7 : Int32) (x8 : Int32) (y0 : Int32) (σ : fw_T) : Option (Int32 × fw_T) :=
  fw_b2 (pX8_of x3 (0 : Int32) σ) fun w14 τ13 =>
  fw_b2 (pX8_isConstant w14 x8 τ13) fun w17 τ16 =>
  if w17 = 0 then
    K56 x1 x2 x3 x4 x5 x6 x7 (x8 + (1 : Int32)) τ16
  else
    if x7 ≤ y0 then
      K56 x1 x2 x3 x4 x5 x6 x7 (x8 + (1 : Int32)) τ16
    else
      (fw_wr τ16 1 52 x4 x8).bind fun τ18 =>
      fw_b2 (pX8_isAnswer x1 x2 τ18) fun w22 τ21 =>
      if w22 = 0 then
        pX8_repairedConstant_135 K56 x1 x2 x3 x4 x5 x7 x8 y0 w22 x6 τ21
      else
        pX8_repairedConstant_135 K56 x1 x2 x3 x4 x5 x7 x8 y0 w22 x8 τ21
set_option maxRecDepth 100000 in
set_option maxHeartbeats 4000000 in
theorem wX8_repairedConstant_83 {args : Array Value} {r : Int32} {σ' : fw_T} {K56 : Int32 → Int32 → Int32 → Int32 → Int32 → Int32 → Int32 → Int32 → fw_T → Option (Int32 × fw_T)} (X : fmX p m c cX8_repairedConstant 11 s args RX8 meth (some .int) D cI cB) (hK56 : ∀ (x1 : Int32), ∀ (x2 : Int32), ∀ (x3 : Int32), ∀ (x4 : Int32), ∀ (x5 : Int32), ∀ (x6 : Int32), ∀ (x7 : Int32), ∀ (x8 : Int32), ∀ (σ : fw_T), K56 x1 x2 x3 x4 x5 x6 x7 x8 σ = some (r, σ') → ∀ (H : Heap) (locs : List Loc) (ls : Array Slot), fmH D cI cB adr A s H locs σ → lv_has ls 11 [(0, .ref (adr 0)), (1, .int x1), (2, .int x2), (3, .int x3), (4, .int x4), (5, .int x5), (6, .int x6), (7, .int x7), (8, .int x8)] → W p l e rmX8_repairedConstant s m args below meth c H locs 0 0 (fw_Qi D 7 adr (fw_M cI cB adr) A below args s r σ') (F0 m 56 ls [])) : ∀ (x1 : Int32), ∀ (x2 : Int32), ∀ (x3 : Int32), ∀ (x4 : Int32), ∀ (x5 : Int32), ∀ (x6 : Int32), ∀ (x7 : Int32), ∀ (x8 : Int32), ∀ (y0 : Int32), ∀ (σ : fw_T), pX8_repairedConstant_83 K56 x1 x2 x3 x4 x5 x6 x7 x8 y0 σ = some (r, σ') → ∀ (H : Heap) (locs : List Loc) (ls : Array Slot), fmH D cI cB adr A s H locs σ → lv_has ls 11 [(0, .ref (adr 0)), (1, .int x1), (2, .int x2), (3, .int x3), (4, .int x4), (5, .int x5), (6, .int x6), (7, .int x7), (8, .int x8)] → W p l e rmX8_repairedConstant s m args below meth c H locs 0 0 (fw_Qi D 7 adr (fw_M cI cB adr) A below args s r σ') (F0 m 83 ls [.int y0]) := by
  have hx := X.1.1
  have hb := X.1.2.1
  intro x1 x2 x3 x4 x5 x6 x7 x8 y0 σ hf H locs ls hH hl
  unfold pX8_repairedConstant_83 at hf
  refine lv_istore (lv' := [(9, .int y0), (0, .ref (adr 0)), (1, .int x1), (2, .int x2), (3, .int x3), (4, .int x4), (5, .int x5), (6, .int x6), (7, .int x7), (8, .int x8)]) hx hb dX8_repairedConstant_83 hl (by decide) rfl (fun ls hl => ?_)
  refine lv_aload_n hx hb dX8_repairedConstant_85 rfl (lv_at hl 1 rfl) ?_
  refine lv_iload_n hx hb dX8_repairedConstant_86 rfl (lv_at hl 4 rfl) ?_
  refine lv_iconst (v := (0 : Int32)) hx hb dX8_repairedConstant_87 (by decide) ?_
  obtain ⟨w14, τ13, g12, hf⟩ := fw_b2s hf
  refine fw_ci hH (fw_rV (As := [.int x3, .int (0 : Int32)]) (rest := []) (id := 0) X hH (kX8_of  g12 _) qX8_of tw_4_87 ⟨Nat.le_of_ble_eq_true rfl, Nat.le_of_ble_eq_true rfl⟩ rfl rfl (by decide) rfl rfl rfl hl.1 rfl (Nat.le_of_ble_eq_true rfl) dX8_repairedConstant_88) (fun H locs hH => ?_)
  refine lv_iload hx hb dX8_repairedConstant_91 (lv_at hl 9 rfl) ?_
  obtain ⟨w17, τ16, g15, hf⟩ := fw_b2s hf
  refine fw_ci hH (fw_rS (As := [.int w14, .int x8]) (rest := []) X hH (kX8_isConstant  g15 _) qX8_isConstant tw_4_68 ⟨Nat.le_of_ble_eq_true rfl, Nat.le_of_ble_eq_true rfl⟩ rfl rfl rfl hl.1 rfl (Nat.le_of_ble_eq_true rfl) dX8_repairedConstant_93) (fun H locs hH => ?_)
  refine lv_if_eq (tgt := 160) hx hb dX8_repairedConstant_96 (by decide) (fun hc => ?_) (fun hc => ?_)
  · have hf := fw_pos hc hf
    refine lv_iinc (v := (x8 + (1 : Int32))) (lv' := [(8, .int (x8 + (1 : Int32))), (9, .int y0), (0, .ref (adr 0)), (1, .int x1), (2, .int x2), (3, .int x3), (4, .int x4), (5, .int x5), (6, .int x6), (7, .int x7)]) hx hb dX8_repairedConstant_160 hl (k := 9) rfl rfl (by decide) rfl (fun ls hl => ?_)
    refine lv_goto (tgt := 56) hx hb dX8_repairedConstant_163 (by decide) ?_
    exact hK56 x1 x2 x3 x4 x5 x6 x7 (x8 + (1 : Int32)) τ16 hf _ _ _ hH (lv_sub hl [2, 3, 4, 5, 6, 7, 8, 9, 0] rfl)
  · have hf := fw_neg hc hf
    refine lv_iload hx hb dX8_repairedConstant_99 (lv_at hl 0 rfl) ?_
    refine lv_iload hx hb dX8_repairedConstant_101 (lv_at hl 8 rfl) ?_
    refine lv_icmp_ge (tgt := 160) hx hb dX8_repairedConstant_103 (by decide) (fun hc => ?_) (fun hc => ?_)
    · have hf := fw_pos hc hf
      refine lv_iinc (v := (x8 + (1 : Int32))) (lv' := [(8, .int (x8 + (1 : Int32))), (9, .int y0), (0, .ref (adr 0)), (1, .int x1), (2, .int x2), (3, .int x3), (4, .int x4), (5, .int x5), (6, .int x6), (7, .int x7)]) hx hb dX8_repairedConstant_160 hl (k := 9) rfl rfl (by decide) rfl (fun ls hl => ?_)
      refine lv_goto (tgt := 56) hx hb dX8_repairedConstant_163 (by decide) ?_
      exact hK56 x1 x2 x3 x4 x5 x6 x7 (x8 + (1 : Int32)) τ16 hf _ _ _ hH (lv_sub hl [2, 3, 4, 5, 6, 7, 8, 9, 0] rfl)
    · have hf := fw_neg hc hf
      refine lv_aload_n hx hb dX8_repairedConstant_106 rfl (lv_at hl 1 rfl) ?_
      refine fw_get (id := 0) (k := 0) (v := .ref (adr 1)) X hH (by decide) rfl rfl inX8 (by decide) rfl tw_3_202 dX8_repairedConstant_107 ?_
      refine lv_iload hx hb dX8_repairedConstant_110 (lv_at hl 5 rfl) ?_
      refine lv_iload hx hb dX8_repairedConstant_112 (lv_at hl 9 rfl) ?_
      obtain ⟨τ18, g19, hf⟩ := fw_bd hf
      refine fw_iast (id := 1) (n := 52) X hH (by decide) (fun σ => rfl) (fun k x j h => fm_ne h) rfl g19 dX8_repairedConstant_114 (fun H locs hH => ?_)
      refine lv_aload_n hx hb dX8_repairedConstant_115 rfl (lv_at hl 1 rfl) ?_
      refine lv_iload_n hx hb dX8_repairedConstant_116 rfl (lv_at hl 2 rfl) ?_
      refine lv_iload_n hx hb dX8_repairedConstant_117 rfl (lv_at hl 3 rfl) ?_
      obtain ⟨w22, τ21, g20, hf⟩ := fw_b2s hf
      refine fw_ci hH (fw_rV (As := [.int x1, .int x2]) (rest := []) (id := 0) X hH (kX8_isAnswer  g20 _) qX8_isAnswer tw_4_125 ⟨Nat.le_of_ble_eq_true rfl, Nat.le_of_ble_eq_true rfl⟩ rfl rfl (by decide) rfl rfl rfl hl.1 rfl (Nat.le_of_ble_eq_true rfl) dX8_repairedConstant_118) (fun H locs hH => ?_)
      refine lv_istore (lv' := [(10, .int w22), (9, .int y0), (0, .ref (adr 0)), (1, .int x1), (2, .int x2), (3, .int x3), (4, .int x4), (5, .int x5), (6, .int x6), (7, .int x7), (8, .int x8)]) hx hb dX8_repairedConstant_121 hl (by decide) rfl (fun ls hl => ?_)
      refine lv_iload hx hb dX8_repairedConstant_123 (lv_at hl 0 rfl) ?_
      refine lv_if_eq (tgt := 133) hx hb dX8_repairedConstant_125 (by decide) (fun hc => ?_) (fun hc => ?_)
      · have hf := fw_pos hc hf
        refine lv_iload hx hb dX8_repairedConstant_133 (lv_at hl 8 rfl) ?_
        exact wX8_repairedConstant_135 X hK56 x1 x2 x3 x4 x5 x7 x8 y0 w22 x6 τ21 hf _ _ _ hH (lv_sub hl [2, 3, 4, 5, 6, 7, 9, 10, 1, 0] rfl)
      · have hf := fw_neg hc hf
        refine lv_iload hx hb dX8_repairedConstant_128 (lv_at hl 10 rfl) ?_
        refine lv_goto (tgt := 135) hx hb dX8_repairedConstant_130 (by decide) ?_
        exact wX8_repairedConstant_135 X hK56 x1 x2 x3 x4 x5 x7 x8 y0 w22 x8 τ21 hf _ _ _ hH (lv_sub hl [2, 3, 4, 5, 6, 7, 9, 10, 1, 0] rfl)
def pX8_repairedConstant_56 : Nat → Int32 → Int32 → Int32 → Int32 → Int32 → Int32 → Int32 → Int32 → fw_T → Option (Int32 × fw_T)
  | 0, _, _, _, _, _, _, _, _, _ => none
  | n + 1, x1, x2, x3, x4, x5, x6, x7, x8, σ =>
    if (18 : Int32) < x8 then
      some (x6, σ)
    else
      if x5 ≤ x8 then
        pX8_repairedConstant_83 (fun a0 a1 a2 a3 a4 a5 a6 a7 σ => pX8_repairedConstant_56 n a0 a1 a2 a3 a4 a5 a6 a7 σ) x1 x2 x3 x4 x5 x6 x7 x8 (x8 - x5) σ
      else
        pX8_repairedConstant_83 (fun a0 a1 a2 a3 a4 a5 a6 a7 σ => pX8_repairedConstant_56 n a0 a1 a2 a3 a4 a5 a6 a7 σ) x1 x2 x3 x4 x5 x6 x7 x8 (x5 - x8) σ
set_option maxRecDepth 100000 in
set_option maxHeartbeats 4000000 in
theorem wX8_repairedConstant_56 {args : Array Value} {r : Int32} {σ' : fw_T} (X : fmX p m c cX8_repairedConstant 11 s args RX8 meth (some .int) D cI cB)  : ∀ (n : Nat), ∀ (x1 : Int32), ∀ (x2 : Int32), ∀ (x3 : Int32), ∀ (x4 : Int32), ∀ (x5 : Int32), ∀ (x6 : Int32), ∀ (x7 : Int32), ∀ (x8 : Int32), ∀ (σ : fw_T), pX8_repairedConstant_56 n x1 x2 x3 x4 x5 x6 x7 x8 σ = some (r, σ') → ∀ (H : Heap) (locs : List Loc) (ls : Array Slot), fmH D cI cB adr A s H locs σ → lv_has ls 11 [(0, .ref (adr 0)), (1, .int x1), (2, .int x2), (3, .int x3), (4, .int x4), (5, .int x5), (6, .int x6), (7, .int x7), (8, .int x8)] → W p l e rmX8_repairedConstant s m args below meth c H locs 0 0 (fw_Qi D 7 adr (fw_M cI cB adr) A below args s r σ') (F0 m 56 ls []) := by
  have hx := X.1.1
  have hb := X.1.2.1
  intro n
  induction n with
  | zero =>
    intro x1 x2 x3 x4 x5 x6 x7 x8 σ hf
    exact absurd hf (by simp [pX8_repairedConstant_56])
  | succ n ih =>
    intro x1 x2 x3 x4 x5 x6 x7 x8 σ hf H locs ls hH hl
    rw [pX8_repairedConstant_56] at hf
    refine lv_iload hx hb dX8_repairedConstant_56 (lv_at hl 8 rfl) ?_
    refine lv_bipush (v := (18 : Int32)) hx hb dX8_repairedConstant_58 (by decide) ?_
    refine lv_icmp_gt (tgt := 166) hx hb dX8_repairedConstant_60 (by decide) (fun hc => ?_) (fun hc => ?_)
    · have hf := fw_pos hc hf
      refine lv_iload hx hb dX8_repairedConstant_166 (lv_at hl 6 rfl) ?_
      obtain ⟨rfl, rfl⟩ := fw_s2 hf
      exact fw_reti X hH dX8_repairedConstant_168
    · have hf := fw_neg hc hf
      refine lv_iload hx hb dX8_repairedConstant_63 (lv_at hl 8 rfl) ?_
      refine lv_iload hx hb dX8_repairedConstant_65 (lv_at hl 5 rfl) ?_
      refine lv_icmp_ge (tgt := 78) hx hb dX8_repairedConstant_67 (by decide) (fun hc => ?_) (fun hc => ?_)
      · have hf := fw_pos hc hf
        refine lv_iload hx hb dX8_repairedConstant_78 (lv_at hl 8 rfl) ?_
        refine lv_iload hx hb dX8_repairedConstant_80 (lv_at hl 5 rfl) ?_
        refine lv_isub hx hb dX8_repairedConstant_82 ?_
        exact wX8_repairedConstant_83 X ih x1 x2 x3 x4 x5 x6 x7 x8 (x8 - x5) σ hf _ _ _ hH (lv_sub hl [0, 1, 2, 3, 4, 5, 6, 7, 8] rfl)
      · have hf := fw_neg hc hf
        refine lv_iload hx hb dX8_repairedConstant_70 (lv_at hl 5 rfl) ?_
        refine lv_iload hx hb dX8_repairedConstant_72 (lv_at hl 8 rfl) ?_
        refine lv_isub hx hb dX8_repairedConstant_74 ?_
        refine lv_goto (tgt := 83) hx hb dX8_repairedConstant_75 (by decide) ?_
        exact wX8_repairedConstant_83 X ih x1 x2 x3 x4 x5 x6 x7 x8 (x5 - x8) σ hf _ _ _ hH (lv_sub hl [0, 1, 2, 3, 4, 5, 6, 7, 8] rfl)
def pX8_repairedConstant (x1 : Int32) (x2 : Int32) (x3 : Int32) (σ : fw_T) : Option (Int32 × fw_T) :=
  fw_b2 (pX8_isDigitPair x1 x2 σ) fun w3 τ2 =>
  if w3 = 0 then
    fw_b2 (pX8_fail (-10002 : Int32) τ2) fun w6 τ5 =>
    some (w6, τ5)
  else
    fw_b2 (pX8_isFilter x3 τ2) fun w9 τ8 =>
    if w9 = 0 then
      fw_b2 (pX8_fail (-10002 : Int32) τ8) fun w29 τ28 =>
      some (w29, τ28)
    else
      (fw_rd τ8 1 52 (((23 : Int32) + ((4 : Int32) * x3)) + (3 : Int32))).bind fun w10 =>
      pX8_repairedConstant_56 400 x1 x2 x3 (((23 : Int32) + ((4 : Int32) * x3)) + (3 : Int32)) w10 (-10001 : Int32) (100 : Int32) (-9 : Int32) τ8
set_option maxRecDepth 100000 in
set_option maxHeartbeats 4000000 in
theorem kX8_repairedConstant {x1 : Int32} {x2 : Int32} {x3 : Int32} {r : Int32} {σ σ' : fw_T} (hf : pX8_repairedConstant x1 x2 x3 σ = some (r, σ')) : fw_Ci l yX8_repairedConstant (Cond.code yX8_repairedConstant cX8_repairedConstant 11 (some .int) :: lwT) rmX8_repairedConstant [.ref (adr 0), .int x1, .int x2, .int x3] D 7 adr (fw_M cI cB adr) (fmT cI cB) [] σ r σ' := by
  refine fw_start (Qc := (fun A => va_Qi (fun r' (_ : Unit) => r' = r) (fun _ t => va_P D vwCl (fw_ws 7 adr (fw_M cI cB adr σ')) t.heap) A)) (by decide) (by simp [lg_sl, Value.category]) rfl ?_
  intro p e s m below meth c A X hH ls hl
  have hx := X.1.1
  have hb := X.1.2.1
  have hl : lv_has ls 11 [(0, .ref (adr 0)), (1, .int x1), (2, .int x2), (3, .int x3)] := hl
  unfold pX8_repairedConstant at hf
  refine lv_iload_n hx hb dX8_repairedConstant_0 rfl (lv_at hl 1 rfl) ?_
  refine lv_iload_n hx hb dX8_repairedConstant_1 rfl (lv_at hl 2 rfl) ?_
  obtain ⟨w3, τ2, g1, hf⟩ := fw_b2s hf
  refine fw_ci hH (fw_rS (As := [.int x1, .int x2]) (rest := []) X hH (kX8_isDigitPair  g1 _) qX8_isDigitPair tw_4_14 ⟨Nat.le_of_ble_eq_true rfl, Nat.le_of_ble_eq_true rfl⟩ rfl rfl rfl hl.1 rfl (Nat.le_of_ble_eq_true rfl) dX8_repairedConstant_2) (fun H locs hH => ?_)
  refine lv_if_eq (tgt := 16) hx hb dX8_repairedConstant_5 (by decide) (fun hc => ?_) (fun hc => ?_)
  · have hf := fw_pos hc hf
    refine lv_aload_n hx hb dX8_repairedConstant_16 rfl (lv_at hl 0 rfl) ?_
    refine lv_sipush (v := (-10002 : Int32)) hx hb dX8_repairedConstant_17 (by decide) ?_
    obtain ⟨w6, τ5, g4, hf⟩ := fw_b2s hf
    refine fw_ci hH (fw_rV (As := [.int (-10002 : Int32)]) (rest := []) (id := 0) X hH (kX8_fail  g4 _) qX8_fail tw_4_20 ⟨Nat.le_of_ble_eq_true rfl, Nat.le_of_ble_eq_true rfl⟩ rfl rfl (by decide) rfl rfl rfl hl.1 rfl (Nat.le_of_ble_eq_true rfl) dX8_repairedConstant_20) (fun H locs hH => ?_)
    obtain ⟨rfl, rfl⟩ := fw_s2 hf
    exact fw_reti X hH dX8_repairedConstant_23
  · have hf := fw_neg hc hf
    refine lv_aload_n hx hb dX8_repairedConstant_8 rfl (lv_at hl 0 rfl) ?_
    refine lv_iload_n hx hb dX8_repairedConstant_9 rfl (lv_at hl 3 rfl) ?_
    obtain ⟨w9, τ8, g7, hf⟩ := fw_b2s hf
    refine fw_ci hH (fw_rV (As := [.int x3]) (rest := []) (id := 0) X hH (kX8_isFilter  g7 _) qX8_isFilter tw_4_75 ⟨Nat.le_of_ble_eq_true rfl, Nat.le_of_ble_eq_true rfl⟩ rfl rfl (by decide) rfl rfl rfl hl.1 rfl (Nat.le_of_ble_eq_true rfl) dX8_repairedConstant_10) (fun H locs hH => ?_)
    refine lv_if_ne (tgt := 24) hx hb dX8_repairedConstant_13 (by decide) (fun hc => ?_) (fun hc => ?_)
    · have hf := fw_neg hc hf
      refine lv_bipush (v := (23 : Int32)) hx hb dX8_repairedConstant_24 (by decide) ?_
      refine lv_iconst (v := (4 : Int32)) hx hb dX8_repairedConstant_26 (by decide) ?_
      refine lv_iload_n hx hb dX8_repairedConstant_27 rfl (lv_at hl 3 rfl) ?_
      refine lv_imul hx hb dX8_repairedConstant_28 ?_
      refine lv_iadd hx hb dX8_repairedConstant_29 ?_
      refine lv_iconst (v := (3 : Int32)) hx hb dX8_repairedConstant_30 (by decide) ?_
      refine lv_iadd hx hb dX8_repairedConstant_31 ?_
      refine lv_istore (lv' := [(4, .int (((23 : Int32) + ((4 : Int32) * x3)) + (3 : Int32))), (0, .ref (adr 0)), (1, .int x1), (2, .int x2), (3, .int x3)]) hx hb dX8_repairedConstant_32 hl (by decide) rfl (fun ls hl => ?_)
      refine lv_aload_n hx hb dX8_repairedConstant_34 rfl (lv_at hl 1 rfl) ?_
      refine fw_get (id := 0) (k := 0) (v := .ref (adr 1)) X hH (by decide) rfl rfl inX8 (by decide) rfl tw_3_202 dX8_repairedConstant_35 ?_
      refine lv_iload hx hb dX8_repairedConstant_38 (lv_at hl 0 rfl) ?_
      obtain ⟨w10, g11, hf⟩ := fw_bd hf
      refine fw_iald (id := 1) (n := 52) X hH (by decide) rfl rfl g11 dX8_repairedConstant_40 ?_
      refine lv_istore (lv' := [(5, .int w10), (4, .int (((23 : Int32) + ((4 : Int32) * x3)) + (3 : Int32))), (0, .ref (adr 0)), (1, .int x1), (2, .int x2), (3, .int x3)]) hx hb dX8_repairedConstant_41 hl (by decide) rfl (fun ls hl => ?_)
      refine lv_sipush (v := (-10001 : Int32)) hx hb dX8_repairedConstant_43 (by decide) ?_
      refine lv_istore (lv' := [(6, .int (-10001 : Int32)), (5, .int w10), (4, .int (((23 : Int32) + ((4 : Int32) * x3)) + (3 : Int32))), (0, .ref (adr 0)), (1, .int x1), (2, .int x2), (3, .int x3)]) hx hb dX8_repairedConstant_46 hl (by decide) rfl (fun ls hl => ?_)
      refine lv_bipush (v := (100 : Int32)) hx hb dX8_repairedConstant_48 (by decide) ?_
      refine lv_istore (lv' := [(7, .int (100 : Int32)), (6, .int (-10001 : Int32)), (5, .int w10), (4, .int (((23 : Int32) + ((4 : Int32) * x3)) + (3 : Int32))), (0, .ref (adr 0)), (1, .int x1), (2, .int x2), (3, .int x3)]) hx hb dX8_repairedConstant_50 hl (by decide) rfl (fun ls hl => ?_)
      refine lv_bipush (v := (-9 : Int32)) hx hb dX8_repairedConstant_52 (by decide) ?_
      refine lv_istore (lv' := [(8, .int (-9 : Int32)), (7, .int (100 : Int32)), (6, .int (-10001 : Int32)), (5, .int w10), (4, .int (((23 : Int32) + ((4 : Int32) * x3)) + (3 : Int32))), (0, .ref (adr 0)), (1, .int x1), (2, .int x2), (3, .int x3)]) hx hb dX8_repairedConstant_54 hl (by decide) rfl (fun ls hl => ?_)
      exact wX8_repairedConstant_56 X 400 x1 x2 x3 (((23 : Int32) + ((4 : Int32) * x3)) + (3 : Int32)) w10 (-10001 : Int32) (100 : Int32) (-9 : Int32) τ8 hf _ _ _ hH (lv_sub hl [5, 6, 7, 8, 4, 3, 2, 1, 0] rfl)
    · have hf := fw_pos hc hf
      refine lv_aload_n hx hb dX8_repairedConstant_16 rfl (lv_at hl 0 rfl) ?_
      refine lv_sipush (v := (-10002 : Int32)) hx hb dX8_repairedConstant_17 (by decide) ?_
      obtain ⟨w29, τ28, g27, hf⟩ := fw_b2s hf
      refine fw_ci hH (fw_rV (As := [.int (-10002 : Int32)]) (rest := []) (id := 0) X hH (kX8_fail  g27 _) qX8_fail tw_4_20 ⟨Nat.le_of_ble_eq_true rfl, Nat.le_of_ble_eq_true rfl⟩ rfl rfl (by decide) rfl rfl rfl hl.1 rfl (Nat.le_of_ble_eq_true rfl) dX8_repairedConstant_20) (fun H locs hH => ?_)
      obtain ⟨rfl, rfl⟩ := fw_s2 hf
      exact fw_reti X hH dX8_repairedConstant_23
abbrev rmX8_costOf : Room := { frames := 4, cells := 0, slots := 0, locals := 99 }
theorem qX8_costOf : fw_QV RX8 yX8_costOf cX8_costOf 4 (some .int) 3 := ⟨⟨tw_4_202, tv_X8_costOf, tw_1_10, tw_4_203⟩, by decide +kernel⟩
def pX8_costOf_29 (x2 : Int32) (x3 : Int32) (y0 : Int32) (σ : fw_T) : Option (Int32 × fw_T) :=
  fw_b2 (pX8_hasRight x2 x3 σ) fun w9 τ8 =>
  if w9 = 0 then
    some ((y0 + (1 : Int32)), τ8)
  else
    some ((y0 + (0 : Int32)), τ8)
set_option maxRecDepth 100000 in
set_option maxHeartbeats 4000000 in
theorem wX8_costOf_29 {args : Array Value} {r : Int32} {σ' : fw_T} (X : fmX p m c cX8_costOf 4 s args RX8 meth (some .int) D cI cB)  : ∀ (x2 : Int32), ∀ (x3 : Int32), ∀ (y0 : Int32), ∀ (σ : fw_T), pX8_costOf_29 x2 x3 y0 σ = some (r, σ') → ∀ (H : Heap) (locs : List Loc) (ls : Array Slot), fmH D cI cB adr A s H locs σ → lv_has ls 4 [(0, .ref (adr 0)), (2, .int x2), (3, .int x3)] → W p l e rmX8_costOf s m args below meth c H locs 0 0 (fw_Qi D 7 adr (fw_M cI cB adr) A below args s r σ') (F0 m 29 ls [.int y0]) := by
  have hx := X.1.1
  have hb := X.1.2.1
  intro x2 x3 y0 σ hf H locs ls hH hl
  unfold pX8_costOf_29 at hf
  refine lv_aload_n hx hb dX8_costOf_29 rfl (lv_at hl 0 rfl) ?_
  refine lv_iload_n hx hb dX8_costOf_30 rfl (lv_at hl 1 rfl) ?_
  refine lv_iload_n hx hb dX8_costOf_31 rfl (lv_at hl 2 rfl) ?_
  obtain ⟨w9, τ8, g7, hf⟩ := fw_b2s hf
  refine fw_ci hH (fw_rV (As := [.int x2, .int x3]) (rest := [.int y0]) (id := 0) X hH (kX8_hasRight  g7 _) qX8_hasRight tw_4_137 ⟨Nat.le_of_ble_eq_true rfl, Nat.le_of_ble_eq_true rfl⟩ rfl rfl (by decide) rfl rfl rfl hl.1 rfl (Nat.le_of_ble_eq_true rfl) dX8_costOf_32) (fun H locs hH => ?_)
  refine lv_if_eq (tgt := 42) hx hb dX8_costOf_35 (by decide) (fun hc => ?_) (fun hc => ?_)
  · have hf := fw_pos hc hf
    refine lv_iconst (v := (1 : Int32)) hx hb dX8_costOf_42 (by decide) ?_
    refine lv_iadd hx hb dX8_costOf_43 ?_
    obtain ⟨rfl, rfl⟩ := fw_s2 hf
    exact fw_reti X hH dX8_costOf_44
  · have hf := fw_neg hc hf
    refine lv_iconst (v := (0 : Int32)) hx hb dX8_costOf_38 (by decide) ?_
    refine lv_goto (tgt := 43) hx hb dX8_costOf_39 (by decide) ?_
    refine lv_iadd hx hb dX8_costOf_43 ?_
    obtain ⟨rfl, rfl⟩ := fw_s2 hf
    exact fw_reti X hH dX8_costOf_44
def pX8_costOf (x1 : Int32) (x2 : Int32) (x3 : Int32) (σ : fw_T) : Option (Int32 × fw_T) :=
  fw_b2 (pX8_passesAll (0 : Int32) x1 x2 x3 σ) fun w3 τ2 =>
  if w3 = 0 then
    some ((-10001 : Int32), τ2)
  else
    fw_b2 (pX8_hasLeft x1 x2 τ2) fun w6 τ5 =>
    if w6 = 0 then
      pX8_costOf_29 x2 x3 (1 : Int32) τ5
    else
      pX8_costOf_29 x2 x3 (0 : Int32) τ5
set_option maxRecDepth 100000 in
set_option maxHeartbeats 4000000 in
theorem kX8_costOf {x1 : Int32} {x2 : Int32} {x3 : Int32} {r : Int32} {σ σ' : fw_T} (hf : pX8_costOf x1 x2 x3 σ = some (r, σ')) : fw_Ci l yX8_costOf (Cond.code yX8_costOf cX8_costOf 4 (some .int) :: lwT) rmX8_costOf [.ref (adr 0), .int x1, .int x2, .int x3] D 7 adr (fw_M cI cB adr) (fmT cI cB) [] σ r σ' := by
  refine fw_start (Qc := (fun A => va_Qi (fun r' (_ : Unit) => r' = r) (fun _ t => va_P D vwCl (fw_ws 7 adr (fw_M cI cB adr σ')) t.heap) A)) (by decide) (by simp [lg_sl, Value.category]) rfl ?_
  intro p e s m below meth c A X hH ls hl
  have hx := X.1.1
  have hb := X.1.2.1
  have hl : lv_has ls 4 [(0, .ref (adr 0)), (1, .int x1), (2, .int x2), (3, .int x3)] := hl
  unfold pX8_costOf at hf
  refine lv_aload_n hx hb dX8_costOf_0 rfl (lv_at hl 0 rfl) ?_
  refine lv_iconst (v := (0 : Int32)) hx hb dX8_costOf_1 (by decide) ?_
  refine lv_iload_n hx hb dX8_costOf_2 rfl (lv_at hl 1 rfl) ?_
  refine lv_iload_n hx hb dX8_costOf_3 rfl (lv_at hl 2 rfl) ?_
  refine lv_iload_n hx hb dX8_costOf_4 rfl (lv_at hl 3 rfl) ?_
  obtain ⟨w3, τ2, g1, hf⟩ := fw_b2s hf
  refine fw_ci hH (fw_rV (As := [.int (0 : Int32), .int x1, .int x2, .int x3]) (rest := []) (id := 0) X hH (kX8_passesAll  g1 _) qX8_passesAll tw_4_141 ⟨Nat.le_of_ble_eq_true rfl, Nat.le_of_ble_eq_true rfl⟩ rfl rfl (by decide) rfl rfl rfl hl.1 rfl (Nat.le_of_ble_eq_true rfl) dX8_costOf_5) (fun H locs hH => ?_)
  refine lv_if_ne (tgt := 15) hx hb dX8_costOf_8 (by decide) (fun hc => ?_) (fun hc => ?_)
  · have hf := fw_neg hc hf
    refine lv_aload_n hx hb dX8_costOf_15 rfl (lv_at hl 0 rfl) ?_
    refine lv_iload_n hx hb dX8_costOf_16 rfl (lv_at hl 1 rfl) ?_
    refine lv_iload_n hx hb dX8_costOf_17 rfl (lv_at hl 2 rfl) ?_
    obtain ⟨w6, τ5, g4, hf⟩ := fw_b2s hf
    refine fw_ci hH (fw_rV (As := [.int x1, .int x2]) (rest := []) (id := 0) X hH (kX8_hasLeft  g4 _) qX8_hasLeft tw_4_133 ⟨Nat.le_of_ble_eq_true rfl, Nat.le_of_ble_eq_true rfl⟩ rfl rfl (by decide) rfl rfl rfl hl.1 rfl (Nat.le_of_ble_eq_true rfl) dX8_costOf_18) (fun H locs hH => ?_)
    refine lv_if_eq (tgt := 28) hx hb dX8_costOf_21 (by decide) (fun hc => ?_) (fun hc => ?_)
    · have hf := fw_pos hc hf
      refine lv_iconst (v := (1 : Int32)) hx hb dX8_costOf_28 (by decide) ?_
      exact wX8_costOf_29 X x2 x3 (1 : Int32) τ5 hf _ _ _ hH (lv_sub hl [0, 2, 3] rfl)
    · have hf := fw_neg hc hf
      refine lv_iconst (v := (0 : Int32)) hx hb dX8_costOf_24 (by decide) ?_
      refine lv_goto (tgt := 29) hx hb dX8_costOf_25 (by decide) ?_
      exact wX8_costOf_29 X x2 x3 (0 : Int32) τ5 hf _ _ _ hH (lv_sub hl [0, 2, 3] rfl)
  · have hf := fw_pos hc hf
    refine lv_sipush (v := (-10001 : Int32)) hx hb dX8_costOf_11 (by decide) ?_
    obtain ⟨rfl, rfl⟩ := fw_s2 hf
    exact fw_reti X hH dX8_costOf_14
abbrev rmX8_bestB : Room := { frames := 5, cells := 0, slots := 0, locals := 122 }
theorem qX8_bestB : fw_QV RX8 yX8_bestB cX8_bestB 7 (some .int) 2 := ⟨⟨tw_4_198, tv_X8_bestB, tw_1_10, tw_4_199⟩, by decide +kernel⟩
def pX8_bestB_10 : Nat → Int32 → Int32 → Int32 → Int32 → Int32 → fw_T → Option (Int32 × fw_T)
  | 0, _, _, _, _, _, _ => none
  | n + 1, x1, x2, x3, x4, x5, σ =>
    if (10 : Int32) ≤ x5 then
      some (x3, σ)
    else
      fw_b2 (pX8_costOf x1 x5 x2 σ) fun w3 τ2 =>
      if w3 = (-10001 : Int32) then
        pX8_bestB_10 n x1 x2 x3 x4 (x5 + (1 : Int32)) τ2
      else
        if x4 ≤ w3 then
          pX8_bestB_10 n x1 x2 x3 x4 (x5 + (1 : Int32)) τ2
        else
          pX8_bestB_10 n x1 x2 x5 w3 (x5 + (1 : Int32)) τ2
set_option maxRecDepth 100000 in
set_option maxHeartbeats 4000000 in
theorem wX8_bestB_10 {args : Array Value} {r : Int32} {σ' : fw_T} (X : fmX p m c cX8_bestB 7 s args RX8 meth (some .int) D cI cB)  : ∀ (n : Nat), ∀ (x1 : Int32), ∀ (x2 : Int32), ∀ (x3 : Int32), ∀ (x4 : Int32), ∀ (x5 : Int32), ∀ (σ : fw_T), pX8_bestB_10 n x1 x2 x3 x4 x5 σ = some (r, σ') → ∀ (H : Heap) (locs : List Loc) (ls : Array Slot), fmH D cI cB adr A s H locs σ → lv_has ls 7 [(0, .ref (adr 0)), (1, .int x1), (2, .int x2), (3, .int x3), (4, .int x4), (5, .int x5)] → W p l e rmX8_bestB s m args below meth c H locs 0 0 (fw_Qi D 7 adr (fw_M cI cB adr) A below args s r σ') (F0 m 10 ls []) := by
  have hx := X.1.1
  have hb := X.1.2.1
  intro n
  induction n with
  | zero =>
    intro x1 x2 x3 x4 x5 σ hf
    exact absurd hf (by simp [pX8_bestB_10])
  | succ n ih =>
    intro x1 x2 x3 x4 x5 σ hf H locs ls hH hl
    rw [pX8_bestB_10] at hf
    refine lv_iload hx hb dX8_bestB_10 (lv_at hl 5 rfl) ?_
    refine lv_bipush (v := (10 : Int32)) hx hb dX8_bestB_12 (by decide) ?_
    refine lv_icmp_ge (tgt := 55) hx hb dX8_bestB_14 (by decide) (fun hc => ?_) (fun hc => ?_)
    · have hf := fw_pos hc hf
      refine lv_iload_n hx hb dX8_bestB_55 rfl (lv_at hl 3 rfl) ?_
      obtain ⟨rfl, rfl⟩ := fw_s2 hf
      exact fw_reti X hH dX8_bestB_56
    · have hf := fw_neg hc hf
      refine lv_aload_n hx hb dX8_bestB_17 rfl (lv_at hl 0 rfl) ?_
      refine lv_iload_n hx hb dX8_bestB_18 rfl (lv_at hl 1 rfl) ?_
      refine lv_iload hx hb dX8_bestB_19 (lv_at hl 5 rfl) ?_
      refine lv_iload_n hx hb dX8_bestB_21 rfl (lv_at hl 2 rfl) ?_
      obtain ⟨w3, τ2, g1, hf⟩ := fw_b2s hf
      refine fw_ci hH (fw_rV (As := [.int x1, .int x5, .int x2]) (rest := []) (id := 0) X hH (kX8_costOf  g1 _) qX8_costOf tw_4_200 ⟨Nat.le_of_ble_eq_true rfl, Nat.le_of_ble_eq_true rfl⟩ rfl rfl (by decide) rfl rfl rfl hl.1 rfl (Nat.le_of_ble_eq_true rfl) dX8_bestB_22) (fun H locs hH => ?_)
      refine lv_istore (lv' := [(6, .int w3), (0, .ref (adr 0)), (1, .int x1), (2, .int x2), (3, .int x3), (4, .int x4), (5, .int x5)]) hx hb dX8_bestB_25 hl (by decide) rfl (fun ls hl => ?_)
      refine lv_iload hx hb dX8_bestB_27 (lv_at hl 0 rfl) ?_
      refine lv_sipush (v := (-10001 : Int32)) hx hb dX8_bestB_29 (by decide) ?_
      refine lv_icmp_eq (tgt := 49) hx hb dX8_bestB_32 (by decide) (fun hc => ?_) (fun hc => ?_)
      · have hf := fw_pos hc hf
        refine lv_iinc (v := (x5 + (1 : Int32))) (lv' := [(5, .int (x5 + (1 : Int32))), (6, .int w3), (0, .ref (adr 0)), (1, .int x1), (2, .int x2), (3, .int x3), (4, .int x4)]) hx hb dX8_bestB_49 hl (k := 6) rfl rfl (by decide) rfl (fun ls hl => ?_)
        refine lv_goto (tgt := 10) hx hb dX8_bestB_52 (by decide) ?_
        exact ih x1 x2 x3 x4 (x5 + (1 : Int32)) τ2 hf _ _ _ hH (lv_sub hl [2, 3, 4, 5, 6, 0] rfl)
      · have hf := fw_neg hc hf
        refine lv_iload hx hb dX8_bestB_35 (lv_at hl 0 rfl) ?_
        refine lv_iload hx hb dX8_bestB_37 (lv_at hl 5 rfl) ?_
        refine lv_icmp_ge (tgt := 49) hx hb dX8_bestB_39 (by decide) (fun hc => ?_) (fun hc => ?_)
        · have hf := fw_pos hc hf
          refine lv_iinc (v := (x5 + (1 : Int32))) (lv' := [(5, .int (x5 + (1 : Int32))), (6, .int w3), (0, .ref (adr 0)), (1, .int x1), (2, .int x2), (3, .int x3), (4, .int x4)]) hx hb dX8_bestB_49 hl (k := 6) rfl rfl (by decide) rfl (fun ls hl => ?_)
          refine lv_goto (tgt := 10) hx hb dX8_bestB_52 (by decide) ?_
          exact ih x1 x2 x3 x4 (x5 + (1 : Int32)) τ2 hf _ _ _ hH (lv_sub hl [2, 3, 4, 5, 6, 0] rfl)
        · have hf := fw_neg hc hf
          refine lv_iload hx hb dX8_bestB_42 (lv_at hl 6 rfl) ?_
          refine lv_istore_n (lv' := [(3, .int x5), (6, .int w3), (0, .ref (adr 0)), (1, .int x1), (2, .int x2), (4, .int x4), (5, .int x5)]) hx hb dX8_bestB_44 rfl hl (by decide) rfl (fun ls hl => ?_)
          refine lv_iload hx hb dX8_bestB_45 (lv_at hl 1 rfl) ?_
          refine lv_istore (lv' := [(4, .int w3), (3, .int x5), (6, .int w3), (0, .ref (adr 0)), (1, .int x1), (2, .int x2), (5, .int x5)]) hx hb dX8_bestB_47 hl (by decide) rfl (fun ls hl => ?_)
          refine lv_iinc (v := (x5 + (1 : Int32))) (lv' := [(5, .int (x5 + (1 : Int32))), (4, .int w3), (3, .int x5), (6, .int w3), (0, .ref (adr 0)), (1, .int x1), (2, .int x2)]) hx hb dX8_bestB_49 hl (k := 6) rfl rfl (by decide) rfl (fun ls hl => ?_)
          refine lv_goto (tgt := 10) hx hb dX8_bestB_52 (by decide) ?_
          exact ih x1 x2 x5 w3 (x5 + (1 : Int32)) τ2 hf _ _ _ hH (lv_sub hl [4, 5, 6, 2, 1, 0] rfl)
def pX8_bestB (x1 : Int32) (x2 : Int32) (σ : fw_T) : Option (Int32 × fw_T) :=
  pX8_bestB_10 400 x1 x2 (-10001 : Int32) (3 : Int32) (0 : Int32) σ
set_option maxRecDepth 100000 in
set_option maxHeartbeats 4000000 in
theorem kX8_bestB {x1 : Int32} {x2 : Int32} {r : Int32} {σ σ' : fw_T} (hf : pX8_bestB x1 x2 σ = some (r, σ')) : fw_Ci l yX8_bestB (Cond.code yX8_bestB cX8_bestB 7 (some .int) :: lwT) rmX8_bestB [.ref (adr 0), .int x1, .int x2] D 7 adr (fw_M cI cB adr) (fmT cI cB) [] σ r σ' := by
  refine fw_start (Qc := (fun A => va_Qi (fun r' (_ : Unit) => r' = r) (fun _ t => va_P D vwCl (fw_ws 7 adr (fw_M cI cB adr σ')) t.heap) A)) (by decide) (by simp [lg_sl, Value.category]) rfl ?_
  intro p e s m below meth c A X hH ls hl
  have hx := X.1.1
  have hb := X.1.2.1
  have hl : lv_has ls 7 [(0, .ref (adr 0)), (1, .int x1), (2, .int x2)] := hl
  unfold pX8_bestB at hf
  refine lv_sipush (v := (-10001 : Int32)) hx hb dX8_bestB_0 (by decide) ?_
  refine lv_istore_n (lv' := [(3, .int (-10001 : Int32)), (0, .ref (adr 0)), (1, .int x1), (2, .int x2)]) hx hb dX8_bestB_3 rfl hl (by decide) rfl (fun ls hl => ?_)
  refine lv_iconst (v := (3 : Int32)) hx hb dX8_bestB_4 (by decide) ?_
  refine lv_istore (lv' := [(4, .int (3 : Int32)), (3, .int (-10001 : Int32)), (0, .ref (adr 0)), (1, .int x1), (2, .int x2)]) hx hb dX8_bestB_5 hl (by decide) rfl (fun ls hl => ?_)
  refine lv_iconst (v := (0 : Int32)) hx hb dX8_bestB_7 (by decide) ?_
  refine lv_istore (lv' := [(5, .int (0 : Int32)), (4, .int (3 : Int32)), (3, .int (-10001 : Int32)), (0, .ref (adr 0)), (1, .int x1), (2, .int x2)]) hx hb dX8_bestB_8 hl (by decide) rfl (fun ls hl => ?_)
  exact wX8_bestB_10 X 400 x1 x2 (-10001 : Int32) (3 : Int32) (0 : Int32) σ hf _ _ _ hH (lv_sub hl [3, 4, 5, 2, 1, 0] rfl)
abbrev rmX8_missing : Room := { frames := 6, cells := 0, slots := 0, locals := 148 }
theorem qX8_missing : fw_QV RX8 yX8_missing cX8_missing 4 (some .int) 2 := ⟨⟨tw_4_194, tv_X8_missing, tw_1_10, tw_4_195⟩, by decide +kernel⟩
def pX8_missing (x1 : Int32) (x2 : Int32) (σ : fw_T) : Option (Int32 × fw_T) :=
  fw_b2 (pX8_bestB x1 x2 σ) fun w3 τ2 =>
  if w3 = (-10001 : Int32) then
    some ((-10001 : Int32), τ2)
  else
    fw_b2 (pX8_costOf x1 w3 x2 τ2) fun w6 τ5 =>
    some (w6, τ5)
set_option maxRecDepth 100000 in
set_option maxHeartbeats 4000000 in
theorem kX8_missing {x1 : Int32} {x2 : Int32} {r : Int32} {σ σ' : fw_T} (hf : pX8_missing x1 x2 σ = some (r, σ')) : fw_Ci l yX8_missing (Cond.code yX8_missing cX8_missing 4 (some .int) :: lwT) rmX8_missing [.ref (adr 0), .int x1, .int x2] D 7 adr (fw_M cI cB adr) (fmT cI cB) [] σ r σ' := by
  refine fw_start (Qc := (fun A => va_Qi (fun r' (_ : Unit) => r' = r) (fun _ t => va_P D vwCl (fw_ws 7 adr (fw_M cI cB adr σ')) t.heap) A)) (by decide) (by simp [lg_sl, Value.category]) rfl ?_
  intro p e s m below meth c A X hH ls hl
  have hx := X.1.1
  have hb := X.1.2.1
  have hl : lv_has ls 4 [(0, .ref (adr 0)), (1, .int x1), (2, .int x2)] := hl
  unfold pX8_missing at hf
  refine lv_aload_n hx hb dX8_missing_0 rfl (lv_at hl 0 rfl) ?_
  refine lv_iload_n hx hb dX8_missing_1 rfl (lv_at hl 1 rfl) ?_
  refine lv_iload_n hx hb dX8_missing_2 rfl (lv_at hl 2 rfl) ?_
  obtain ⟨w3, τ2, g1, hf⟩ := fw_b2s hf
  refine fw_ci hH (fw_rV (As := [.int x1, .int x2]) (rest := []) (id := 0) X hH (kX8_bestB  g1 _) qX8_bestB tw_4_196 ⟨Nat.le_of_ble_eq_true rfl, Nat.le_of_ble_eq_true rfl⟩ rfl rfl (by decide) rfl rfl rfl hl.1 rfl (Nat.le_of_ble_eq_true rfl) dX8_missing_3) (fun H locs hH => ?_)
  refine lv_istore_n (lv' := [(3, .int w3), (0, .ref (adr 0)), (1, .int x1), (2, .int x2)]) hx hb dX8_missing_6 rfl hl (by decide) rfl (fun ls hl => ?_)
  refine lv_iload_n hx hb dX8_missing_7 rfl (lv_at hl 0 rfl) ?_
  refine lv_sipush (v := (-10001 : Int32)) hx hb dX8_missing_8 (by decide) ?_
  refine lv_icmp_ne (tgt := 20) hx hb dX8_missing_11 (by decide) (fun hc => ?_) (fun hc => ?_)
  · have hf := fw_neg hc hf
    refine lv_aload_n hx hb dX8_missing_20 rfl (lv_at hl 1 rfl) ?_
    refine lv_iload_n hx hb dX8_missing_21 rfl (lv_at hl 2 rfl) ?_
    refine lv_iload_n hx hb dX8_missing_22 rfl (lv_at hl 0 rfl) ?_
    refine lv_iload_n hx hb dX8_missing_23 rfl (lv_at hl 3 rfl) ?_
    obtain ⟨w6, τ5, g4, hf⟩ := fw_b2s hf
    refine fw_ci hH (fw_rV (As := [.int x1, .int w3, .int x2]) (rest := []) (id := 0) X hH (kX8_costOf  g4 _) qX8_costOf tw_4_200 ⟨Nat.le_of_ble_eq_true rfl, Nat.le_of_ble_eq_true rfl⟩ rfl rfl (by decide) rfl rfl rfl hl.1 rfl (Nat.le_of_ble_eq_true rfl) dX8_missing_24) (fun H locs hH => ?_)
    obtain ⟨rfl, rfl⟩ := fw_s2 hf
    exact fw_reti X hH dX8_missing_27
  · have hf := fw_pos hc hf
    refine lv_sipush (v := (-10001 : Int32)) hx hb dX8_missing_14 (by decide) ?_
    refine lv_goto (tgt := 27) hx hb dX8_missing_17 (by decide) ?_
    obtain ⟨rfl, rfl⟩ := fw_s2 hf
    exact fw_reti X hH dX8_missing_27
abbrev rmX8_missingRows : Room := { frames := 7, cells := 0, slots := 0, locals := 171 }
theorem qX8_missingRows : fw_QV RX8 yX8_missingRows cX8_missingRows 3 (some .int) 2 := ⟨⟨tw_4_189, tw_4_190, tw_1_10, tw_4_191⟩, by decide +kernel⟩
def pX8_missingRows (x1 : Int32) (x2 : Int32) (σ : fw_T) : Option (Int32 × fw_T) :=
  fw_b2 (pX8_isDigitPair x1 x2 σ) fun w3 τ2 =>
  if w3 = 0 then
    fw_b2 (pX8_fail (-10002 : Int32) τ2) fun w6 τ5 =>
    some (w6, τ5)
  else
    fw_b2 (pX8_missing x1 x2 τ2) fun w9 τ8 =>
    some (w9, τ8)
set_option maxRecDepth 100000 in
set_option maxHeartbeats 4000000 in
theorem kX8_missingRows {x1 : Int32} {x2 : Int32} {r : Int32} {σ σ' : fw_T} (hf : pX8_missingRows x1 x2 σ = some (r, σ')) : fw_Ci l yX8_missingRows (Cond.code yX8_missingRows cX8_missingRows 3 (some .int) :: lwT) rmX8_missingRows [.ref (adr 0), .int x1, .int x2] D 7 adr (fw_M cI cB adr) (fmT cI cB) [] σ r σ' := by
  refine fw_start (Qc := (fun A => va_Qi (fun r' (_ : Unit) => r' = r) (fun _ t => va_P D vwCl (fw_ws 7 adr (fw_M cI cB adr σ')) t.heap) A)) (by decide) (by simp [lg_sl, Value.category]) rfl ?_
  intro p e s m below meth c A X hH ls hl
  have hx := X.1.1
  have hb := X.1.2.1
  have hl : lv_has ls 3 [(0, .ref (adr 0)), (1, .int x1), (2, .int x2)] := hl
  unfold pX8_missingRows at hf
  refine lv_iload_n hx hb dX8_missingRows_0 rfl (lv_at hl 1 rfl) ?_
  refine lv_iload_n hx hb dX8_missingRows_1 rfl (lv_at hl 2 rfl) ?_
  obtain ⟨w3, τ2, g1, hf⟩ := fw_b2s hf
  refine fw_ci hH (fw_rS (As := [.int x1, .int x2]) (rest := []) X hH (kX8_isDigitPair  g1 _) qX8_isDigitPair tw_4_14 ⟨Nat.le_of_ble_eq_true rfl, Nat.le_of_ble_eq_true rfl⟩ rfl rfl rfl hl.1 rfl (Nat.le_of_ble_eq_true rfl) dX8_missingRows_2) (fun H locs hH => ?_)
  refine lv_if_eq (tgt := 17) hx hb dX8_missingRows_5 (by decide) (fun hc => ?_) (fun hc => ?_)
  · have hf := fw_pos hc hf
    refine lv_aload_n hx hb dX8_missingRows_17 rfl (lv_at hl 0 rfl) ?_
    refine lv_sipush (v := (-10002 : Int32)) hx hb dX8_missingRows_18 (by decide) ?_
    obtain ⟨w6, τ5, g4, hf⟩ := fw_b2s hf
    refine fw_ci hH (fw_rV (As := [.int (-10002 : Int32)]) (rest := []) (id := 0) X hH (kX8_fail  g4 _) qX8_fail tw_4_20 ⟨Nat.le_of_ble_eq_true rfl, Nat.le_of_ble_eq_true rfl⟩ rfl rfl (by decide) rfl rfl rfl hl.1 rfl (Nat.le_of_ble_eq_true rfl) dX8_missingRows_21) (fun H locs hH => ?_)
    obtain ⟨rfl, rfl⟩ := fw_s2 hf
    exact fw_reti X hH dX8_missingRows_24
  · have hf := fw_neg hc hf
    refine lv_aload_n hx hb dX8_missingRows_8 rfl (lv_at hl 0 rfl) ?_
    refine lv_iload_n hx hb dX8_missingRows_9 rfl (lv_at hl 1 rfl) ?_
    refine lv_iload_n hx hb dX8_missingRows_10 rfl (lv_at hl 2 rfl) ?_
    obtain ⟨w9, τ8, g7, hf⟩ := fw_b2s hf
    refine fw_ci hH (fw_rV (As := [.int x1, .int x2]) (rest := []) (id := 0) X hH (kX8_missing  g7 _) qX8_missing tw_4_192 ⟨Nat.le_of_ble_eq_true rfl, Nat.le_of_ble_eq_true rfl⟩ rfl rfl (by decide) rfl rfl rfl hl.1 rfl (Nat.le_of_ble_eq_true rfl) dX8_missingRows_11) (fun H locs hH => ?_)
    refine lv_goto (tgt := 24) hx hb dX8_missingRows_14 (by decide) ?_
    obtain ⟨rfl, rfl⟩ := fw_s2 hf
    exact fw_reti X hH dX8_missingRows_24
abbrev rmX8_missingAt : Room := { frames := 6, cells := 0, slots := 0, locals := 148 }
theorem qX8_missingAt : fw_QV RX8 yX8_missingAt cX8_missingAt 3 (some .int) 2 := ⟨⟨tw_4_210, tv_X8_missingAt, tw_1_10, tw_4_211⟩, by decide +kernel⟩
def pX8_missingAt (x1 : Int32) (x2 : Int32) (σ : fw_T) : Option (Int32 × fw_T) :=
  fw_b2 (pX8_isAnswer x1 x2 σ) fun w3 τ2 =>
  if w3 = 0 then
    fw_b2 (pX8_bestB x1 x2 τ2) fun w6 τ5 =>
    some (w6, τ5)
  else
    some ((-10001 : Int32), τ2)
set_option maxRecDepth 100000 in
set_option maxHeartbeats 4000000 in
theorem kX8_missingAt {x1 : Int32} {x2 : Int32} {r : Int32} {σ σ' : fw_T} (hf : pX8_missingAt x1 x2 σ = some (r, σ')) : fw_Ci l yX8_missingAt (Cond.code yX8_missingAt cX8_missingAt 3 (some .int) :: lwT) rmX8_missingAt [.ref (adr 0), .int x1, .int x2] D 7 adr (fw_M cI cB adr) (fmT cI cB) [] σ r σ' := by
  refine fw_start (Qc := (fun A => va_Qi (fun r' (_ : Unit) => r' = r) (fun _ t => va_P D vwCl (fw_ws 7 adr (fw_M cI cB adr σ')) t.heap) A)) (by decide) (by simp [lg_sl, Value.category]) rfl ?_
  intro p e s m below meth c A X hH ls hl
  have hx := X.1.1
  have hb := X.1.2.1
  have hl : lv_has ls 3 [(0, .ref (adr 0)), (1, .int x1), (2, .int x2)] := hl
  unfold pX8_missingAt at hf
  refine lv_aload_n hx hb dX8_missingAt_0 rfl (lv_at hl 0 rfl) ?_
  refine lv_iload_n hx hb dX8_missingAt_1 rfl (lv_at hl 1 rfl) ?_
  refine lv_iload_n hx hb dX8_missingAt_2 rfl (lv_at hl 2 rfl) ?_
  obtain ⟨w3, τ2, g1, hf⟩ := fw_b2s hf
  refine fw_ci hH (fw_rV (As := [.int x1, .int x2]) (rest := []) (id := 0) X hH (kX8_isAnswer  g1 _) qX8_isAnswer tw_4_125 ⟨Nat.le_of_ble_eq_true rfl, Nat.le_of_ble_eq_true rfl⟩ rfl rfl (by decide) rfl rfl rfl hl.1 rfl (Nat.le_of_ble_eq_true rfl) dX8_missingAt_3) (fun H locs hH => ?_)
  refine lv_if_eq (tgt := 15) hx hb dX8_missingAt_6 (by decide) (fun hc => ?_) (fun hc => ?_)
  · have hf := fw_pos hc hf
    refine lv_aload_n hx hb dX8_missingAt_15 rfl (lv_at hl 0 rfl) ?_
    refine lv_iload_n hx hb dX8_missingAt_16 rfl (lv_at hl 1 rfl) ?_
    refine lv_iload_n hx hb dX8_missingAt_17 rfl (lv_at hl 2 rfl) ?_
    obtain ⟨w6, τ5, g4, hf⟩ := fw_b2s hf
    refine fw_ci hH (fw_rV (As := [.int x1, .int x2]) (rest := []) (id := 0) X hH (kX8_bestB  g4 _) qX8_bestB tw_4_196 ⟨Nat.le_of_ble_eq_true rfl, Nat.le_of_ble_eq_true rfl⟩ rfl rfl (by decide) rfl rfl rfl hl.1 rfl (Nat.le_of_ble_eq_true rfl) dX8_missingAt_18) (fun H locs hH => ?_)
    obtain ⟨rfl, rfl⟩ := fw_s2 hf
    exact fw_reti X hH dX8_missingAt_21
  · have hf := fw_neg hc hf
    refine lv_sipush (v := (-10001 : Int32)) hx hb dX8_missingAt_9 (by decide) ?_
    refine lv_goto (tgt := 21) hx hb dX8_missingAt_12 (by decide) ?_
    obtain ⟨rfl, rfl⟩ := fw_s2 hf
    exact fw_reti X hH dX8_missingAt_21
abbrev rmX8_missingB : Room := { frames := 7, cells := 0, slots := 0, locals := 170 }
theorem qX8_missingB : fw_QV RX8 yX8_missingB cX8_missingB 3 (some .int) 2 := ⟨⟨tw_4_205, tw_4_206, tw_1_10, tw_4_207⟩, by decide +kernel⟩
def pX8_missingB (x1 : Int32) (x2 : Int32) (σ : fw_T) : Option (Int32 × fw_T) :=
  fw_b2 (pX8_isDigitPair x1 x2 σ) fun w3 τ2 =>
  if w3 = 0 then
    fw_b2 (pX8_fail (-10002 : Int32) τ2) fun w6 τ5 =>
    some (w6, τ5)
  else
    fw_b2 (pX8_missingAt x1 x2 τ2) fun w9 τ8 =>
    some (w9, τ8)
set_option maxRecDepth 100000 in
set_option maxHeartbeats 4000000 in
theorem kX8_missingB {x1 : Int32} {x2 : Int32} {r : Int32} {σ σ' : fw_T} (hf : pX8_missingB x1 x2 σ = some (r, σ')) : fw_Ci l yX8_missingB (Cond.code yX8_missingB cX8_missingB 3 (some .int) :: lwT) rmX8_missingB [.ref (adr 0), .int x1, .int x2] D 7 adr (fw_M cI cB adr) (fmT cI cB) [] σ r σ' := by
  refine fw_start (Qc := (fun A => va_Qi (fun r' (_ : Unit) => r' = r) (fun _ t => va_P D vwCl (fw_ws 7 adr (fw_M cI cB adr σ')) t.heap) A)) (by decide) (by simp [lg_sl, Value.category]) rfl ?_
  intro p e s m below meth c A X hH ls hl
  have hx := X.1.1
  have hb := X.1.2.1
  have hl : lv_has ls 3 [(0, .ref (adr 0)), (1, .int x1), (2, .int x2)] := hl
  unfold pX8_missingB at hf
  refine lv_iload_n hx hb dX8_missingB_0 rfl (lv_at hl 1 rfl) ?_
  refine lv_iload_n hx hb dX8_missingB_1 rfl (lv_at hl 2 rfl) ?_
  obtain ⟨w3, τ2, g1, hf⟩ := fw_b2s hf
  refine fw_ci hH (fw_rS (As := [.int x1, .int x2]) (rest := []) X hH (kX8_isDigitPair  g1 _) qX8_isDigitPair tw_4_14 ⟨Nat.le_of_ble_eq_true rfl, Nat.le_of_ble_eq_true rfl⟩ rfl rfl rfl hl.1 rfl (Nat.le_of_ble_eq_true rfl) dX8_missingB_2) (fun H locs hH => ?_)
  refine lv_if_eq (tgt := 17) hx hb dX8_missingB_5 (by decide) (fun hc => ?_) (fun hc => ?_)
  · have hf := fw_pos hc hf
    refine lv_aload_n hx hb dX8_missingB_17 rfl (lv_at hl 0 rfl) ?_
    refine lv_sipush (v := (-10002 : Int32)) hx hb dX8_missingB_18 (by decide) ?_
    obtain ⟨w6, τ5, g4, hf⟩ := fw_b2s hf
    refine fw_ci hH (fw_rV (As := [.int (-10002 : Int32)]) (rest := []) (id := 0) X hH (kX8_fail  g4 _) qX8_fail tw_4_20 ⟨Nat.le_of_ble_eq_true rfl, Nat.le_of_ble_eq_true rfl⟩ rfl rfl (by decide) rfl rfl rfl hl.1 rfl (Nat.le_of_ble_eq_true rfl) dX8_missingB_21) (fun H locs hH => ?_)
    obtain ⟨rfl, rfl⟩ := fw_s2 hf
    exact fw_reti X hH dX8_missingB_24
  · have hf := fw_neg hc hf
    refine lv_aload_n hx hb dX8_missingB_8 rfl (lv_at hl 0 rfl) ?_
    refine lv_iload_n hx hb dX8_missingB_9 rfl (lv_at hl 1 rfl) ?_
    refine lv_iload_n hx hb dX8_missingB_10 rfl (lv_at hl 2 rfl) ?_
    obtain ⟨w9, τ8, g7, hf⟩ := fw_b2s hf
    refine fw_ci hH (fw_rV (As := [.int x1, .int x2]) (rest := []) (id := 0) X hH (kX8_missingAt  g7 _) qX8_missingAt tw_4_208 ⟨Nat.le_of_ble_eq_true rfl, Nat.le_of_ble_eq_true rfl⟩ rfl rfl (by decide) rfl rfl rfl hl.1 rfl (Nat.le_of_ble_eq_true rfl) dX8_missingB_11) (fun H locs hH => ?_)
    refine lv_goto (tgt := 24) hx hb dX8_missingB_14 (by decide) ?_
    obtain ⟨rfl, rfl⟩ := fw_s2 hf
    exact fw_reti X hH dX8_missingB_24
abbrev rmX8_insertMissing : Room := { frames := 6, cells := 0, slots := 0, locals := 148 }
theorem qX8_insertMissing : fw_QV RX8 yX8_insertMissing cX8_insertMissing 6 (some .int) 2 := ⟨⟨tw_4_213, tw_4_214, tw_1_10, tw_4_215⟩, by decide +kernel⟩
def pX8_insertMissing_148 (x4 : Int32) (x5 : Int32) (σ : fw_T) : Option (Int32 × fw_T) :=
  if x4 = 0 then
    if x5 = 0 then
      some (((0 : Int32) + (0 : Int32)), σ)
    else
      some (((0 : Int32) + (1 : Int32)), σ)
  else
    if x5 = 0 then
      some (((1 : Int32) + (0 : Int32)), σ)
    else
      some (((1 : Int32) + (1 : Int32)), σ)
set_option maxRecDepth 100000 in
set_option maxHeartbeats 4000000 in
theorem wX8_insertMissing_148 {args : Array Value} {r : Int32} {σ' : fw_T} (X : fmX p m c cX8_insertMissing 6 s args RX8 meth (some .int) D cI cB)  : ∀ (x4 : Int32), ∀ (x5 : Int32), ∀ (σ : fw_T), pX8_insertMissing_148 x4 x5 σ = some (r, σ') → ∀ (H : Heap) (locs : List Loc) (ls : Array Slot), fmH D cI cB adr A s H locs σ → lv_has ls 6 [(4, .int x4), (5, .int x5)] → W p l e rmX8_insertMissing s m args below meth c H locs 0 0 (fw_Qi D 7 adr (fw_M cI cB adr) A below args s r σ') (F0 m 148 ls []) := by
  have hx := X.1.1
  have hb := X.1.2.1
  intro x4 x5 σ hf H locs ls hH hl
  unfold pX8_insertMissing_148 at hf
  refine lv_iload hx hb dX8_insertMissing_148 (lv_at hl 0 rfl) ?_
  refine lv_if_eq (tgt := 157) hx hb dX8_insertMissing_150 (by decide) (fun hc => ?_) (fun hc => ?_)
  · have hf := fw_pos hc hf
    refine lv_iconst (v := (0 : Int32)) hx hb dX8_insertMissing_157 (by decide) ?_
    refine lv_iload hx hb dX8_insertMissing_158 (lv_at hl 1 rfl) ?_
    refine lv_if_eq (tgt := 167) hx hb dX8_insertMissing_160 (by decide) (fun hc => ?_) (fun hc => ?_)
    · have hf := fw_pos hc hf
      refine lv_iconst (v := (0 : Int32)) hx hb dX8_insertMissing_167 (by decide) ?_
      refine lv_iadd hx hb dX8_insertMissing_168 ?_
      obtain ⟨rfl, rfl⟩ := fw_s2 hf
      exact fw_reti X hH dX8_insertMissing_169
    · have hf := fw_neg hc hf
      refine lv_iconst (v := (1 : Int32)) hx hb dX8_insertMissing_163 (by decide) ?_
      refine lv_goto (tgt := 168) hx hb dX8_insertMissing_164 (by decide) ?_
      refine lv_iadd hx hb dX8_insertMissing_168 ?_
      obtain ⟨rfl, rfl⟩ := fw_s2 hf
      exact fw_reti X hH dX8_insertMissing_169
  · have hf := fw_neg hc hf
    refine lv_iconst (v := (1 : Int32)) hx hb dX8_insertMissing_153 (by decide) ?_
    refine lv_goto (tgt := 158) hx hb dX8_insertMissing_154 (by decide) ?_
    refine lv_iload hx hb dX8_insertMissing_158 (lv_at hl 1 rfl) ?_
    refine lv_if_eq (tgt := 167) hx hb dX8_insertMissing_160 (by decide) (fun hc => ?_) (fun hc => ?_)
    · have hf := fw_pos hc hf
      refine lv_iconst (v := (0 : Int32)) hx hb dX8_insertMissing_167 (by decide) ?_
      refine lv_iadd hx hb dX8_insertMissing_168 ?_
      obtain ⟨rfl, rfl⟩ := fw_s2 hf
      exact fw_reti X hH dX8_insertMissing_169
    · have hf := fw_neg hc hf
      refine lv_iconst (v := (1 : Int32)) hx hb dX8_insertMissing_163 (by decide) ?_
      refine lv_goto (tgt := 168) hx hb dX8_insertMissing_164 (by decide) ?_
      refine lv_iadd hx hb dX8_insertMissing_168 ?_
      obtain ⟨rfl, rfl⟩ := fw_s2 hf
      exact fw_reti X hH dX8_insertMissing_169
def pX8_insertMissing_131 (x2 : Int32) (x3 : Int32) (x4 : Int32) (x5 : Int32) (σ : fw_T) : Option (Int32 × fw_T) :=
  if x5 = 0 then
    pX8_insertMissing_148 x4 x5 σ
  else
    (pX8_putBehind (11 : Int32) (((10 : Int32) * x3) + x2) σ).bind fun τ16 =>
    pX8_insertMissing_148 x4 x5 τ16
set_option maxRecDepth 100000 in
set_option maxHeartbeats 4000000 in
theorem wX8_insertMissing_131 {args : Array Value} {r : Int32} {σ' : fw_T} (X : fmX p m c cX8_insertMissing 6 s args RX8 meth (some .int) D cI cB)  : ∀ (x2 : Int32), ∀ (x3 : Int32), ∀ (x4 : Int32), ∀ (x5 : Int32), ∀ (σ : fw_T), pX8_insertMissing_131 x2 x3 x4 x5 σ = some (r, σ') → ∀ (H : Heap) (locs : List Loc) (ls : Array Slot), fmH D cI cB adr A s H locs σ → lv_has ls 6 [(0, .ref (adr 0)), (2, .int x2), (3, .int x3), (4, .int x4), (5, .int x5)] → W p l e rmX8_insertMissing s m args below meth c H locs 0 0 (fw_Qi D 7 adr (fw_M cI cB adr) A below args s r σ') (F0 m 131 ls []) := by
  have hx := X.1.1
  have hb := X.1.2.1
  intro x2 x3 x4 x5 σ hf H locs ls hH hl
  unfold pX8_insertMissing_131 at hf
  refine lv_iload hx hb dX8_insertMissing_131 (lv_at hl 4 rfl) ?_
  refine lv_if_eq (tgt := 148) hx hb dX8_insertMissing_133 (by decide) (fun hc => ?_) (fun hc => ?_)
  · have hf := fw_pos hc hf
    exact wX8_insertMissing_148 X x4 x5 σ hf _ _ _ hH (lv_sub hl [3, 4] rfl)
  · have hf := fw_neg hc hf
    refine lv_aload_n hx hb dX8_insertMissing_136 rfl (lv_at hl 0 rfl) ?_
    refine lv_bipush (v := (11 : Int32)) hx hb dX8_insertMissing_137 (by decide) ?_
    refine lv_bipush (v := (10 : Int32)) hx hb dX8_insertMissing_139 (by decide) ?_
    refine lv_iload_n hx hb dX8_insertMissing_141 rfl (lv_at hl 2 rfl) ?_
    refine lv_imul hx hb dX8_insertMissing_142 ?_
    refine lv_iload_n hx hb dX8_insertMissing_143 rfl (lv_at hl 1 rfl) ?_
    refine lv_iadd hx hb dX8_insertMissing_144 ?_
    obtain ⟨τ16, g15, hf⟩ := fw_bd hf
    refine fw_cv hH (fw_rV (As := [.int (11 : Int32), .int (((10 : Int32) * x3) + x2)]) (rest := []) (id := 0) X hH (kX8_putBehind  g15 _) qX8_putBehind tw_4_32 ⟨Nat.le_of_ble_eq_true rfl, Nat.le_of_ble_eq_true rfl⟩ rfl rfl (by decide) rfl rfl rfl hl.1 rfl (Nat.le_of_ble_eq_true rfl) dX8_insertMissing_145) (fun H locs hH => ?_)
    exact wX8_insertMissing_148 X x4 x5 τ16 hf _ _ _ hH (lv_sub hl [3, 4] rfl)
def pX8_insertMissing_111 (x1 : Int32) (x2 : Int32) (x3 : Int32) (x4 : Int32) (x5 : Int32) (σ : fw_T) : Option (Int32 × fw_T) :=
  (pX8_note σ).bind fun τ14 =>
  if x4 = 0 then
    pX8_insertMissing_131 x2 x3 x4 x5 τ14
  else
    (pX8_putBehind (0 : Int32) (((10 : Int32) * x1) + x3) τ14).bind fun τ18 =>
    pX8_insertMissing_131 x2 x3 x4 x5 τ18
set_option maxRecDepth 100000 in
set_option maxHeartbeats 4000000 in
theorem wX8_insertMissing_111 {args : Array Value} {r : Int32} {σ' : fw_T} (X : fmX p m c cX8_insertMissing 6 s args RX8 meth (some .int) D cI cB)  : ∀ (x1 : Int32), ∀ (x2 : Int32), ∀ (x3 : Int32), ∀ (x4 : Int32), ∀ (x5 : Int32), ∀ (σ : fw_T), pX8_insertMissing_111 x1 x2 x3 x4 x5 σ = some (r, σ') → ∀ (H : Heap) (locs : List Loc) (ls : Array Slot), fmH D cI cB adr A s H locs σ → lv_has ls 6 [(0, .ref (adr 0)), (1, .int x1), (2, .int x2), (3, .int x3), (4, .int x4), (5, .int x5)] → W p l e rmX8_insertMissing s m args below meth c H locs 0 0 (fw_Qi D 7 adr (fw_M cI cB adr) A below args s r σ') (F0 m 111 ls []) := by
  have hx := X.1.1
  have hb := X.1.2.1
  intro x1 x2 x3 x4 x5 σ hf H locs ls hH hl
  unfold pX8_insertMissing_111 at hf
  refine lv_aload_n hx hb dX8_insertMissing_111 rfl (lv_at hl 0 rfl) ?_
  obtain ⟨τ14, g13, hf⟩ := fw_bd hf
  refine fw_cv hH (fw_rV (As := []) (rest := []) (id := 0) X hH (kX8_note  g13 _) qX8_note tw_4_28 ⟨Nat.le_of_ble_eq_true rfl, Nat.le_of_ble_eq_true rfl⟩ rfl rfl (by decide) rfl rfl rfl hl.1 rfl (Nat.le_of_ble_eq_true rfl) dX8_insertMissing_112) (fun H locs hH => ?_)
  refine lv_iload hx hb dX8_insertMissing_115 (lv_at hl 4 rfl) ?_
  refine lv_if_eq (tgt := 131) hx hb dX8_insertMissing_117 (by decide) (fun hc => ?_) (fun hc => ?_)
  · have hf := fw_pos hc hf
    exact wX8_insertMissing_131 X x2 x3 x4 x5 τ14 hf _ _ _ hH (lv_sub hl [0, 2, 3, 4, 5] rfl)
  · have hf := fw_neg hc hf
    refine lv_aload_n hx hb dX8_insertMissing_120 rfl (lv_at hl 0 rfl) ?_
    refine lv_iconst (v := (0 : Int32)) hx hb dX8_insertMissing_121 (by decide) ?_
    refine lv_bipush (v := (10 : Int32)) hx hb dX8_insertMissing_122 (by decide) ?_
    refine lv_iload_n hx hb dX8_insertMissing_124 rfl (lv_at hl 1 rfl) ?_
    refine lv_imul hx hb dX8_insertMissing_125 ?_
    refine lv_iload_n hx hb dX8_insertMissing_126 rfl (lv_at hl 3 rfl) ?_
    refine lv_iadd hx hb dX8_insertMissing_127 ?_
    obtain ⟨τ18, g17, hf⟩ := fw_bd hf
    refine fw_cv hH (fw_rV (As := [.int (0 : Int32), .int (((10 : Int32) * x1) + x3)]) (rest := []) (id := 0) X hH (kX8_putBehind  g17 _) qX8_putBehind tw_4_32 ⟨Nat.le_of_ble_eq_true rfl, Nat.le_of_ble_eq_true rfl⟩ rfl rfl (by decide) rfl rfl rfl hl.1 rfl (Nat.le_of_ble_eq_true rfl) dX8_insertMissing_128) (fun H locs hH => ?_)
    exact wX8_insertMissing_131 X x2 x3 x4 x5 τ18 hf _ _ _ hH (lv_sub hl [0, 2, 3, 4, 5] rfl)
def pX8_insertMissing_86 (x1 : Int32) (x2 : Int32) (x3 : Int32) (x4 : Int32) (x5 : Int32) (σ : fw_T) : Option (Int32 × fw_T) :=
  if x5 = 0 then
    pX8_insertMissing_111 x1 x2 x3 x4 x5 σ
  else
    (fw_rd σ 1 52 (11 : Int32)).bind fun w19 =>
    if w19 = (10 : Int32) then
      fw_b2 (pX8_fail (-10004 : Int32) σ) fun w23 τ22 =>
      some (w23, τ22)
    else
      pX8_insertMissing_111 x1 x2 x3 x4 x5 σ
set_option maxRecDepth 100000 in
set_option maxHeartbeats 4000000 in
theorem wX8_insertMissing_86 {args : Array Value} {r : Int32} {σ' : fw_T} (X : fmX p m c cX8_insertMissing 6 s args RX8 meth (some .int) D cI cB)  : ∀ (x1 : Int32), ∀ (x2 : Int32), ∀ (x3 : Int32), ∀ (x4 : Int32), ∀ (x5 : Int32), ∀ (σ : fw_T), pX8_insertMissing_86 x1 x2 x3 x4 x5 σ = some (r, σ') → ∀ (H : Heap) (locs : List Loc) (ls : Array Slot), fmH D cI cB adr A s H locs σ → lv_has ls 6 [(0, .ref (adr 0)), (1, .int x1), (2, .int x2), (3, .int x3), (4, .int x4), (5, .int x5)] → W p l e rmX8_insertMissing s m args below meth c H locs 0 0 (fw_Qi D 7 adr (fw_M cI cB adr) A below args s r σ') (F0 m 86 ls []) := by
  have hx := X.1.1
  have hb := X.1.2.1
  intro x1 x2 x3 x4 x5 σ hf H locs ls hH hl
  unfold pX8_insertMissing_86 at hf
  refine lv_iload hx hb dX8_insertMissing_86 (lv_at hl 5 rfl) ?_
  refine lv_if_eq (tgt := 111) hx hb dX8_insertMissing_88 (by decide) (fun hc => ?_) (fun hc => ?_)
  · have hf := fw_pos hc hf
    exact wX8_insertMissing_111 X x1 x2 x3 x4 x5 σ hf _ _ _ hH (lv_sub hl [0, 1, 2, 3, 4, 5] rfl)
  · have hf := fw_neg hc hf
    refine lv_aload_n hx hb dX8_insertMissing_91 rfl (lv_at hl 0 rfl) ?_
    refine fw_get (id := 0) (k := 0) (v := .ref (adr 1)) X hH (by decide) rfl rfl inX8 (by decide) rfl tw_3_202 dX8_insertMissing_92 ?_
    refine lv_bipush (v := (11 : Int32)) hx hb dX8_insertMissing_95 (by decide) ?_
    obtain ⟨w19, g20, hf⟩ := fw_bd hf
    refine fw_iald (id := 1) (n := 52) X hH (by decide) rfl rfl g20 dX8_insertMissing_97 ?_
    refine lv_bipush (v := (10 : Int32)) hx hb dX8_insertMissing_98 (by decide) ?_
    refine lv_icmp_ne (tgt := 111) hx hb dX8_insertMissing_100 (by decide) (fun hc => ?_) (fun hc => ?_)
    · have hf := fw_neg hc hf
      exact wX8_insertMissing_111 X x1 x2 x3 x4 x5 σ hf _ _ _ hH (lv_sub hl [0, 1, 2, 3, 4, 5] rfl)
    · have hf := fw_pos hc hf
      refine lv_aload_n hx hb dX8_insertMissing_103 rfl (lv_at hl 0 rfl) ?_
      refine lv_sipush (v := (-10004 : Int32)) hx hb dX8_insertMissing_104 (by decide) ?_
      obtain ⟨w23, τ22, g21, hf⟩ := fw_b2s hf
      refine fw_ci hH (fw_rV (As := [.int (-10004 : Int32)]) (rest := []) (id := 0) X hH (kX8_fail  g21 _) qX8_fail tw_4_20 ⟨Nat.le_of_ble_eq_true rfl, Nat.le_of_ble_eq_true rfl⟩ rfl rfl (by decide) rfl rfl rfl hl.1 rfl (Nat.le_of_ble_eq_true rfl) dX8_insertMissing_107) (fun H locs hH => ?_)
      obtain ⟨rfl, rfl⟩ := fw_s2 hf
      exact fw_reti X hH dX8_insertMissing_110
def pX8_insertMissing_68 (x1 : Int32) (x2 : Int32) (x3 : Int32) (x4 : Int32) (y0 : Int32) (σ : fw_T) : Option (Int32 × fw_T) :=
  if x4 = 0 then
    pX8_insertMissing_86 x1 x2 x3 x4 y0 σ
  else
    (fw_rd σ 1 52 (0 : Int32)).bind fun w24 =>
    if w24 = (10 : Int32) then
      fw_b2 (pX8_fail (-10004 : Int32) σ) fun w28 τ27 =>
      some (w28, τ27)
    else
      pX8_insertMissing_86 x1 x2 x3 x4 y0 σ
set_option maxRecDepth 100000 in
set_option maxHeartbeats 4000000 in
theorem wX8_insertMissing_68 {args : Array Value} {r : Int32} {σ' : fw_T} (X : fmX p m c cX8_insertMissing 6 s args RX8 meth (some .int) D cI cB)  : ∀ (x1 : Int32), ∀ (x2 : Int32), ∀ (x3 : Int32), ∀ (x4 : Int32), ∀ (y0 : Int32), ∀ (σ : fw_T), pX8_insertMissing_68 x1 x2 x3 x4 y0 σ = some (r, σ') → ∀ (H : Heap) (locs : List Loc) (ls : Array Slot), fmH D cI cB adr A s H locs σ → lv_has ls 6 [(0, .ref (adr 0)), (1, .int x1), (2, .int x2), (3, .int x3), (4, .int x4)] → W p l e rmX8_insertMissing s m args below meth c H locs 0 0 (fw_Qi D 7 adr (fw_M cI cB adr) A below args s r σ') (F0 m 68 ls [.int y0]) := by
  have hx := X.1.1
  have hb := X.1.2.1
  intro x1 x2 x3 x4 y0 σ hf H locs ls hH hl
  unfold pX8_insertMissing_68 at hf
  refine lv_istore (lv' := [(5, .int y0), (0, .ref (adr 0)), (1, .int x1), (2, .int x2), (3, .int x3), (4, .int x4)]) hx hb dX8_insertMissing_68 hl (by decide) rfl (fun ls hl => ?_)
  refine lv_iload hx hb dX8_insertMissing_70 (lv_at hl 5 rfl) ?_
  refine lv_if_eq (tgt := 86) hx hb dX8_insertMissing_72 (by decide) (fun hc => ?_) (fun hc => ?_)
  · have hf := fw_pos hc hf
    exact wX8_insertMissing_86 X x1 x2 x3 x4 y0 σ hf _ _ _ hH (lv_sub hl [1, 2, 3, 4, 5, 0] rfl)
  · have hf := fw_neg hc hf
    refine lv_aload_n hx hb dX8_insertMissing_75 rfl (lv_at hl 1 rfl) ?_
    refine fw_get (id := 0) (k := 0) (v := .ref (adr 1)) X hH (by decide) rfl rfl inX8 (by decide) rfl tw_3_202 dX8_insertMissing_76 ?_
    refine lv_iconst (v := (0 : Int32)) hx hb dX8_insertMissing_79 (by decide) ?_
    obtain ⟨w24, g25, hf⟩ := fw_bd hf
    refine fw_iald (id := 1) (n := 52) X hH (by decide) rfl rfl g25 dX8_insertMissing_80 ?_
    refine lv_bipush (v := (10 : Int32)) hx hb dX8_insertMissing_81 (by decide) ?_
    refine lv_icmp_eq (tgt := 103) hx hb dX8_insertMissing_83 (by decide) (fun hc => ?_) (fun hc => ?_)
    · have hf := fw_pos hc hf
      refine lv_aload_n hx hb dX8_insertMissing_103 rfl (lv_at hl 1 rfl) ?_
      refine lv_sipush (v := (-10004 : Int32)) hx hb dX8_insertMissing_104 (by decide) ?_
      obtain ⟨w28, τ27, g26, hf⟩ := fw_b2s hf
      refine fw_ci hH (fw_rV (As := [.int (-10004 : Int32)]) (rest := []) (id := 0) X hH (kX8_fail  g26 _) qX8_fail tw_4_20 ⟨Nat.le_of_ble_eq_true rfl, Nat.le_of_ble_eq_true rfl⟩ rfl rfl (by decide) rfl rfl rfl hl.1 rfl (Nat.le_of_ble_eq_true rfl) dX8_insertMissing_107) (fun H locs hH => ?_)
      obtain ⟨rfl, rfl⟩ := fw_s2 hf
      exact fw_reti X hH dX8_insertMissing_110
    · have hf := fw_neg hc hf
      exact wX8_insertMissing_86 X x1 x2 x3 x4 y0 σ hf _ _ _ hH (lv_sub hl [1, 2, 3, 4, 5, 0] rfl)
def pX8_insertMissing (x1 : Int32) (x2 : Int32) (σ : fw_T) : Option (Int32 × fw_T) :=
  fw_b2 (pX8_isDigitPair x1 x2 σ) fun w3 τ2 =>
  if w3 = 0 then
    fw_b2 (pX8_fail (-10002 : Int32) τ2) fun w37 τ36 =>
    some (w37, τ36)
  else
    fw_b2 (pX8_bestB x1 x2 τ2) fun w6 τ5 =>
    if w6 = (-10001 : Int32) then
      fw_b2 (pX8_fail (-10003 : Int32) τ5) fun w34 τ33 =>
      some (w34, τ33)
    else
      fw_b2 (pX8_hasLeft x1 w6 τ5) fun w9 τ8 =>
      if w9 = 0 then
        fw_b2 (pX8_hasRight w6 x2 τ8) fun w31 τ30 =>
        if w31 = 0 then
          pX8_insertMissing_68 x1 x2 w6 (1 : Int32) (1 : Int32) τ30
        else
          pX8_insertMissing_68 x1 x2 w6 (1 : Int32) (0 : Int32) τ30
      else
        fw_b2 (pX8_hasRight w6 x2 τ8) fun w12 τ11 =>
        if w12 = 0 then
          pX8_insertMissing_68 x1 x2 w6 (0 : Int32) (1 : Int32) τ11
        else
          pX8_insertMissing_68 x1 x2 w6 (0 : Int32) (0 : Int32) τ11
set_option maxRecDepth 100000 in
set_option maxHeartbeats 4000000 in
theorem kX8_insertMissing {x1 : Int32} {x2 : Int32} {r : Int32} {σ σ' : fw_T} (hf : pX8_insertMissing x1 x2 σ = some (r, σ')) : fw_Ci l yX8_insertMissing (Cond.code yX8_insertMissing cX8_insertMissing 6 (some .int) :: lwT) rmX8_insertMissing [.ref (adr 0), .int x1, .int x2] D 7 adr (fw_M cI cB adr) (fmT cI cB) [] σ r σ' := by
  refine fw_start (Qc := (fun A => va_Qi (fun r' (_ : Unit) => r' = r) (fun _ t => va_P D vwCl (fw_ws 7 adr (fw_M cI cB adr σ')) t.heap) A)) (by decide) (by simp [lg_sl, Value.category]) rfl ?_
  intro p e s m below meth c A X hH ls hl
  have hx := X.1.1
  have hb := X.1.2.1
  have hl : lv_has ls 6 [(0, .ref (adr 0)), (1, .int x1), (2, .int x2)] := hl
  unfold pX8_insertMissing at hf
  refine lv_iload_n hx hb dX8_insertMissing_0 rfl (lv_at hl 1 rfl) ?_
  refine lv_iload_n hx hb dX8_insertMissing_1 rfl (lv_at hl 2 rfl) ?_
  obtain ⟨w3, τ2, g1, hf⟩ := fw_b2s hf
  refine fw_ci hH (fw_rS (As := [.int x1, .int x2]) (rest := []) X hH (kX8_isDigitPair  g1 _) qX8_isDigitPair tw_4_14 ⟨Nat.le_of_ble_eq_true rfl, Nat.le_of_ble_eq_true rfl⟩ rfl rfl rfl hl.1 rfl (Nat.le_of_ble_eq_true rfl) dX8_insertMissing_2) (fun H locs hH => ?_)
  refine lv_if_ne (tgt := 16) hx hb dX8_insertMissing_5 (by decide) (fun hc => ?_) (fun hc => ?_)
  · have hf := fw_neg hc hf
    refine lv_aload_n hx hb dX8_insertMissing_16 rfl (lv_at hl 0 rfl) ?_
    refine lv_iload_n hx hb dX8_insertMissing_17 rfl (lv_at hl 1 rfl) ?_
    refine lv_iload_n hx hb dX8_insertMissing_18 rfl (lv_at hl 2 rfl) ?_
    obtain ⟨w6, τ5, g4, hf⟩ := fw_b2s hf
    refine fw_ci hH (fw_rV (As := [.int x1, .int x2]) (rest := []) (id := 0) X hH (kX8_bestB  g4 _) qX8_bestB tw_4_196 ⟨Nat.le_of_ble_eq_true rfl, Nat.le_of_ble_eq_true rfl⟩ rfl rfl (by decide) rfl rfl rfl hl.1 rfl (Nat.le_of_ble_eq_true rfl) dX8_insertMissing_19) (fun H locs hH => ?_)
    refine lv_istore_n (lv' := [(3, .int w6), (0, .ref (adr 0)), (1, .int x1), (2, .int x2)]) hx hb dX8_insertMissing_22 rfl hl (by decide) rfl (fun ls hl => ?_)
    refine lv_iload_n hx hb dX8_insertMissing_23 rfl (lv_at hl 0 rfl) ?_
    refine lv_sipush (v := (-10001 : Int32)) hx hb dX8_insertMissing_24 (by decide) ?_
    refine lv_icmp_ne (tgt := 38) hx hb dX8_insertMissing_27 (by decide) (fun hc => ?_) (fun hc => ?_)
    · have hf := fw_neg hc hf
      refine lv_aload_n hx hb dX8_insertMissing_38 rfl (lv_at hl 1 rfl) ?_
      refine lv_iload_n hx hb dX8_insertMissing_39 rfl (lv_at hl 2 rfl) ?_
      refine lv_iload_n hx hb dX8_insertMissing_40 rfl (lv_at hl 0 rfl) ?_
      obtain ⟨w9, τ8, g7, hf⟩ := fw_b2s hf
      refine fw_ci hH (fw_rV (As := [.int x1, .int w6]) (rest := []) (id := 0) X hH (kX8_hasLeft  g7 _) qX8_hasLeft tw_4_133 ⟨Nat.le_of_ble_eq_true rfl, Nat.le_of_ble_eq_true rfl⟩ rfl rfl (by decide) rfl rfl rfl hl.1 rfl (Nat.le_of_ble_eq_true rfl) dX8_insertMissing_41) (fun H locs hH => ?_)
      refine lv_if_ne (tgt := 51) hx hb dX8_insertMissing_44 (by decide) (fun hc => ?_) (fun hc => ?_)
      · have hf := fw_neg hc hf
        refine lv_iconst (v := (0 : Int32)) hx hb dX8_insertMissing_51 (by decide) ?_
        refine lv_istore (lv' := [(4, .int (0 : Int32)), (3, .int w6), (0, .ref (adr 0)), (1, .int x1), (2, .int x2)]) hx hb dX8_insertMissing_52 hl (by decide) rfl (fun ls hl => ?_)
        refine lv_aload_n hx hb dX8_insertMissing_54 rfl (lv_at hl 2 rfl) ?_
        refine lv_iload_n hx hb dX8_insertMissing_55 rfl (lv_at hl 1 rfl) ?_
        refine lv_iload_n hx hb dX8_insertMissing_56 rfl (lv_at hl 4 rfl) ?_
        obtain ⟨w12, τ11, g10, hf⟩ := fw_b2s hf
        refine fw_ci hH (fw_rV (As := [.int w6, .int x2]) (rest := []) (id := 0) X hH (kX8_hasRight  g10 _) qX8_hasRight tw_4_137 ⟨Nat.le_of_ble_eq_true rfl, Nat.le_of_ble_eq_true rfl⟩ rfl rfl (by decide) rfl rfl rfl hl.1 rfl (Nat.le_of_ble_eq_true rfl) dX8_insertMissing_57) (fun H locs hH => ?_)
        refine lv_if_ne (tgt := 67) hx hb dX8_insertMissing_60 (by decide) (fun hc => ?_) (fun hc => ?_)
        · have hf := fw_neg hc hf
          refine lv_iconst (v := (0 : Int32)) hx hb dX8_insertMissing_67 (by decide) ?_
          exact wX8_insertMissing_68 X x1 x2 w6 (0 : Int32) (0 : Int32) τ11 hf _ _ _ hH (lv_sub hl [2, 3, 4, 1, 0] rfl)
        · have hf := fw_pos hc hf
          refine lv_iconst (v := (1 : Int32)) hx hb dX8_insertMissing_63 (by decide) ?_
          refine lv_goto (tgt := 68) hx hb dX8_insertMissing_64 (by decide) ?_
          exact wX8_insertMissing_68 X x1 x2 w6 (0 : Int32) (1 : Int32) τ11 hf _ _ _ hH (lv_sub hl [2, 3, 4, 1, 0] rfl)
      · have hf := fw_pos hc hf
        refine lv_iconst (v := (1 : Int32)) hx hb dX8_insertMissing_47 (by decide) ?_
        refine lv_goto (tgt := 52) hx hb dX8_insertMissing_48 (by decide) ?_
        refine lv_istore (lv' := [(4, .int (1 : Int32)), (3, .int w6), (0, .ref (adr 0)), (1, .int x1), (2, .int x2)]) hx hb dX8_insertMissing_52 hl (by decide) rfl (fun ls hl => ?_)
        refine lv_aload_n hx hb dX8_insertMissing_54 rfl (lv_at hl 2 rfl) ?_
        refine lv_iload_n hx hb dX8_insertMissing_55 rfl (lv_at hl 1 rfl) ?_
        refine lv_iload_n hx hb dX8_insertMissing_56 rfl (lv_at hl 4 rfl) ?_
        obtain ⟨w31, τ30, g29, hf⟩ := fw_b2s hf
        refine fw_ci hH (fw_rV (As := [.int w6, .int x2]) (rest := []) (id := 0) X hH (kX8_hasRight  g29 _) qX8_hasRight tw_4_137 ⟨Nat.le_of_ble_eq_true rfl, Nat.le_of_ble_eq_true rfl⟩ rfl rfl (by decide) rfl rfl rfl hl.1 rfl (Nat.le_of_ble_eq_true rfl) dX8_insertMissing_57) (fun H locs hH => ?_)
        refine lv_if_ne (tgt := 67) hx hb dX8_insertMissing_60 (by decide) (fun hc => ?_) (fun hc => ?_)
        · have hf := fw_neg hc hf
          refine lv_iconst (v := (0 : Int32)) hx hb dX8_insertMissing_67 (by decide) ?_
          exact wX8_insertMissing_68 X x1 x2 w6 (1 : Int32) (0 : Int32) τ30 hf _ _ _ hH (lv_sub hl [2, 3, 4, 1, 0] rfl)
        · have hf := fw_pos hc hf
          refine lv_iconst (v := (1 : Int32)) hx hb dX8_insertMissing_63 (by decide) ?_
          refine lv_goto (tgt := 68) hx hb dX8_insertMissing_64 (by decide) ?_
          exact wX8_insertMissing_68 X x1 x2 w6 (1 : Int32) (1 : Int32) τ30 hf _ _ _ hH (lv_sub hl [2, 3, 4, 1, 0] rfl)
    · have hf := fw_pos hc hf
      refine lv_aload_n hx hb dX8_insertMissing_30 rfl (lv_at hl 1 rfl) ?_
      refine lv_sipush (v := (-10003 : Int32)) hx hb dX8_insertMissing_31 (by decide) ?_
      obtain ⟨w34, τ33, g32, hf⟩ := fw_b2s hf
      refine fw_ci hH (fw_rV (As := [.int (-10003 : Int32)]) (rest := []) (id := 0) X hH (kX8_fail  g32 _) qX8_fail tw_4_20 ⟨Nat.le_of_ble_eq_true rfl, Nat.le_of_ble_eq_true rfl⟩ rfl rfl (by decide) rfl rfl rfl hl.1 rfl (Nat.le_of_ble_eq_true rfl) dX8_insertMissing_34) (fun H locs hH => ?_)
      obtain ⟨rfl, rfl⟩ := fw_s2 hf
      exact fw_reti X hH dX8_insertMissing_37
  · have hf := fw_pos hc hf
    refine lv_aload_n hx hb dX8_insertMissing_8 rfl (lv_at hl 0 rfl) ?_
    refine lv_sipush (v := (-10002 : Int32)) hx hb dX8_insertMissing_9 (by decide) ?_
    obtain ⟨w37, τ36, g35, hf⟩ := fw_b2s hf
    refine fw_ci hH (fw_rV (As := [.int (-10002 : Int32)]) (rest := []) (id := 0) X hH (kX8_fail  g35 _) qX8_fail tw_4_20 ⟨Nat.le_of_ble_eq_true rfl, Nat.le_of_ble_eq_true rfl⟩ rfl rfl (by decide) rfl rfl rfl hl.1 rfl (Nat.le_of_ble_eq_true rfl) dX8_insertMissing_12) (fun H locs hH => ?_)
    obtain ⟨rfl, rfl⟩ := fw_s2 hf
    exact fw_reti X hH dX8_insertMissing_15
abbrev rmX8_loosen : Room := { frames := 6, cells := 0, slots := 0, locals := 149 }
theorem qX8_loosen : fw_QV RX8 yX8_loosen cX8_loosen 5 (some .int) 2 := ⟨⟨tw_4_217, tw_4_218, tw_1_10, tw_4_219⟩, by decide +kernel⟩
def pX8_loosen_45 : Nat → Int32 → Int32 → fw_T → Option (Int32 × fw_T)
  | 0, _, _, _ => none
  | n + 1, x3, x4, σ =>
    if x4 < 0 then
      fw_b2 (pX8_ones x3 σ) fun w11 τ10 =>
      some (w11, τ10)
    else
      if ((x3 >>> (x4 &&& 31)) &&& (1 : Int32)) = (1 : Int32) then
        (pX8_dropFilter x4 σ).bind fun τ13 =>
        pX8_loosen_45 n x3 (x4 + (-1 : Int32)) τ13
      else
        pX8_loosen_45 n x3 (x4 + (-1 : Int32)) σ
set_option maxRecDepth 100000 in
set_option maxHeartbeats 4000000 in
theorem wX8_loosen_45 {args : Array Value} {r : Int32} {σ' : fw_T} (X : fmX p m c cX8_loosen 5 s args RX8 meth (some .int) D cI cB)  : ∀ (n : Nat), ∀ (x3 : Int32), ∀ (x4 : Int32), ∀ (σ : fw_T), pX8_loosen_45 n x3 x4 σ = some (r, σ') → ∀ (H : Heap) (locs : List Loc) (ls : Array Slot), fmH D cI cB adr A s H locs σ → lv_has ls 5 [(0, .ref (adr 0)), (3, .int x3), (4, .int x4)] → W p l e rmX8_loosen s m args below meth c H locs 0 0 (fw_Qi D 7 adr (fw_M cI cB adr) A below args s r σ') (F0 m 45 ls []) := by
  have hx := X.1.1
  have hb := X.1.2.1
  intro n
  induction n with
  | zero =>
    intro x3 x4 σ hf
    exact absurd hf (by simp [pX8_loosen_45])
  | succ n ih =>
    intro x3 x4 σ hf H locs ls hH hl
    rw [pX8_loosen_45] at hf
    refine lv_iload hx hb dX8_loosen_45 (lv_at hl 2 rfl) ?_
    refine lv_if_lt (tgt := 72) hx hb dX8_loosen_47 (by decide) (fun hc => ?_) (fun hc => ?_)
    · have hf := fw_pos hc hf
      refine lv_iload_n hx hb dX8_loosen_72 rfl (lv_at hl 1 rfl) ?_
      obtain ⟨w11, τ10, g9, hf⟩ := fw_b2s hf
      refine fw_ci hH (fw_rS (As := [.int x3]) (rest := []) X hH (kX8_ones  g9 _) qX8_ones tw_4_181 ⟨Nat.le_of_ble_eq_true rfl, Nat.le_of_ble_eq_true rfl⟩ rfl rfl rfl hl.1 rfl (Nat.le_of_ble_eq_true rfl) dX8_loosen_73) (fun H locs hH => ?_)
      obtain ⟨rfl, rfl⟩ := fw_s2 hf
      exact fw_reti X hH dX8_loosen_76
    · have hf := fw_neg hc hf
      refine lv_iload_n hx hb dX8_loosen_50 rfl (lv_at hl 1 rfl) ?_
      refine lv_iload hx hb dX8_loosen_51 (lv_at hl 2 rfl) ?_
      refine lv_ishr hx hb dX8_loosen_53 ?_
      refine lv_iconst (v := (1 : Int32)) hx hb dX8_loosen_54 (by decide) ?_
      refine lv_iand hx hb dX8_loosen_55 ?_
      refine lv_iconst (v := (1 : Int32)) hx hb dX8_loosen_56 (by decide) ?_
      refine lv_icmp_ne (tgt := 66) hx hb dX8_loosen_57 (by decide) (fun hc => ?_) (fun hc => ?_)
      · have hf := fw_neg hc hf
        refine lv_iinc (v := (x4 + (-1 : Int32))) (lv' := [(4, .int (x4 + (-1 : Int32))), (0, .ref (adr 0)), (3, .int x3)]) hx hb dX8_loosen_66 hl (k := 2) rfl rfl (by decide) rfl (fun ls hl => ?_)
        refine lv_goto (tgt := 45) hx hb dX8_loosen_69 (by decide) ?_
        exact ih x3 (x4 + (-1 : Int32)) σ hf _ _ _ hH (lv_sub hl [1, 2, 0] rfl)
      · have hf := fw_pos hc hf
        refine lv_aload_n hx hb dX8_loosen_60 rfl (lv_at hl 0 rfl) ?_
        refine lv_iload hx hb dX8_loosen_61 (lv_at hl 2 rfl) ?_
        obtain ⟨τ13, g12, hf⟩ := fw_bd hf
        refine fw_cv hH (fw_rV (As := [.int x4]) (rest := []) (id := 0) X hH (kX8_dropFilter  g12 _) qX8_dropFilter tw_4_79 ⟨Nat.le_of_ble_eq_true rfl, Nat.le_of_ble_eq_true rfl⟩ rfl rfl (by decide) rfl rfl rfl hl.1 rfl (Nat.le_of_ble_eq_true rfl) dX8_loosen_63) (fun H locs hH => ?_)
        refine lv_iinc (v := (x4 + (-1 : Int32))) (lv' := [(4, .int (x4 + (-1 : Int32))), (0, .ref (adr 0)), (3, .int x3)]) hx hb dX8_loosen_66 hl (k := 2) rfl rfl (by decide) rfl (fun ls hl => ?_)
        refine lv_goto (tgt := 45) hx hb dX8_loosen_69 (by decide) ?_
        exact ih x3 (x4 + (-1 : Int32)) τ13 hf _ _ _ hH (lv_sub hl [1, 2, 0] rfl)
def pX8_loosen (x1 : Int32) (x2 : Int32) (σ : fw_T) : Option (Int32 × fw_T) :=
  fw_b2 (pX8_isDigitPair x1 x2 σ) fun w3 τ2 =>
  if w3 = 0 then
    fw_b2 (pX8_fail (-10002 : Int32) τ2) fun w19 τ18 =>
    some (w19, τ18)
  else
    fw_b2 (pX8_removal x1 x2 τ2) fun w6 τ5 =>
    if w6 = (-10001 : Int32) then
      fw_b2 (pX8_fail (-10003 : Int32) τ5) fun w16 τ15 =>
      some (w16, τ15)
    else
      (pX8_note τ5).bind fun τ8 =>
      pX8_loosen_45 400 w6 (5 : Int32) τ8
set_option maxRecDepth 100000 in
set_option maxHeartbeats 4000000 in
theorem kX8_loosen {x1 : Int32} {x2 : Int32} {r : Int32} {σ σ' : fw_T} (hf : pX8_loosen x1 x2 σ = some (r, σ')) : fw_Ci l yX8_loosen (Cond.code yX8_loosen cX8_loosen 5 (some .int) :: lwT) rmX8_loosen [.ref (adr 0), .int x1, .int x2] D 7 adr (fw_M cI cB adr) (fmT cI cB) [] σ r σ' := by
  refine fw_start (Qc := (fun A => va_Qi (fun r' (_ : Unit) => r' = r) (fun _ t => va_P D vwCl (fw_ws 7 adr (fw_M cI cB adr σ')) t.heap) A)) (by decide) (by simp [lg_sl, Value.category]) rfl ?_
  intro p e s m below meth c A X hH ls hl
  have hx := X.1.1
  have hb := X.1.2.1
  have hl : lv_has ls 5 [(0, .ref (adr 0)), (1, .int x1), (2, .int x2)] := hl
  unfold pX8_loosen at hf
  refine lv_iload_n hx hb dX8_loosen_0 rfl (lv_at hl 1 rfl) ?_
  refine lv_iload_n hx hb dX8_loosen_1 rfl (lv_at hl 2 rfl) ?_
  obtain ⟨w3, τ2, g1, hf⟩ := fw_b2s hf
  refine fw_ci hH (fw_rS (As := [.int x1, .int x2]) (rest := []) X hH (kX8_isDigitPair  g1 _) qX8_isDigitPair tw_4_14 ⟨Nat.le_of_ble_eq_true rfl, Nat.le_of_ble_eq_true rfl⟩ rfl rfl rfl hl.1 rfl (Nat.le_of_ble_eq_true rfl) dX8_loosen_2) (fun H locs hH => ?_)
  refine lv_if_ne (tgt := 16) hx hb dX8_loosen_5 (by decide) (fun hc => ?_) (fun hc => ?_)
  · have hf := fw_neg hc hf
    refine lv_aload_n hx hb dX8_loosen_16 rfl (lv_at hl 0 rfl) ?_
    refine lv_iload_n hx hb dX8_loosen_17 rfl (lv_at hl 1 rfl) ?_
    refine lv_iload_n hx hb dX8_loosen_18 rfl (lv_at hl 2 rfl) ?_
    obtain ⟨w6, τ5, g4, hf⟩ := fw_b2s hf
    refine fw_ci hH (fw_rV (As := [.int x1, .int x2]) (rest := []) (id := 0) X hH (kX8_removal  g4 _) qX8_removal tw_4_177 ⟨Nat.le_of_ble_eq_true rfl, Nat.le_of_ble_eq_true rfl⟩ rfl rfl (by decide) rfl rfl rfl hl.1 rfl (Nat.le_of_ble_eq_true rfl) dX8_loosen_19) (fun H locs hH => ?_)
    refine lv_istore_n (lv' := [(3, .int w6), (0, .ref (adr 0)), (1, .int x1), (2, .int x2)]) hx hb dX8_loosen_22 rfl hl (by decide) rfl (fun ls hl => ?_)
    refine lv_iload_n hx hb dX8_loosen_23 rfl (lv_at hl 0 rfl) ?_
    refine lv_sipush (v := (-10001 : Int32)) hx hb dX8_loosen_24 (by decide) ?_
    refine lv_icmp_ne (tgt := 38) hx hb dX8_loosen_27 (by decide) (fun hc => ?_) (fun hc => ?_)
    · have hf := fw_neg hc hf
      refine lv_aload_n hx hb dX8_loosen_38 rfl (lv_at hl 1 rfl) ?_
      obtain ⟨τ8, g7, hf⟩ := fw_bd hf
      refine fw_cv hH (fw_rV (As := []) (rest := []) (id := 0) X hH (kX8_note  g7 _) qX8_note tw_4_28 ⟨Nat.le_of_ble_eq_true rfl, Nat.le_of_ble_eq_true rfl⟩ rfl rfl (by decide) rfl rfl rfl hl.1 rfl (Nat.le_of_ble_eq_true rfl) dX8_loosen_39) (fun H locs hH => ?_)
      refine lv_iconst (v := (5 : Int32)) hx hb dX8_loosen_42 (by decide) ?_
      refine lv_istore (lv' := [(4, .int (5 : Int32)), (3, .int w6), (0, .ref (adr 0)), (1, .int x1), (2, .int x2)]) hx hb dX8_loosen_43 hl (by decide) rfl (fun ls hl => ?_)
      exact wX8_loosen_45 X 400 w6 (5 : Int32) τ8 hf _ _ _ hH (lv_sub hl [2, 1, 0] rfl)
    · have hf := fw_pos hc hf
      refine lv_aload_n hx hb dX8_loosen_30 rfl (lv_at hl 1 rfl) ?_
      refine lv_sipush (v := (-10003 : Int32)) hx hb dX8_loosen_31 (by decide) ?_
      obtain ⟨w16, τ15, g14, hf⟩ := fw_b2s hf
      refine fw_ci hH (fw_rV (As := [.int (-10003 : Int32)]) (rest := []) (id := 0) X hH (kX8_fail  g14 _) qX8_fail tw_4_20 ⟨Nat.le_of_ble_eq_true rfl, Nat.le_of_ble_eq_true rfl⟩ rfl rfl (by decide) rfl rfl rfl hl.1 rfl (Nat.le_of_ble_eq_true rfl) dX8_loosen_34) (fun H locs hH => ?_)
      obtain ⟨rfl, rfl⟩ := fw_s2 hf
      exact fw_reti X hH dX8_loosen_37
  · have hf := fw_pos hc hf
    refine lv_aload_n hx hb dX8_loosen_8 rfl (lv_at hl 0 rfl) ?_
    refine lv_sipush (v := (-10002 : Int32)) hx hb dX8_loosen_9 (by decide) ?_
    obtain ⟨w19, τ18, g17, hf⟩ := fw_b2s hf
    refine fw_ci hH (fw_rV (As := [.int (-10002 : Int32)]) (rest := []) (id := 0) X hH (kX8_fail  g17 _) qX8_fail tw_4_20 ⟨Nat.le_of_ble_eq_true rfl, Nat.le_of_ble_eq_true rfl⟩ rfl rfl (by decide) rfl rfl rfl hl.1 rfl (Nat.le_of_ble_eq_true rfl) dX8_loosen_12) (fun H locs hH => ?_)
    obtain ⟨rfl, rfl⟩ := fw_s2 hf
    exact fw_reti X hH dX8_loosen_15
end
