section
variable {p : Program} {l : Launch} {e : Env} {s : State} {m : MethodId} {below : List Frame} {meth : Method} {c : Code} {D : va_G} {cI cO cB : ClassId} {adr : Nat → Nat} {A : Nat → Prop}
abbrev rmX8_ends : Room := { frames := 1, cells := 0, slots := 0, locals := 21 }
theorem qX8_ends : fw_QV RX8 yX8_ends cX8_ends 5 (some .int) 1 := ⟨⟨tw_5_47, tv_X8_ends, tw_1_10, tw_5_48⟩, by decide +kernel⟩
def pX8_ends_72 : Nat → Int32 → fw_T → Option (Int32 × fw_T)
  | 0, _, _ => none
  | n + 1, x3, σ =>
    if (52 : Int32) ≤ x3 then
      some ((fw_g σ 0 10), σ)
    else
      (fw_rd σ 2 52 x3).bind fun w3 =>
      (fw_wr σ 1 52 x3 w3).bind fun τ5 =>
      pX8_ends_72 n (x3 + (1 : Int32)) τ5
set_option maxRecDepth 100000 in
set_option maxHeartbeats 4000000 in
theorem wX8_ends_72 {args : Array Value} {r : Int32} {σ' : fw_T} (X : fmX p m c cX8_ends 5 s args RX8 meth (some .int) D cI cB)  : ∀ (n : Nat), ∀ (x3 : Int32), ∀ (σ : fw_T), pX8_ends_72 n x3 σ = some (r, σ') → ∀ (H : Heap) (locs : List Loc) (ls : Array Slot), fmH D cI cB adr A s H locs σ → lv_has ls 5 [(0, .ref (adr 0)), (3, .int x3)] → W p l e rmX8_ends s m args below meth c H locs 0 0 (fw_Qi D 7 adr (fw_M cI cB adr) A below args s r σ') (F0 m 72 ls []) := by
  have hx := X.1.1
  have hb := X.1.2.1
  intro n
  induction n with
  | zero =>
    intro x3 σ hf
    exact absurd hf (by simp [pX8_ends_72])
  | succ n ih =>
    intro x3 σ hf H locs ls hH hl
    rw [pX8_ends_72] at hf
    refine lv_iload_n hx hb dX8_ends_72 rfl (lv_at hl 1 rfl) ?_
    refine lv_bipush (v := (52 : Int32)) hx hb dX8_ends_73 (by decide) ?_
    refine lv_icmp_ge (tgt := 96) hx hb dX8_ends_75 (by decide) (fun hc => ?_) (fun hc => ?_)
    · have hf := fw_pos hc hf
      refine lv_aload_n hx hb dX8_ends_96 rfl (lv_at hl 0 rfl) ?_
      refine fw_get (id := 0) (k := 10) (v := .int (fw_g σ 0 10)) X hH (by decide) rfl rfl inX8 (by decide) rfl tw_3_212 dX8_ends_97 ?_
      obtain ⟨rfl, rfl⟩ := fw_s2 hf
      exact fw_reti X hH dX8_ends_100
    · have hf := fw_neg hc hf
      refine lv_aload_n hx hb dX8_ends_78 rfl (lv_at hl 0 rfl) ?_
      refine fw_get (id := 0) (k := 0) (v := .ref (adr 1)) X hH (by decide) rfl rfl inX8 (by decide) rfl tw_3_202 dX8_ends_79 ?_
      refine lv_iload_n hx hb dX8_ends_82 rfl (lv_at hl 1 rfl) ?_
      refine lv_aload_n hx hb dX8_ends_83 rfl (lv_at hl 0 rfl) ?_
      refine fw_get (id := 0) (k := 1) (v := .ref (adr 2)) X hH (by decide) rfl rfl inX8 (by decide) rfl tw_3_203 dX8_ends_84 ?_
      refine lv_iload_n hx hb dX8_ends_87 rfl (lv_at hl 1 rfl) ?_
      obtain ⟨w3, g4, hf⟩ := fw_bd hf
      refine fw_iald (id := 2) (n := 52) X hH (by decide) rfl rfl g4 dX8_ends_88 ?_
      obtain ⟨τ5, g6, hf⟩ := fw_bd hf
      refine fw_iast (id := 1) (n := 52) X hH (by decide) (fun σ => rfl) (fun k x j h => fm_ne h) rfl g6 dX8_ends_89 (fun H locs hH => ?_)
      refine lv_iinc (v := (x3 + (1 : Int32))) (lv' := [(3, .int (x3 + (1 : Int32))), (0, .ref (adr 0))]) hx hb dX8_ends_90 hl (k := 1) rfl rfl (by decide) rfl (fun ls hl => ?_)
      refine lv_goto (tgt := 72) hx hb dX8_ends_93 (by decide) ?_
      exact ih (x3 + (1 : Int32)) τ5 hf _ _ _ hH (lv_sub hl [1, 0] rfl)
def pX8_ends_16 : Nat → Int32 → Int32 → Int32 → fw_T → Option (Int32 × fw_T)
  | 0, _, _, _, _ => none
  | n + 1, x1, x2, x3, σ =>
    if (52 : Int32) ≤ x3 then
      if x2 = 0 then
        (pX8_note σ).bind fun τ2 =>
        pX8_ends_72 400 (0 : Int32) τ2
      else
        some (((-1000 : Int32) - x1), σ)
    else
      (fw_rd σ 1 52 x3).bind fun w7 =>
      (fw_rd σ 2 52 x3).bind fun w9 =>
      (fw_wr σ 1 52 x3 w9).bind fun τ11 =>
      (fw_wr τ11 2 52 x3 w7).bind fun τ13 =>
      pX8_ends_16 n x1 x2 (x3 + (1 : Int32)) τ13
set_option maxRecDepth 100000 in
set_option maxHeartbeats 4000000 in
theorem wX8_ends_16 {args : Array Value} {r : Int32} {σ' : fw_T} (X : fmX p m c cX8_ends 5 s args RX8 meth (some .int) D cI cB)  : ∀ (n : Nat), ∀ (x1 : Int32), ∀ (x2 : Int32), ∀ (x3 : Int32), ∀ (σ : fw_T), pX8_ends_16 n x1 x2 x3 σ = some (r, σ') → ∀ (H : Heap) (locs : List Loc) (ls : Array Slot), fmH D cI cB adr A s H locs σ → lv_has ls 5 [(0, .ref (adr 0)), (1, .int x1), (2, .int x2), (3, .int x3)] → W p l e rmX8_ends s m args below meth c H locs 0 0 (fw_Qi D 7 adr (fw_M cI cB adr) A below args s r σ') (F0 m 16 ls []) := by
  have hx := X.1.1
  have hb := X.1.2.1
  intro n
  induction n with
  | zero =>
    intro x1 x2 x3 σ hf
    exact absurd hf (by simp [pX8_ends_16])
  | succ n ih =>
    intro x1 x2 x3 σ hf H locs ls hH hl
    rw [pX8_ends_16] at hf
    refine lv_iload_n hx hb dX8_ends_16 rfl (lv_at hl 3 rfl) ?_
    refine lv_bipush (v := (52 : Int32)) hx hb dX8_ends_17 (by decide) ?_
    refine lv_icmp_ge (tgt := 56) hx hb dX8_ends_19 (by decide) (fun hc => ?_) (fun hc => ?_)
    · have hf := fw_pos hc hf
      refine lv_iload_n hx hb dX8_ends_56 rfl (lv_at hl 2 rfl) ?_
      refine lv_if_eq (tgt := 66) hx hb dX8_ends_57 (by decide) (fun hc => ?_) (fun hc => ?_)
      · have hf := fw_pos hc hf
        refine lv_aload_n hx hb dX8_ends_66 rfl (lv_at hl 0 rfl) ?_
        obtain ⟨τ2, g1, hf⟩ := fw_bd hf
        refine fw_cv hH (fw_rV (As := []) (rest := []) (id := 0) X hH (kX8_note  g1 _) qX8_note tw_4_28 ⟨Nat.le_of_ble_eq_true rfl, Nat.le_of_ble_eq_true rfl⟩ rfl rfl (by decide) rfl rfl rfl hl.1 rfl (Nat.le_of_ble_eq_true rfl) dX8_ends_67) (fun H locs hH => ?_)
        refine lv_iconst (v := (0 : Int32)) hx hb dX8_ends_70 (by decide) ?_
        refine lv_istore_n (lv' := [(3, .int (0 : Int32)), (0, .ref (adr 0)), (1, .int x1), (2, .int x2)]) hx hb dX8_ends_71 rfl hl (by decide) rfl (fun ls hl => ?_)
        exact wX8_ends_72 X 400 (0 : Int32) τ2 hf _ _ _ hH (lv_sub hl [1, 0] rfl)
      · have hf := fw_neg hc hf
        refine lv_sipush (v := (-1000 : Int32)) hx hb dX8_ends_60 (by decide) ?_
        refine lv_iload_n hx hb dX8_ends_63 rfl (lv_at hl 1 rfl) ?_
        refine lv_isub hx hb dX8_ends_64 ?_
        obtain ⟨rfl, rfl⟩ := fw_s2 hf
        exact fw_reti X hH dX8_ends_65
    · have hf := fw_neg hc hf
      refine lv_aload_n hx hb dX8_ends_22 rfl (lv_at hl 0 rfl) ?_
      refine fw_get (id := 0) (k := 0) (v := .ref (adr 1)) X hH (by decide) rfl rfl inX8 (by decide) rfl tw_3_202 dX8_ends_23 ?_
      refine lv_iload_n hx hb dX8_ends_26 rfl (lv_at hl 3 rfl) ?_
      obtain ⟨w7, g8, hf⟩ := fw_bd hf
      refine fw_iald (id := 1) (n := 52) X hH (by decide) rfl rfl g8 dX8_ends_27 ?_
      refine lv_istore (lv' := [(4, .int w7), (0, .ref (adr 0)), (1, .int x1), (2, .int x2), (3, .int x3)]) hx hb dX8_ends_28 hl (by decide) rfl (fun ls hl => ?_)
      refine lv_aload_n hx hb dX8_ends_30 rfl (lv_at hl 1 rfl) ?_
      refine fw_get (id := 0) (k := 0) (v := .ref (adr 1)) X hH (by decide) rfl rfl inX8 (by decide) rfl tw_3_202 dX8_ends_31 ?_
      refine lv_iload_n hx hb dX8_ends_34 rfl (lv_at hl 4 rfl) ?_
      refine lv_aload_n hx hb dX8_ends_35 rfl (lv_at hl 1 rfl) ?_
      refine fw_get (id := 0) (k := 1) (v := .ref (adr 2)) X hH (by decide) rfl rfl inX8 (by decide) rfl tw_3_203 dX8_ends_36 ?_
      refine lv_iload_n hx hb dX8_ends_39 rfl (lv_at hl 4 rfl) ?_
      obtain ⟨w9, g10, hf⟩ := fw_bd hf
      refine fw_iald (id := 2) (n := 52) X hH (by decide) rfl rfl g10 dX8_ends_40 ?_
      obtain ⟨τ11, g12, hf⟩ := fw_bd hf
      refine fw_iast (id := 1) (n := 52) X hH (by decide) (fun σ => rfl) (fun k x j h => fm_ne h) rfl g12 dX8_ends_41 (fun H locs hH => ?_)
      refine lv_aload_n hx hb dX8_ends_42 rfl (lv_at hl 1 rfl) ?_
      refine fw_get (id := 0) (k := 1) (v := .ref (adr 2)) X hH (by decide) rfl rfl inX8 (by decide) rfl tw_3_203 dX8_ends_43 ?_
      refine lv_iload_n hx hb dX8_ends_46 rfl (lv_at hl 4 rfl) ?_
      refine lv_iload hx hb dX8_ends_47 (lv_at hl 0 rfl) ?_
      obtain ⟨τ13, g14, hf⟩ := fw_bd hf
      refine fw_iast (id := 2) (n := 52) X hH (by decide) (fun σ => rfl) (fun k x j h => fm_ne h) rfl g14 dX8_ends_49 (fun H locs hH => ?_)
      refine lv_iinc (v := (x3 + (1 : Int32))) (lv' := [(3, .int (x3 + (1 : Int32))), (4, .int w7), (0, .ref (adr 0)), (1, .int x1), (2, .int x2)]) hx hb dX8_ends_50 hl (k := 4) rfl rfl (by decide) rfl (fun ls hl => ?_)
      refine lv_goto (tgt := 16) hx hb dX8_ends_53 (by decide) ?_
      exact ih x1 x2 (x3 + (1 : Int32)) τ13 hf _ _ _ hH (lv_sub hl [2, 3, 4, 0] rfl)
def pX8_ends (x1 : Int32) (σ : fw_T) : Option (Int32 × fw_T) :=
  if (fw_g σ 0 10) ≤ x1 then
    pX8_ends_16 400 x1 (0 : Int32) (0 : Int32) σ
  else
    pX8_ends_16 400 x1 (1 : Int32) (0 : Int32) σ
set_option maxRecDepth 100000 in
set_option maxHeartbeats 4000000 in
theorem kX8_ends {x1 : Int32} {r : Int32} {σ σ' : fw_T} (hf : pX8_ends x1 σ = some (r, σ')) : fw_Ci l yX8_ends (Cond.code yX8_ends cX8_ends 5 (some .int) :: lwT) rmX8_ends [.ref (adr 0), .int x1] D 7 adr (fw_M cI cB adr) (fmT cI cB) [] σ r σ' := by
  refine fw_start (Qc := (fun A => va_Qi (fun r' (_ : Unit) => r' = r) (fun _ t => va_P D vwCl (fw_ws 7 adr (fw_M cI cB adr σ')) t.heap) A)) (by decide) (by simp [lg_sl, Value.category]) rfl ?_
  intro p e s m below meth c A X hH ls hl
  have hx := X.1.1
  have hb := X.1.2.1
  have hl : lv_has ls 5 [(0, .ref (adr 0)), (1, .int x1)] := hl
  unfold pX8_ends at hf
  refine lv_iload_n hx hb dX8_ends_0 rfl (lv_at hl 1 rfl) ?_
  refine lv_aload_n hx hb dX8_ends_1 rfl (lv_at hl 0 rfl) ?_
  refine fw_get (id := 0) (k := 10) (v := .int (fw_g σ 0 10)) X hH (by decide) rfl rfl inX8 (by decide) rfl tw_3_212 dX8_ends_2 ?_
  refine lv_icmp_ge (tgt := 12) hx hb dX8_ends_5 (by decide) (fun hc => ?_) (fun hc => ?_)
  · have hf := fw_pos hc hf
    refine lv_iconst (v := (0 : Int32)) hx hb dX8_ends_12 (by decide) ?_
    refine lv_istore_n (lv' := [(2, .int (0 : Int32)), (0, .ref (adr 0)), (1, .int x1)]) hx hb dX8_ends_13 rfl hl (by decide) rfl (fun ls hl => ?_)
    refine lv_iconst (v := (0 : Int32)) hx hb dX8_ends_14 (by decide) ?_
    refine lv_istore_n (lv' := [(3, .int (0 : Int32)), (2, .int (0 : Int32)), (0, .ref (adr 0)), (1, .int x1)]) hx hb dX8_ends_15 rfl hl (by decide) rfl (fun ls hl => ?_)
    exact wX8_ends_16 X 400 x1 (0 : Int32) (0 : Int32) σ hf _ _ _ hH (lv_sub hl [2, 3, 1, 0] rfl)
  · have hf := fw_neg hc hf
    refine lv_iconst (v := (1 : Int32)) hx hb dX8_ends_8 (by decide) ?_
    refine lv_goto (tgt := 13) hx hb dX8_ends_9 (by decide) ?_
    refine lv_istore_n (lv' := [(2, .int (1 : Int32)), (0, .ref (adr 0)), (1, .int x1)]) hx hb dX8_ends_13 rfl hl (by decide) rfl (fun ls hl => ?_)
    refine lv_iconst (v := (0 : Int32)) hx hb dX8_ends_14 (by decide) ?_
    refine lv_istore_n (lv' := [(3, .int (0 : Int32)), (2, .int (1 : Int32)), (0, .ref (adr 0)), (1, .int x1)]) hx hb dX8_ends_15 rfl hl (by decide) rfl (fun ls hl => ?_)
    exact wX8_ends_16 X 400 x1 (1 : Int32) (0 : Int32) σ hf _ _ _ hH (lv_sub hl [2, 3, 1, 0] rfl)
abbrev rmX8_runScript : Room := { frames := 5, cells := 0, slots := 0, locals := 111 }
theorem qX8_runScript : fw_QV RX8 yX8_runScript cX8_runScript 2 (some .int) 0 := ⟨⟨tw_5_13, tw_5_14, tw_1_10, tw_5_15⟩, by decide +kernel⟩
def pX8_runScript_87 : Nat → Int32 → fw_T → Option (Int32 × fw_T)
  | 0, _, _ => none
  | n + 1, x1, σ =>
    if (fw_g σ 0 10) ≤ x1 then
      (fw_z (0 : Int32)).bind fun _ =>
      fw_b2 (pX8_ends x1 (fw_u σ 0 5 (0 : Int32))) fun w9 τ8 =>
      some (w9, τ8)
    else
      fw_b2 (pX8_execute ((5 : Int32) * x1) σ) fun w12 τ11 =>
      if w12 < 0 then
        (fw_z (0 : Int32)).bind fun _ =>
        fw_b2 (pX8_ends x1 (fw_u τ11 0 5 (0 : Int32))) fun w17 τ16 =>
        some (w17, τ16)
      else
        pX8_runScript_87 n (x1 + (1 : Int32)) τ11
set_option maxRecDepth 100000 in
set_option maxHeartbeats 4000000 in
theorem wX8_runScript_87 {args : Array Value} {r : Int32} {σ' : fw_T} (X : fmX p m c cX8_runScript 2 s args RX8 meth (some .int) D cI cB)  : ∀ (n : Nat), ∀ (x1 : Int32), ∀ (σ : fw_T), pX8_runScript_87 n x1 σ = some (r, σ') → ∀ (H : Heap) (locs : List Loc) (ls : Array Slot), fmH D cI cB adr A s H locs σ → lv_has ls 2 [(0, .ref (adr 0)), (1, .int x1)] → W p l e rmX8_runScript s m args below meth c H locs 0 0 (fw_Qi D 7 adr (fw_M cI cB adr) A below args s r σ') (F0 m 87 ls []) := by
  have hx := X.1.1
  have hb := X.1.2.1
  intro n
  induction n with
  | zero =>
    intro x1 σ hf
    exact absurd hf (by simp [pX8_runScript_87])
  | succ n ih =>
    intro x1 σ hf H locs ls hH hl
    rw [pX8_runScript_87] at hf
    refine lv_iload_n hx hb dX8_runScript_87 rfl (lv_at hl 1 rfl) ?_
    refine lv_aload_n hx hb dX8_runScript_88 rfl (lv_at hl 0 rfl) ?_
    refine fw_get (id := 0) (k := 10) (v := .int (fw_g σ 0 10)) X hH (by decide) rfl rfl inX8 (by decide) rfl tw_3_212 dX8_runScript_89 ?_
    refine lv_icmp_ge (tgt := 111) hx hb dX8_runScript_92 (by decide) (fun hc => ?_) (fun hc => ?_)
    · have hf := fw_pos hc hf
      refine lv_aload_n hx hb dX8_runScript_111 rfl (lv_at hl 0 rfl) ?_
      refine lv_iconst (v := (0 : Int32)) hx hb dX8_runScript_112 (by decide) ?_
      obtain ⟨z6, g5, hf⟩ := fw_bd hf
      have g5z := (fw_zs g5).2
      refine fw_put (id := 0) (k := 5) (v := .int (0 : Int32)) (ty := .boolean) (σ' := (fw_u σ 0 5 (0 : Int32))) X hH (by decide) rfl fpm_5 (fun j h => fm_ne h) rfl inX8 tyX8 tyX8_ok nmX8 (by decide) (Nat.le_of_ble_eq_true rfl) rfl (by decide +kernel) (fw_nz g5z) (fw_fz g5z) tw_3_207 dX8_runScript_113 (fun H locs hH => ?_)
      refine lv_aload_n hx hb dX8_runScript_116 rfl (lv_at hl 0 rfl) ?_
      refine lv_iload_n hx hb dX8_runScript_117 rfl (lv_at hl 1 rfl) ?_
      obtain ⟨w9, τ8, g7, hf⟩ := fw_b2s hf
      refine fw_ci hH (fw_rV (As := [.int x1]) (rest := []) (id := 0) X hH (kX8_ends  g7 _) qX8_ends tw_5_45 ⟨Nat.le_of_ble_eq_true rfl, Nat.le_of_ble_eq_true rfl⟩ rfl rfl (by decide) rfl rfl rfl hl.1 rfl (Nat.le_of_ble_eq_true rfl) dX8_runScript_118) (fun H locs hH => ?_)
      obtain ⟨rfl, rfl⟩ := fw_s2 hf
      exact fw_reti X hH dX8_runScript_121
    · have hf := fw_neg hc hf
      refine lv_aload_n hx hb dX8_runScript_95 rfl (lv_at hl 0 rfl) ?_
      refine lv_iconst (v := (5 : Int32)) hx hb dX8_runScript_96 (by decide) ?_
      refine lv_iload_n hx hb dX8_runScript_97 rfl (lv_at hl 1 rfl) ?_
      refine lv_imul hx hb dX8_runScript_98 ?_
      obtain ⟨w12, τ11, g10, hf⟩ := fw_b2s hf
      refine fw_ci hH (fw_rV (As := [.int ((5 : Int32) * x1)]) (rest := []) (id := 0) X hH (kX8_execute  g10 _) qX8_execute tw_5_35 ⟨Nat.le_of_ble_eq_true rfl, Nat.le_of_ble_eq_true rfl⟩ rfl rfl (by decide) rfl rfl rfl hl.1 rfl (Nat.le_of_ble_eq_true rfl) dX8_runScript_99) (fun H locs hH => ?_)
      refine lv_if_lt (tgt := 111) hx hb dX8_runScript_102 (by decide) (fun hc => ?_) (fun hc => ?_)
      · have hf := fw_pos hc hf
        refine lv_aload_n hx hb dX8_runScript_111 rfl (lv_at hl 0 rfl) ?_
        refine lv_iconst (v := (0 : Int32)) hx hb dX8_runScript_112 (by decide) ?_
        obtain ⟨z14, g13, hf⟩ := fw_bd hf
        have g13z := (fw_zs g13).2
        refine fw_put (id := 0) (k := 5) (v := .int (0 : Int32)) (ty := .boolean) (σ' := (fw_u τ11 0 5 (0 : Int32))) X hH (by decide) rfl fpm_5 (fun j h => fm_ne h) rfl inX8 tyX8 tyX8_ok nmX8 (by decide) (Nat.le_of_ble_eq_true rfl) rfl (by decide +kernel) (fw_nz g13z) (fw_fz g13z) tw_3_207 dX8_runScript_113 (fun H locs hH => ?_)
        refine lv_aload_n hx hb dX8_runScript_116 rfl (lv_at hl 0 rfl) ?_
        refine lv_iload_n hx hb dX8_runScript_117 rfl (lv_at hl 1 rfl) ?_
        obtain ⟨w17, τ16, g15, hf⟩ := fw_b2s hf
        refine fw_ci hH (fw_rV (As := [.int x1]) (rest := []) (id := 0) X hH (kX8_ends  g15 _) qX8_ends tw_5_45 ⟨Nat.le_of_ble_eq_true rfl, Nat.le_of_ble_eq_true rfl⟩ rfl rfl (by decide) rfl rfl rfl hl.1 rfl (Nat.le_of_ble_eq_true rfl) dX8_runScript_118) (fun H locs hH => ?_)
        obtain ⟨rfl, rfl⟩ := fw_s2 hf
        exact fw_reti X hH dX8_runScript_121
      · have hf := fw_neg hc hf
        refine lv_iinc (v := (x1 + (1 : Int32))) (lv' := [(1, .int (x1 + (1 : Int32))), (0, .ref (adr 0))]) hx hb dX8_runScript_105 hl (k := 1) rfl rfl (by decide) rfl (fun ls hl => ?_)
        refine lv_goto (tgt := 87) hx hb dX8_runScript_108 (by decide) ?_
        exact ih (x1 + (1 : Int32)) τ11 hf _ _ _ hH (lv_sub hl [1, 0] rfl)
def pX8_runScript_56 : Nat → Int32 → fw_T → Option (Int32 × fw_T)
  | 0, _, _ => none
  | n + 1, x1, σ =>
    if (52 : Int32) ≤ x1 then
      (fw_z (1 : Int32)).bind fun _ =>
      pX8_runScript_87 400 (0 : Int32) (fw_u σ 0 5 (1 : Int32))
    else
      (fw_rd σ 1 52 x1).bind fun w18 =>
      (fw_wr σ 2 52 x1 w18).bind fun τ20 =>
      pX8_runScript_56 n (x1 + (1 : Int32)) τ20
set_option maxRecDepth 100000 in
set_option maxHeartbeats 4000000 in
theorem wX8_runScript_56 {args : Array Value} {r : Int32} {σ' : fw_T} (X : fmX p m c cX8_runScript 2 s args RX8 meth (some .int) D cI cB)  : ∀ (n : Nat), ∀ (x1 : Int32), ∀ (σ : fw_T), pX8_runScript_56 n x1 σ = some (r, σ') → ∀ (H : Heap) (locs : List Loc) (ls : Array Slot), fmH D cI cB adr A s H locs σ → lv_has ls 2 [(0, .ref (adr 0)), (1, .int x1)] → W p l e rmX8_runScript s m args below meth c H locs 0 0 (fw_Qi D 7 adr (fw_M cI cB adr) A below args s r σ') (F0 m 56 ls []) := by
  have hx := X.1.1
  have hb := X.1.2.1
  intro n
  induction n with
  | zero =>
    intro x1 σ hf
    exact absurd hf (by simp [pX8_runScript_56])
  | succ n ih =>
    intro x1 σ hf H locs ls hH hl
    rw [pX8_runScript_56] at hf
    refine lv_iload_n hx hb dX8_runScript_56 rfl (lv_at hl 1 rfl) ?_
    refine lv_bipush (v := (52 : Int32)) hx hb dX8_runScript_57 (by decide) ?_
    refine lv_icmp_ge (tgt := 80) hx hb dX8_runScript_59 (by decide) (fun hc => ?_) (fun hc => ?_)
    · have hf := fw_pos hc hf
      refine lv_aload_n hx hb dX8_runScript_80 rfl (lv_at hl 0 rfl) ?_
      refine lv_iconst (v := (1 : Int32)) hx hb dX8_runScript_81 (by decide) ?_
      obtain ⟨z4, g3, hf⟩ := fw_bd hf
      have g3z := (fw_zs g3).2
      refine fw_put (id := 0) (k := 5) (v := .int (1 : Int32)) (ty := .boolean) (σ' := (fw_u σ 0 5 (1 : Int32))) X hH (by decide) rfl fpm_5 (fun j h => fm_ne h) rfl inX8 tyX8 tyX8_ok nmX8 (by decide) (Nat.le_of_ble_eq_true rfl) rfl (by decide +kernel) (fw_nz g3z) (fw_fz g3z) tw_3_207 dX8_runScript_82 (fun H locs hH => ?_)
      refine lv_iconst (v := (0 : Int32)) hx hb dX8_runScript_85 (by decide) ?_
      refine lv_istore_n (lv' := [(1, .int (0 : Int32)), (0, .ref (adr 0))]) hx hb dX8_runScript_86 rfl hl (by decide) rfl (fun ls hl => ?_)
      exact wX8_runScript_87 X 400 (0 : Int32) (fw_u σ 0 5 (1 : Int32)) hf _ _ _ hH (lv_sub hl [1, 0] rfl)
    · have hf := fw_neg hc hf
      refine lv_aload_n hx hb dX8_runScript_62 rfl (lv_at hl 0 rfl) ?_
      refine fw_get (id := 0) (k := 1) (v := .ref (adr 2)) X hH (by decide) rfl rfl inX8 (by decide) rfl tw_3_203 dX8_runScript_63 ?_
      refine lv_iload_n hx hb dX8_runScript_66 rfl (lv_at hl 1 rfl) ?_
      refine lv_aload_n hx hb dX8_runScript_67 rfl (lv_at hl 0 rfl) ?_
      refine fw_get (id := 0) (k := 0) (v := .ref (adr 1)) X hH (by decide) rfl rfl inX8 (by decide) rfl tw_3_202 dX8_runScript_68 ?_
      refine lv_iload_n hx hb dX8_runScript_71 rfl (lv_at hl 1 rfl) ?_
      obtain ⟨w18, g19, hf⟩ := fw_bd hf
      refine fw_iald (id := 1) (n := 52) X hH (by decide) rfl rfl g19 dX8_runScript_72 ?_
      obtain ⟨τ20, g21, hf⟩ := fw_bd hf
      refine fw_iast (id := 2) (n := 52) X hH (by decide) (fun σ => rfl) (fun k x j h => fm_ne h) rfl g21 dX8_runScript_73 (fun H locs hH => ?_)
      refine lv_iinc (v := (x1 + (1 : Int32))) (lv' := [(1, .int (x1 + (1 : Int32))), (0, .ref (adr 0))]) hx hb dX8_runScript_74 hl (k := 1) rfl rfl (by decide) rfl (fun ls hl => ?_)
      refine lv_goto (tgt := 56) hx hb dX8_runScript_77 (by decide) ?_
      exact ih (x1 + (1 : Int32)) τ20 hf _ _ _ hH (lv_sub hl [1, 0] rfl)
def pX8_runScript_39 (σ : fw_T) : Option (Int32 × fw_T) :=
  if (fw_g σ 0 12) = 0 then
    pX8_runScript_56 400 (0 : Int32) σ
  else
    some (((-10 : Int32) - (fw_g σ 0 11)), σ)
set_option maxRecDepth 100000 in
set_option maxHeartbeats 4000000 in
theorem wX8_runScript_39 {args : Array Value} {r : Int32} {σ' : fw_T} (X : fmX p m c cX8_runScript 2 s args RX8 meth (some .int) D cI cB)  : ∀ (σ : fw_T), pX8_runScript_39 σ = some (r, σ') → ∀ (H : Heap) (locs : List Loc) (ls : Array Slot), fmH D cI cB adr A s H locs σ → lv_has ls 2 [(0, .ref (adr 0))] → W p l e rmX8_runScript s m args below meth c H locs 0 0 (fw_Qi D 7 adr (fw_M cI cB adr) A below args s r σ') (F0 m 39 ls []) := by
  have hx := X.1.1
  have hb := X.1.2.1
  intro σ hf H locs ls hH hl
  unfold pX8_runScript_39 at hf
  refine lv_aload_n hx hb dX8_runScript_39 rfl (lv_at hl 0 rfl) ?_
  refine fw_get (id := 0) (k := 12) (v := .int (fw_g σ 0 12)) X hH (by decide) rfl rfl inX8 (by decide) rfl tw_3_214 dX8_runScript_40 ?_
  refine lv_if_eq (tgt := 54) hx hb dX8_runScript_43 (by decide) (fun hc => ?_) (fun hc => ?_)
  · have hf := fw_pos hc hf
    refine lv_iconst (v := (0 : Int32)) hx hb dX8_runScript_54 (by decide) ?_
    refine lv_istore_n (lv' := [(1, .int (0 : Int32)), (0, .ref (adr 0))]) hx hb dX8_runScript_55 rfl hl (by decide) rfl (fun ls hl => ?_)
    exact wX8_runScript_56 X 400 (0 : Int32) σ hf _ _ _ hH (lv_sub hl [1, 0] rfl)
  · have hf := fw_neg hc hf
    refine lv_bipush (v := (-10 : Int32)) hx hb dX8_runScript_46 (by decide) ?_
    refine lv_aload_n hx hb dX8_runScript_48 rfl (lv_at hl 0 rfl) ?_
    refine fw_get (id := 0) (k := 11) (v := .int (fw_g σ 0 11)) X hH (by decide) rfl rfl inX8 (by decide) rfl tw_3_213 dX8_runScript_49 ?_
    refine lv_isub hx hb dX8_runScript_52 ?_
    obtain ⟨rfl, rfl⟩ := fw_s2 hf
    exact fw_reti X hH dX8_runScript_53
def pX8_runScript_10 : Nat → fw_T → Option (Int32 × fw_T)
  | 0, _ => none
  | n + 1, σ =>
    (pX8_readCommand σ).bind fun τ2 =>
    if (fw_g τ2 0 12) = 0 then
      (pX8_skip τ2).bind fun τ26 =>
      if (fw_g τ26 0 12) = 0 then
        fw_b2 (pX8_here τ26) fun w29 τ28 =>
        if 0 ≤ w29 then
          pX8_runScript_10 n τ28
        else
          pX8_runScript_39 τ28
      else
        pX8_runScript_39 τ26
    else
      if (fw_g τ2 0 12) = 0 then
        fw_b2 (pX8_here τ2) fun w24 τ23 =>
        if 0 ≤ w24 then
          pX8_runScript_10 n τ23
        else
          pX8_runScript_39 τ23
      else
        pX8_runScript_39 τ2
set_option maxRecDepth 100000 in
set_option maxHeartbeats 4000000 in
theorem wX8_runScript_10 {args : Array Value} {r : Int32} {σ' : fw_T} (X : fmX p m c cX8_runScript 2 s args RX8 meth (some .int) D cI cB)  : ∀ (n : Nat), ∀ (σ : fw_T), pX8_runScript_10 n σ = some (r, σ') → ∀ (H : Heap) (locs : List Loc) (ls : Array Slot), fmH D cI cB adr A s H locs σ → lv_has ls 2 [(0, .ref (adr 0))] → W p l e rmX8_runScript s m args below meth c H locs 0 0 (fw_Qi D 7 adr (fw_M cI cB adr) A below args s r σ') (F0 m 10 ls []) := by
  have hx := X.1.1
  have hb := X.1.2.1
  intro n
  induction n with
  | zero =>
    intro σ hf
    exact absurd hf (by simp [pX8_runScript_10])
  | succ n ih =>
    intro σ hf H locs ls hH hl
    rw [pX8_runScript_10] at hf
    refine lv_aload_n hx hb dX8_runScript_10 rfl (lv_at hl 0 rfl) ?_
    obtain ⟨τ2, g1, hf⟩ := fw_bd hf
    refine fw_cv hH (fw_rV (As := []) (rest := []) (id := 0) X hH (kX8_readCommand  g1 _) qX8_readCommand tw_5_16 ⟨Nat.le_of_ble_eq_true rfl, Nat.le_of_ble_eq_true rfl⟩ rfl rfl (by decide) rfl rfl rfl hl.1 rfl (Nat.le_of_ble_eq_true rfl) dX8_runScript_11) (fun H locs hH => ?_)
    refine lv_aload_n hx hb dX8_runScript_14 rfl (lv_at hl 0 rfl) ?_
    refine fw_get (id := 0) (k := 12) (v := .int (fw_g τ2 0 12)) X hH (by decide) rfl rfl inX8 (by decide) rfl tw_3_214 dX8_runScript_15 ?_
    refine lv_if_ne (tgt := 25) hx hb dX8_runScript_18 (by decide) (fun hc => ?_) (fun hc => ?_)
    · have hf := fw_neg hc hf
      refine lv_aload_n hx hb dX8_runScript_25 rfl (lv_at hl 0 rfl) ?_
      refine fw_get (id := 0) (k := 12) (v := .int (fw_g τ2 0 12)) X hH (by decide) rfl rfl inX8 (by decide) rfl tw_3_214 dX8_runScript_26 ?_
      refine lv_if_ne (tgt := 39) hx hb dX8_runScript_29 (by decide) (fun hc => ?_) (fun hc => ?_)
      · have hf := fw_neg hc hf
        exact wX8_runScript_39 X τ2 hf _ _ _ hH (lv_sub hl [0] rfl)
      · have hf := fw_pos hc hf
        refine lv_aload_n hx hb dX8_runScript_32 rfl (lv_at hl 0 rfl) ?_
        obtain ⟨w24, τ23, g22, hf⟩ := fw_b2s hf
        refine fw_ci hH (fw_rV (As := []) (rest := []) (id := 0) X hH (kX8_here  g22 _) qX8_here tw_5_24 ⟨Nat.le_of_ble_eq_true rfl, Nat.le_of_ble_eq_true rfl⟩ rfl rfl (by decide) rfl rfl rfl hl.1 rfl (Nat.le_of_ble_eq_true rfl) dX8_runScript_33) (fun H locs hH => ?_)
        refine lv_if_ge (tgt := 10) hx hb dX8_runScript_36 (by decide) (fun hc => ?_) (fun hc => ?_)
        · have hf := fw_pos hc hf
          exact ih τ23 hf _ _ _ hH (lv_sub hl [0] rfl)
        · have hf := fw_neg hc hf
          exact wX8_runScript_39 X τ23 hf _ _ _ hH (lv_sub hl [0] rfl)
    · have hf := fw_pos hc hf
      refine lv_aload_n hx hb dX8_runScript_21 rfl (lv_at hl 0 rfl) ?_
      obtain ⟨τ26, g25, hf⟩ := fw_bd hf
      refine fw_cv hH (fw_rV (As := []) (rest := []) (id := 0) X hH (kX8_skip  g25 _) qX8_skip tw_5_20 ⟨Nat.le_of_ble_eq_true rfl, Nat.le_of_ble_eq_true rfl⟩ rfl rfl (by decide) rfl rfl rfl hl.1 rfl (Nat.le_of_ble_eq_true rfl) dX8_runScript_22) (fun H locs hH => ?_)
      refine lv_aload_n hx hb dX8_runScript_25 rfl (lv_at hl 0 rfl) ?_
      refine fw_get (id := 0) (k := 12) (v := .int (fw_g τ26 0 12)) X hH (by decide) rfl rfl inX8 (by decide) rfl tw_3_214 dX8_runScript_26 ?_
      refine lv_if_ne (tgt := 39) hx hb dX8_runScript_29 (by decide) (fun hc => ?_) (fun hc => ?_)
      · have hf := fw_neg hc hf
        exact wX8_runScript_39 X τ26 hf _ _ _ hH (lv_sub hl [0] rfl)
      · have hf := fw_pos hc hf
        refine lv_aload_n hx hb dX8_runScript_32 rfl (lv_at hl 0 rfl) ?_
        obtain ⟨w29, τ28, g27, hf⟩ := fw_b2s hf
        refine fw_ci hH (fw_rV (As := []) (rest := []) (id := 0) X hH (kX8_here  g27 _) qX8_here tw_5_24 ⟨Nat.le_of_ble_eq_true rfl, Nat.le_of_ble_eq_true rfl⟩ rfl rfl (by decide) rfl rfl rfl hl.1 rfl (Nat.le_of_ble_eq_true rfl) dX8_runScript_33) (fun H locs hH => ?_)
        refine lv_if_ge (tgt := 10) hx hb dX8_runScript_36 (by decide) (fun hc => ?_) (fun hc => ?_)
        · have hf := fw_pos hc hf
          exact ih τ28 hf _ _ _ hH (lv_sub hl [0] rfl)
        · have hf := fw_neg hc hf
          exact wX8_runScript_39 X τ28 hf _ _ _ hH (lv_sub hl [0] rfl)
def pX8_runScript (σ : fw_T) : Option (Int32 × fw_T) :=
  pX8_runScript_10 400 (fw_u (fw_u σ 0 11 (0 : Int32)) 0 10 (0 : Int32))
set_option maxRecDepth 100000 in
set_option maxHeartbeats 4000000 in
theorem kX8_runScript {r : Int32} {σ σ' : fw_T} (hf : pX8_runScript σ = some (r, σ')) : fw_Ci l yX8_runScript (Cond.code yX8_runScript cX8_runScript 2 (some .int) :: lwT) rmX8_runScript [.ref (adr 0)] D 7 adr (fw_M cI cB adr) (fmT cI cB) [] σ r σ' := by
  refine fw_start (Qc := (fun A => va_Qi (fun r' (_ : Unit) => r' = r) (fun _ t => va_P D vwCl (fw_ws 7 adr (fw_M cI cB adr σ')) t.heap) A)) (by decide) (by simp [lg_sl, Value.category]) rfl ?_
  intro p e s m below meth c A X hH ls hl
  have hx := X.1.1
  have hb := X.1.2.1
  have hl : lv_has ls 2 [(0, .ref (adr 0))] := hl
  unfold pX8_runScript at hf
  refine lv_aload_n hx hb dX8_runScript_0 rfl (lv_at hl 0 rfl) ?_
  refine lv_iconst (v := (0 : Int32)) hx hb dX8_runScript_1 (by decide) ?_
  refine fw_put (id := 0) (k := 11) (v := .int (0 : Int32)) (ty := .int) (σ' := (fw_u σ 0 11 (0 : Int32))) X hH (by decide) rfl fpm_11 (fun j h => fm_ne h) rfl inX8 tyX8 tyX8_ok nmX8 (by decide) (Nat.le_of_ble_eq_true rfl) rfl (by decide +kernel) rfl rfl tw_3_213 dX8_runScript_2 (fun H locs hH => ?_)
  refine lv_aload_n hx hb dX8_runScript_5 rfl (lv_at hl 0 rfl) ?_
  refine lv_iconst (v := (0 : Int32)) hx hb dX8_runScript_6 (by decide) ?_
  refine fw_put (id := 0) (k := 10) (v := .int (0 : Int32)) (ty := .int) (σ' := (fw_u (fw_u σ 0 11 (0 : Int32)) 0 10 (0 : Int32))) X hH (by decide) rfl fpm_10 (fun j h => fm_ne h) rfl inX8 tyX8 tyX8_ok nmX8 (by decide) (Nat.le_of_ble_eq_true rfl) rfl (by decide +kernel) rfl rfl tw_3_212 dX8_runScript_7 (fun H locs hH => ?_)
  exact wX8_runScript_10 X 400 (fw_u (fw_u σ 0 11 (0 : Int32)) 0 10 (0 : Int32)) hf _ _ _ hH (lv_sub hl [0] rfl)
abbrev rmX8_undo : Room := { frames := 1, cells := 0, slots := 0, locals := 21 }
theorem qX8_undo : fw_QV RX8 yX8_undo cX8_undo 2 (some .int) 0 := ⟨⟨tw_5_50, tw_5_51, tw_1_10, tw_5_52⟩, by decide +kernel⟩
def pX8_undo_27 : Nat → Int32 → fw_T → Option (Int32 × fw_T)
  | 0, _, _ => none
  | n + 1, x1, σ =>
    if (52 : Int32) ≤ x1 then
      some ((fw_g σ 0 3), σ)
    else
      (fw_rd σ 3 260 (((52 : Int32) * (fw_g σ 0 3)) + x1)).bind fun w1 =>
      (fw_wr σ 1 52 x1 w1).bind fun τ3 =>
      pX8_undo_27 n (x1 + (1 : Int32)) τ3
set_option maxRecDepth 100000 in
set_option maxHeartbeats 4000000 in
theorem wX8_undo_27 {args : Array Value} {r : Int32} {σ' : fw_T} (X : fmX p m c cX8_undo 2 s args RX8 meth (some .int) D cI cB)  : ∀ (n : Nat), ∀ (x1 : Int32), ∀ (σ : fw_T), pX8_undo_27 n x1 σ = some (r, σ') → ∀ (H : Heap) (locs : List Loc) (ls : Array Slot), fmH D cI cB adr A s H locs σ → lv_has ls 2 [(0, .ref (adr 0)), (1, .int x1)] → W p l e rmX8_undo s m args below meth c H locs 0 0 (fw_Qi D 7 adr (fw_M cI cB adr) A below args s r σ') (F0 m 27 ls []) := by
  have hx := X.1.1
  have hb := X.1.2.1
  intro n
  induction n with
  | zero =>
    intro x1 σ hf
    exact absurd hf (by simp [pX8_undo_27])
  | succ n ih =>
    intro x1 σ hf H locs ls hH hl
    rw [pX8_undo_27] at hf
    refine lv_iload_n hx hb dX8_undo_27 rfl (lv_at hl 1 rfl) ?_
    refine lv_bipush (v := (52 : Int32)) hx hb dX8_undo_28 (by decide) ?_
    refine lv_icmp_ge (tgt := 59) hx hb dX8_undo_30 (by decide) (fun hc => ?_) (fun hc => ?_)
    · have hf := fw_pos hc hf
      refine lv_aload_n hx hb dX8_undo_59 rfl (lv_at hl 0 rfl) ?_
      refine fw_get (id := 0) (k := 3) (v := .int (fw_g σ 0 3)) X hH (by decide) rfl rfl inX8 (by decide) rfl tw_3_205 dX8_undo_60 ?_
      obtain ⟨rfl, rfl⟩ := fw_s2 hf
      exact fw_reti X hH dX8_undo_63
    · have hf := fw_neg hc hf
      refine lv_aload_n hx hb dX8_undo_33 rfl (lv_at hl 0 rfl) ?_
      refine fw_get (id := 0) (k := 0) (v := .ref (adr 1)) X hH (by decide) rfl rfl inX8 (by decide) rfl tw_3_202 dX8_undo_34 ?_
      refine lv_iload_n hx hb dX8_undo_37 rfl (lv_at hl 1 rfl) ?_
      refine lv_aload_n hx hb dX8_undo_38 rfl (lv_at hl 0 rfl) ?_
      refine fw_get (id := 0) (k := 2) (v := .ref (adr 3)) X hH (by decide) rfl rfl inX8 (by decide) rfl tw_3_204 dX8_undo_39 ?_
      refine lv_bipush (v := (52 : Int32)) hx hb dX8_undo_42 (by decide) ?_
      refine lv_aload_n hx hb dX8_undo_44 rfl (lv_at hl 0 rfl) ?_
      refine fw_get (id := 0) (k := 3) (v := .int (fw_g σ 0 3)) X hH (by decide) rfl rfl inX8 (by decide) rfl tw_3_205 dX8_undo_45 ?_
      refine lv_imul hx hb dX8_undo_48 ?_
      refine lv_iload_n hx hb dX8_undo_49 rfl (lv_at hl 1 rfl) ?_
      refine lv_iadd hx hb dX8_undo_50 ?_
      obtain ⟨w1, g2, hf⟩ := fw_bd hf
      refine fw_iald (id := 3) (n := 260) X hH (by decide) rfl rfl g2 dX8_undo_51 ?_
      obtain ⟨τ3, g4, hf⟩ := fw_bd hf
      refine fw_iast (id := 1) (n := 52) X hH (by decide) (fun σ => rfl) (fun k x j h => fm_ne h) rfl g4 dX8_undo_52 (fun H locs hH => ?_)
      refine lv_iinc (v := (x1 + (1 : Int32))) (lv' := [(1, .int (x1 + (1 : Int32))), (0, .ref (adr 0))]) hx hb dX8_undo_53 hl (k := 1) rfl rfl (by decide) rfl (fun ls hl => ?_)
      refine lv_goto (tgt := 27) hx hb dX8_undo_56 (by decide) ?_
      exact ih (x1 + (1 : Int32)) τ3 hf _ _ _ hH (lv_sub hl [1, 0] rfl)
def pX8_undo (σ : fw_T) : Option (Int32 × fw_T) :=
  if (fw_g σ 0 3) = 0 then
    fw_b2 (pX8_fail (-10003 : Int32) σ) fun w7 τ6 =>
    some (w7, τ6)
  else
    pX8_undo_27 400 (0 : Int32) (fw_u σ 0 3 ((fw_g σ 0 3) - (1 : Int32)))
set_option maxRecDepth 100000 in
set_option maxHeartbeats 4000000 in
theorem kX8_undo {r : Int32} {σ σ' : fw_T} (hf : pX8_undo σ = some (r, σ')) : fw_Ci l yX8_undo (Cond.code yX8_undo cX8_undo 2 (some .int) :: lwT) rmX8_undo [.ref (adr 0)] D 7 adr (fw_M cI cB adr) (fmT cI cB) [] σ r σ' := by
  refine fw_start (Qc := (fun A => va_Qi (fun r' (_ : Unit) => r' = r) (fun _ t => va_P D vwCl (fw_ws 7 adr (fw_M cI cB adr σ')) t.heap) A)) (by decide) (by simp [lg_sl, Value.category]) rfl ?_
  intro p e s m below meth c A X hH ls hl
  have hx := X.1.1
  have hb := X.1.2.1
  have hl : lv_has ls 2 [(0, .ref (adr 0))] := hl
  unfold pX8_undo at hf
  refine lv_aload_n hx hb dX8_undo_0 rfl (lv_at hl 0 rfl) ?_
  refine fw_get (id := 0) (k := 3) (v := .int (fw_g σ 0 3)) X hH (by decide) rfl rfl inX8 (by decide) rfl tw_3_205 dX8_undo_1 ?_
  refine lv_if_ne (tgt := 15) hx hb dX8_undo_4 (by decide) (fun hc => ?_) (fun hc => ?_)
  · have hf := fw_neg hc hf
    refine lv_aload_n hx hb dX8_undo_15 rfl (lv_at hl 0 rfl) ?_
    refine lv_dup hx hb dX8_undo_16 rfl ?_
    refine fw_get (id := 0) (k := 3) (v := .int (fw_g σ 0 3)) X hH (by decide) rfl rfl inX8 (by decide) rfl tw_3_205 dX8_undo_17 ?_
    refine lv_iconst (v := (1 : Int32)) hx hb dX8_undo_20 (by decide) ?_
    refine lv_isub hx hb dX8_undo_21 ?_
    refine fw_put (id := 0) (k := 3) (v := .int ((fw_g σ 0 3) - (1 : Int32))) (ty := .int) (σ' := (fw_u σ 0 3 ((fw_g σ 0 3) - (1 : Int32)))) X hH (by decide) rfl fpm_3 (fun j h => fm_ne h) rfl inX8 tyX8 tyX8_ok nmX8 (by decide) (Nat.le_of_ble_eq_true rfl) rfl (by decide +kernel) rfl rfl tw_3_205 dX8_undo_22 (fun H locs hH => ?_)
    refine lv_iconst (v := (0 : Int32)) hx hb dX8_undo_25 (by decide) ?_
    refine lv_istore_n (lv' := [(1, .int (0 : Int32)), (0, .ref (adr 0))]) hx hb dX8_undo_26 rfl hl (by decide) rfl (fun ls hl => ?_)
    exact wX8_undo_27 X 400 (0 : Int32) (fw_u σ 0 3 ((fw_g σ 0 3) - (1 : Int32))) hf _ _ _ hH (lv_sub hl [1, 0] rfl)
  · have hf := fw_pos hc hf
    refine lv_aload_n hx hb dX8_undo_7 rfl (lv_at hl 0 rfl) ?_
    refine lv_sipush (v := (-10003 : Int32)) hx hb dX8_undo_8 (by decide) ?_
    obtain ⟨w7, τ6, g5, hf⟩ := fw_b2s hf
    refine fw_ci hH (fw_rV (As := [.int (-10003 : Int32)]) (rest := []) (id := 0) X hH (kX8_fail  g5 _) qX8_fail tw_4_20 ⟨Nat.le_of_ble_eq_true rfl, Nat.le_of_ble_eq_true rfl⟩ rfl rfl (by decide) rfl rfl rfl hl.1 rfl (Nat.le_of_ble_eq_true rfl) dX8_undo_11) (fun H locs hH => ?_)
    obtain ⟨rfl, rfl⟩ := fw_s2 hf
    exact fw_reti X hH dX8_undo_14
abbrev rmX8_errorCount : Room := { frames := 1, cells := 0, slots := 0, locals := 22 }
theorem qX8_errorCount : fw_QV RX8 yX8_errorCount cX8_errorCount 2 (some .int) 1 := ⟨⟨tw_5_54, tw_5_55, tw_1_10, tw_5_56⟩, by decide +kernel⟩
def pX8_errorCount (x1 : Int32) (σ : fw_T) : Option (Int32 × fw_T) :=
  fw_b2 (pX8_in x1 (0 : Int32) (2 : Int32) σ) fun w3 τ2 =>
  if w3 = 0 then
    fw_b2 (pX8_fail (-10002 : Int32) τ2) fun w6 τ5 =>
    some (w6, τ5)
  else
    (fw_rd τ2 4 3 x1).bind fun w7 =>
    some (w7, τ2)
set_option maxRecDepth 100000 in
set_option maxHeartbeats 4000000 in
theorem kX8_errorCount {x1 : Int32} {r : Int32} {σ σ' : fw_T} (hf : pX8_errorCount x1 σ = some (r, σ')) : fw_Ci l yX8_errorCount (Cond.code yX8_errorCount cX8_errorCount 2 (some .int) :: lwT) rmX8_errorCount [.ref (adr 0), .int x1] D 7 adr (fw_M cI cB adr) (fmT cI cB) [] σ r σ' := by
  refine fw_start (Qc := (fun A => va_Qi (fun r' (_ : Unit) => r' = r) (fun _ t => va_P D vwCl (fw_ws 7 adr (fw_M cI cB adr σ')) t.heap) A)) (by decide) (by simp [lg_sl, Value.category]) rfl ?_
  intro p e s m below meth c A X hH ls hl
  have hx := X.1.1
  have hb := X.1.2.1
  have hl : lv_has ls 2 [(0, .ref (adr 0)), (1, .int x1)] := hl
  unfold pX8_errorCount at hf
  refine lv_iload_n hx hb dX8_errorCount_0 rfl (lv_at hl 1 rfl) ?_
  refine lv_iconst (v := (0 : Int32)) hx hb dX8_errorCount_1 (by decide) ?_
  refine lv_iconst (v := (2 : Int32)) hx hb dX8_errorCount_2 (by decide) ?_
  obtain ⟨w3, τ2, g1, hf⟩ := fw_b2s hf
  refine fw_ci hH (fw_rS (As := [.int x1, .int (0 : Int32), .int (2 : Int32)]) (rest := []) X hH (kX8_in  g1 _) qX8_in tw_4_17 ⟨Nat.le_of_ble_eq_true rfl, Nat.le_of_ble_eq_true rfl⟩ rfl rfl rfl hl.1 rfl (Nat.le_of_ble_eq_true rfl) dX8_errorCount_3) (fun H locs hH => ?_)
  refine lv_if_eq (tgt := 18) hx hb dX8_errorCount_6 (by decide) (fun hc => ?_) (fun hc => ?_)
  · have hf := fw_pos hc hf
    refine lv_aload_n hx hb dX8_errorCount_18 rfl (lv_at hl 0 rfl) ?_
    refine lv_sipush (v := (-10002 : Int32)) hx hb dX8_errorCount_19 (by decide) ?_
    obtain ⟨w6, τ5, g4, hf⟩ := fw_b2s hf
    refine fw_ci hH (fw_rV (As := [.int (-10002 : Int32)]) (rest := []) (id := 0) X hH (kX8_fail  g4 _) qX8_fail tw_4_20 ⟨Nat.le_of_ble_eq_true rfl, Nat.le_of_ble_eq_true rfl⟩ rfl rfl (by decide) rfl rfl rfl hl.1 rfl (Nat.le_of_ble_eq_true rfl) dX8_errorCount_22) (fun H locs hH => ?_)
    obtain ⟨rfl, rfl⟩ := fw_s2 hf
    exact fw_reti X hH dX8_errorCount_25
  · have hf := fw_neg hc hf
    refine lv_aload_n hx hb dX8_errorCount_9 rfl (lv_at hl 0 rfl) ?_
    refine fw_get (id := 0) (k := 4) (v := .ref (adr 4)) X hH (by decide) rfl rfl inX8 (by decide) rfl tw_3_206 dX8_errorCount_10 ?_
    refine lv_iload_n hx hb dX8_errorCount_13 rfl (lv_at hl 1 rfl) ?_
    obtain ⟨w7, g8, hf⟩ := fw_bd hf
    refine fw_iald (id := 4) (n := 3) X hH (by decide) rfl rfl g8 dX8_errorCount_14 ?_
    refine lv_goto (tgt := 25) hx hb dX8_errorCount_15 (by decide) ?_
    obtain ⟨rfl, rfl⟩ := fw_s2 hf
    exact fw_reti X hH dX8_errorCount_25
abbrev rmX8_add : Room := { frames := 0, cells := 0, slots := 0, locals := 0 }
theorem qX8_add : fw_QV RX8 yX8_add cX8_add 2 none 1 := ⟨⟨tw_5_64, tv_X8_add, tw_1_10, tw_5_65⟩, by decide +kernel⟩
def pX8_add (x1 : Int32) (σ : fw_T) : Option (fw_T) :=
  some (fw_uh σ (((31 : Int64) * (fw_h σ)) + (x1.toInt64)))
set_option maxRecDepth 100000 in
set_option maxHeartbeats 4000000 in
theorem kX8_add {x1 : Int32} {σ σ' : fw_T} (hf : pX8_add x1 σ = some σ') : fw_Cv l yX8_add (Cond.code yX8_add cX8_add 2 none :: lwT) rmX8_add [.ref (adr 0), .int x1] D 7 adr (fw_M cI cB adr) (fmT cI cB) [] σ σ' := by
  refine fw_start (Qc := (fun A => va_Qv (fun (_ : Unit) => True) (fun _ t => va_P D vwCl (fw_ws 7 adr (fw_M cI cB adr σ')) t.heap) A)) (by decide) (by simp [lg_sl, Value.category]) rfl ?_
  intro p e s m below meth c A X hH ls hl
  have hx := X.1.1
  have hb := X.1.2.1
  have hl : lv_has ls 2 [(0, .ref (adr 0)), (1, .int x1)] := hl
  unfold pX8_add at hf
  refine lv_aload_n hx hb dX8_add_0 rfl (lv_at hl 0 rfl) ?_
  refine lv_ldc2 (v := (31 : Int64)) hx hb X.1.2.2.2.1 (X.1.2.2.2.2 _ tw_5_66) dX8_add_1 ?_
  refine lv_aload_n hx hb dX8_add_4 rfl (lv_at hl 0 rfl) ?_
  refine fw_get (id := 0) (k := 13) (v := .long (fw_h σ)) X hH (by decide) rfl rfl inX8 (by decide) rfl tw_3_215 dX8_add_5 ?_
  refine lv_lmul hx hb dX8_add_8 ?_
  refine lv_iload_n hx hb dX8_add_9 rfl (lv_at hl 1 rfl) ?_
  refine lv_i2l (v := (x1.toInt64)) hx hb dX8_add_10 rfl ?_
  refine lv_ladd hx hb dX8_add_11 ?_
  refine fw_put (id := 0) (k := 13) (v := .long (((31 : Int64) * (fw_h σ)) + (x1.toInt64))) (ty := .long) (σ' := (fw_uh σ (((31 : Int64) * (fw_h σ)) + (x1.toInt64)))) X hH (by decide) rfl rfl (fun j h => fm_nh h) rfl inX8 tyX8 tyX8_ok nmX8 (by decide) (Nat.le_of_ble_eq_true rfl) rfl (by decide +kernel) rfl rfl tw_3_215 dX8_add_12 (fun H locs hH => ?_)
  obtain rfl := Option.some.inj hf
  exact fw_retv X hH dX8_add_15
abbrev rmX8_addRows : Room := { frames := 1, cells := 0, slots := 0, locals := 21 }
theorem qX8_addRows : fw_QV RX8 yX8_addRows cX8_addRows 3 none 1 := ⟨⟨tw_5_69, tv_X8_addRows, tw_1_10, tw_5_70⟩, by decide +kernel⟩
def pX8_addRows_12 : Nat → Int32 → Int32 → fw_T → Option (fw_T)
  | 0, _, _, _ => none
  | n + 1, x1, x2, σ =>
    (fw_rd σ 1 52 x1).bind fun w5 =>
    if w5 ≤ x2 then
      some σ
    else
      (fw_rd σ 1 52 ((x1 + (1 : Int32)) + x2)).bind fun w7 =>
      (pX8_add w7 σ).bind fun τ10 =>
      pX8_addRows_12 n x1 (x2 + (1 : Int32)) τ10
set_option maxRecDepth 100000 in
set_option maxHeartbeats 4000000 in
theorem wX8_addRows_12 {args : Array Value} {σ' : fw_T} (X : fmX p m c cX8_addRows 3 s args RX8 meth none D cI cB)  : ∀ (n : Nat), ∀ (x1 : Int32), ∀ (x2 : Int32), ∀ (σ : fw_T), pX8_addRows_12 n x1 x2 σ = some σ' → ∀ (H : Heap) (locs : List Loc) (ls : Array Slot), fmH D cI cB adr A s H locs σ → lv_has ls 3 [(0, .ref (adr 0)), (1, .int x1), (2, .int x2)] → W p l e rmX8_addRows s m args below meth c H locs 0 0 (fw_Qv D 7 adr (fw_M cI cB adr) A below args s σ') (F0 m 12 ls []) := by
  have hx := X.1.1
  have hb := X.1.2.1
  intro n
  induction n with
  | zero =>
    intro x1 x2 σ hf
    exact absurd hf (by simp [pX8_addRows_12])
  | succ n ih =>
    intro x1 x2 σ hf H locs ls hH hl
    rw [pX8_addRows_12] at hf
    refine lv_iload_n hx hb dX8_addRows_12 rfl (lv_at hl 2 rfl) ?_
    refine lv_aload_n hx hb dX8_addRows_13 rfl (lv_at hl 0 rfl) ?_
    refine fw_get (id := 0) (k := 0) (v := .ref (adr 1)) X hH (by decide) rfl rfl inX8 (by decide) rfl tw_3_202 dX8_addRows_14 ?_
    refine lv_iload_n hx hb dX8_addRows_17 rfl (lv_at hl 1 rfl) ?_
    obtain ⟨w5, g6, hf⟩ := fw_bd hf
    refine fw_iald (id := 1) (n := 52) X hH (by decide) rfl rfl g6 dX8_addRows_18 ?_
    refine lv_icmp_ge (tgt := 42) hx hb dX8_addRows_19 (by decide) (fun hc => ?_) (fun hc => ?_)
    · have hf := fw_pos hc hf
      obtain rfl := Option.some.inj hf
      exact fw_retv X hH dX8_addRows_42
    · have hf := fw_neg hc hf
      refine lv_aload_n hx hb dX8_addRows_22 rfl (lv_at hl 0 rfl) ?_
      refine lv_aload_n hx hb dX8_addRows_23 rfl (lv_at hl 0 rfl) ?_
      refine fw_get (id := 0) (k := 0) (v := .ref (adr 1)) X hH (by decide) rfl rfl inX8 (by decide) rfl tw_3_202 dX8_addRows_24 ?_
      refine lv_iload_n hx hb dX8_addRows_27 rfl (lv_at hl 1 rfl) ?_
      refine lv_iconst (v := (1 : Int32)) hx hb dX8_addRows_28 (by decide) ?_
      refine lv_iadd hx hb dX8_addRows_29 ?_
      refine lv_iload_n hx hb dX8_addRows_30 rfl (lv_at hl 2 rfl) ?_
      refine lv_iadd hx hb dX8_addRows_31 ?_
      obtain ⟨w7, g8, hf⟩ := fw_bd hf
      refine fw_iald (id := 1) (n := 52) X hH (by decide) rfl rfl g8 dX8_addRows_32 ?_
      obtain ⟨τ10, g9, hf⟩ := fw_bd hf
      refine fw_cv hH (fw_rV (As := [.int w7]) (rest := []) (id := 0) X hH (kX8_add  g9 _) qX8_add tw_5_62 ⟨Nat.le_of_ble_eq_true rfl, Nat.le_of_ble_eq_true rfl⟩ rfl rfl (by decide) rfl rfl rfl hl.1 rfl (Nat.le_of_ble_eq_true rfl) dX8_addRows_33) (fun H locs hH => ?_)
      refine lv_iinc (v := (x2 + (1 : Int32))) (lv' := [(2, .int (x2 + (1 : Int32))), (0, .ref (adr 0)), (1, .int x1)]) hx hb dX8_addRows_36 hl (k := 2) rfl rfl (by decide) rfl (fun ls hl => ?_)
      refine lv_goto (tgt := 12) hx hb dX8_addRows_39 (by decide) ?_
      exact ih x1 (x2 + (1 : Int32)) τ10 hf _ _ _ hH (lv_sub hl [1, 2, 0] rfl)
def pX8_addRows (x1 : Int32) (σ : fw_T) : Option (fw_T) :=
  (fw_rd σ 1 52 x1).bind fun w1 =>
  (pX8_add w1 σ).bind fun τ4 =>
  pX8_addRows_12 400 x1 (0 : Int32) τ4
set_option maxRecDepth 100000 in
set_option maxHeartbeats 4000000 in
theorem kX8_addRows {x1 : Int32} {σ σ' : fw_T} (hf : pX8_addRows x1 σ = some σ') : fw_Cv l yX8_addRows (Cond.code yX8_addRows cX8_addRows 3 none :: lwT) rmX8_addRows [.ref (adr 0), .int x1] D 7 adr (fw_M cI cB adr) (fmT cI cB) [] σ σ' := by
  refine fw_start (Qc := (fun A => va_Qv (fun (_ : Unit) => True) (fun _ t => va_P D vwCl (fw_ws 7 adr (fw_M cI cB adr σ')) t.heap) A)) (by decide) (by simp [lg_sl, Value.category]) rfl ?_
  intro p e s m below meth c A X hH ls hl
  have hx := X.1.1
  have hb := X.1.2.1
  have hl : lv_has ls 3 [(0, .ref (adr 0)), (1, .int x1)] := hl
  unfold pX8_addRows at hf
  refine lv_aload_n hx hb dX8_addRows_0 rfl (lv_at hl 0 rfl) ?_
  refine lv_aload_n hx hb dX8_addRows_1 rfl (lv_at hl 0 rfl) ?_
  refine fw_get (id := 0) (k := 0) (v := .ref (adr 1)) X hH (by decide) rfl rfl inX8 (by decide) rfl tw_3_202 dX8_addRows_2 ?_
  refine lv_iload_n hx hb dX8_addRows_5 rfl (lv_at hl 1 rfl) ?_
  obtain ⟨w1, g2, hf⟩ := fw_bd hf
  refine fw_iald (id := 1) (n := 52) X hH (by decide) rfl rfl g2 dX8_addRows_6 ?_
  obtain ⟨τ4, g3, hf⟩ := fw_bd hf
  refine fw_cv hH (fw_rV (As := [.int w1]) (rest := []) (id := 0) X hH (kX8_add  g3 _) qX8_add tw_5_62 ⟨Nat.le_of_ble_eq_true rfl, Nat.le_of_ble_eq_true rfl⟩ rfl rfl (by decide) rfl rfl rfl hl.1 rfl (Nat.le_of_ble_eq_true rfl) dX8_addRows_7) (fun H locs hH => ?_)
  refine lv_iconst (v := (0 : Int32)) hx hb dX8_addRows_10 (by decide) ?_
  refine lv_istore_n (lv' := [(2, .int (0 : Int32)), (0, .ref (adr 0)), (1, .int x1)]) hx hb dX8_addRows_11 rfl hl (by decide) rfl (fun ls hl => ?_)
  exact wX8_addRows_12 X 400 x1 (0 : Int32) τ4 hf _ _ _ hH (lv_sub hl [1, 2, 0] rfl)
abbrev rmX8_addFilters : Room := { frames := 3, cells := 0, slots := 0, locals := 76 }
theorem qX8_addFilters : fw_QV RX8 yX8_addFilters cX8_addFilters 3 none 0 := ⟨⟨tw_5_73, tv_X8_addFilters, tw_1_10, tw_5_74⟩, by decide +kernel⟩
def pX8_addFilters_26 (K13 : Int32 → fw_T → Option (fw_T)) : Nat → Int32 → Int32 → fw_T → Option (fw_T)
  | 0, _, _, _ => none
  | n + 1, x1, x2, σ =>
    if (4 : Int32) ≤ x2 then
      fw_b2 (pX8_accepted x1 σ) fun w9 τ8 =>
      (pX8_add w9 τ8).bind fun τ11 =>
      K13 (x1 + (1 : Int32)) τ11
    else
      fw_b2 (pX8_of x1 x2 σ) fun w14 τ13 =>
      (pX8_add w14 τ13).bind fun τ16 =>
      pX8_addFilters_26 K13 n x1 (x2 + (1 : Int32)) τ16
set_option maxRecDepth 100000 in
set_option maxHeartbeats 4000000 in
theorem wX8_addFilters_26 {args : Array Value} {σ' : fw_T} {K13 : Int32 → fw_T → Option (fw_T)} (X : fmX p m c cX8_addFilters 3 s args RX8 meth none D cI cB) (hK13 : ∀ (x1 : Int32), ∀ (σ : fw_T), K13 x1 σ = some σ' → ∀ (H : Heap) (locs : List Loc) (ls : Array Slot), fmH D cI cB adr A s H locs σ → lv_has ls 3 [(0, .ref (adr 0)), (1, .int x1)] → W p l e rmX8_addFilters s m args below meth c H locs 0 0 (fw_Qv D 7 adr (fw_M cI cB adr) A below args s σ') (F0 m 13 ls [])) : ∀ (n : Nat), ∀ (x1 : Int32), ∀ (x2 : Int32), ∀ (σ : fw_T), pX8_addFilters_26 K13 n x1 x2 σ = some σ' → ∀ (H : Heap) (locs : List Loc) (ls : Array Slot), fmH D cI cB adr A s H locs σ → lv_has ls 3 [(0, .ref (adr 0)), (1, .int x1), (2, .int x2)] → W p l e rmX8_addFilters s m args below meth c H locs 0 0 (fw_Qv D 7 adr (fw_M cI cB adr) A below args s σ') (F0 m 26 ls []) := by
  have hx := X.1.1
  have hb := X.1.2.1
  intro n
  induction n with
  | zero =>
    intro x1 x2 σ hf
    exact absurd hf (by simp [pX8_addFilters_26])
  | succ n ih =>
    intro x1 x2 σ hf H locs ls hH hl
    rw [pX8_addFilters_26] at hf
    refine lv_iload_n hx hb dX8_addFilters_26 rfl (lv_at hl 2 rfl) ?_
    refine lv_iconst (v := (4 : Int32)) hx hb dX8_addFilters_27 (by decide) ?_
    refine lv_icmp_ge (tgt := 47) hx hb dX8_addFilters_28 (by decide) (fun hc => ?_) (fun hc => ?_)
    · have hf := fw_pos hc hf
      refine lv_aload_n hx hb dX8_addFilters_47 rfl (lv_at hl 0 rfl) ?_
      refine lv_aload_n hx hb dX8_addFilters_48 rfl (lv_at hl 0 rfl) ?_
      refine lv_iload_n hx hb dX8_addFilters_49 rfl (lv_at hl 1 rfl) ?_
      obtain ⟨w9, τ8, g7, hf⟩ := fw_b2s hf
      refine fw_ci hH (fw_rV (As := [.int x1]) (rest := [.ref (adr 0)]) (id := 0) X hH (kX8_accepted  g7 _) qX8_accepted tw_4_103 ⟨Nat.le_of_ble_eq_true rfl, Nat.le_of_ble_eq_true rfl⟩ rfl rfl (by decide) rfl rfl rfl hl.1 rfl (Nat.le_of_ble_eq_true rfl) dX8_addFilters_50) (fun H locs hH => ?_)
      obtain ⟨τ11, g10, hf⟩ := fw_bd hf
      refine fw_cv hH (fw_rV (As := [.int w9]) (rest := []) (id := 0) X hH (kX8_add  g10 _) qX8_add tw_5_62 ⟨Nat.le_of_ble_eq_true rfl, Nat.le_of_ble_eq_true rfl⟩ rfl rfl (by decide) rfl rfl rfl hl.1 rfl (Nat.le_of_ble_eq_true rfl) dX8_addFilters_53) (fun H locs hH => ?_)
      refine lv_iinc (v := (x1 + (1 : Int32))) (lv' := [(1, .int (x1 + (1 : Int32))), (0, .ref (adr 0)), (2, .int x2)]) hx hb dX8_addFilters_56 hl (k := 1) rfl rfl (by decide) rfl (fun ls hl => ?_)
      refine lv_goto (tgt := 13) hx hb dX8_addFilters_59 (by decide) ?_
      exact hK13 (x1 + (1 : Int32)) τ11 hf _ _ _ hH (lv_sub hl [1, 0] rfl)
    · have hf := fw_neg hc hf
      refine lv_aload_n hx hb dX8_addFilters_31 rfl (lv_at hl 0 rfl) ?_
      refine lv_aload_n hx hb dX8_addFilters_32 rfl (lv_at hl 0 rfl) ?_
      refine lv_iload_n hx hb dX8_addFilters_33 rfl (lv_at hl 1 rfl) ?_
      refine lv_iload_n hx hb dX8_addFilters_34 rfl (lv_at hl 2 rfl) ?_
      obtain ⟨w14, τ13, g12, hf⟩ := fw_b2s hf
      refine fw_ci hH (fw_rV (As := [.int x1, .int x2]) (rest := [.ref (adr 0)]) (id := 0) X hH (kX8_of  g12 _) qX8_of tw_4_87 ⟨Nat.le_of_ble_eq_true rfl, Nat.le_of_ble_eq_true rfl⟩ rfl rfl (by decide) rfl rfl rfl hl.1 rfl (Nat.le_of_ble_eq_true rfl) dX8_addFilters_35) (fun H locs hH => ?_)
      obtain ⟨τ16, g15, hf⟩ := fw_bd hf
      refine fw_cv hH (fw_rV (As := [.int w14]) (rest := []) (id := 0) X hH (kX8_add  g15 _) qX8_add tw_5_62 ⟨Nat.le_of_ble_eq_true rfl, Nat.le_of_ble_eq_true rfl⟩ rfl rfl (by decide) rfl rfl rfl hl.1 rfl (Nat.le_of_ble_eq_true rfl) dX8_addFilters_38) (fun H locs hH => ?_)
      refine lv_iinc (v := (x2 + (1 : Int32))) (lv' := [(2, .int (x2 + (1 : Int32))), (0, .ref (adr 0)), (1, .int x1)]) hx hb dX8_addFilters_41 hl (k := 2) rfl rfl (by decide) rfl (fun ls hl => ?_)
      refine lv_goto (tgt := 26) hx hb dX8_addFilters_44 (by decide) ?_
      exact ih x1 (x2 + (1 : Int32)) τ16 hf _ _ _ hH (lv_sub hl [1, 2, 0] rfl)
def pX8_addFilters_13 : Nat → Int32 → fw_T → Option (fw_T)
  | 0, _, _ => none
  | n + 1, x1, σ =>
    (fw_rd σ 1 52 (22 : Int32)).bind fun w5 =>
    if w5 ≤ x1 then
      some σ
    else
      pX8_addFilters_26 (fun a0 σ => pX8_addFilters_13 n a0 σ) 400 x1 (0 : Int32) σ
set_option maxRecDepth 100000 in
set_option maxHeartbeats 4000000 in
theorem wX8_addFilters_13 {args : Array Value} {σ' : fw_T} (X : fmX p m c cX8_addFilters 3 s args RX8 meth none D cI cB)  : ∀ (n : Nat), ∀ (x1 : Int32), ∀ (σ : fw_T), pX8_addFilters_13 n x1 σ = some σ' → ∀ (H : Heap) (locs : List Loc) (ls : Array Slot), fmH D cI cB adr A s H locs σ → lv_has ls 3 [(0, .ref (adr 0)), (1, .int x1)] → W p l e rmX8_addFilters s m args below meth c H locs 0 0 (fw_Qv D 7 adr (fw_M cI cB adr) A below args s σ') (F0 m 13 ls []) := by
  have hx := X.1.1
  have hb := X.1.2.1
  intro n
  induction n with
  | zero =>
    intro x1 σ hf
    exact absurd hf (by simp [pX8_addFilters_13])
  | succ n ih =>
    intro x1 σ hf H locs ls hH hl
    rw [pX8_addFilters_13] at hf
    refine lv_iload_n hx hb dX8_addFilters_13 rfl (lv_at hl 1 rfl) ?_
    refine lv_aload_n hx hb dX8_addFilters_14 rfl (lv_at hl 0 rfl) ?_
    refine fw_get (id := 0) (k := 0) (v := .ref (adr 1)) X hH (by decide) rfl rfl inX8 (by decide) rfl tw_3_202 dX8_addFilters_15 ?_
    refine lv_bipush (v := (22 : Int32)) hx hb dX8_addFilters_18 (by decide) ?_
    obtain ⟨w5, g6, hf⟩ := fw_bd hf
    refine fw_iald (id := 1) (n := 52) X hH (by decide) rfl rfl g6 dX8_addFilters_20 ?_
    refine lv_icmp_ge (tgt := 62) hx hb dX8_addFilters_21 (by decide) (fun hc => ?_) (fun hc => ?_)
    · have hf := fw_pos hc hf
      obtain rfl := Option.some.inj hf
      exact fw_retv X hH dX8_addFilters_62
    · have hf := fw_neg hc hf
      refine lv_iconst (v := (0 : Int32)) hx hb dX8_addFilters_24 (by decide) ?_
      refine lv_istore_n (lv' := [(2, .int (0 : Int32)), (0, .ref (adr 0)), (1, .int x1)]) hx hb dX8_addFilters_25 rfl hl (by decide) rfl (fun ls hl => ?_)
      exact wX8_addFilters_26 X ih 400 x1 (0 : Int32) σ hf _ _ _ hH (lv_sub hl [1, 2, 0] rfl)
def pX8_addFilters (σ : fw_T) : Option (fw_T) :=
  (fw_rd σ 1 52 (22 : Int32)).bind fun w1 =>
  (pX8_add w1 σ).bind fun τ4 =>
  pX8_addFilters_13 400 (0 : Int32) τ4
set_option maxRecDepth 100000 in
set_option maxHeartbeats 4000000 in
theorem kX8_addFilters {σ σ' : fw_T} (hf : pX8_addFilters σ = some σ') : fw_Cv l yX8_addFilters (Cond.code yX8_addFilters cX8_addFilters 3 none :: lwT) rmX8_addFilters [.ref (adr 0)] D 7 adr (fw_M cI cB adr) (fmT cI cB) [] σ σ' := by
  refine fw_start (Qc := (fun A => va_Qv (fun (_ : Unit) => True) (fun _ t => va_P D vwCl (fw_ws 7 adr (fw_M cI cB adr σ')) t.heap) A)) (by decide) (by simp [lg_sl, Value.category]) rfl ?_
  intro p e s m below meth c A X hH ls hl
  have hx := X.1.1
  have hb := X.1.2.1
  have hl : lv_has ls 3 [(0, .ref (adr 0))] := hl
  unfold pX8_addFilters at hf
  refine lv_aload_n hx hb dX8_addFilters_0 rfl (lv_at hl 0 rfl) ?_
  refine lv_aload_n hx hb dX8_addFilters_1 rfl (lv_at hl 0 rfl) ?_
  refine fw_get (id := 0) (k := 0) (v := .ref (adr 1)) X hH (by decide) rfl rfl inX8 (by decide) rfl tw_3_202 dX8_addFilters_2 ?_
  refine lv_bipush (v := (22 : Int32)) hx hb dX8_addFilters_5 (by decide) ?_
  obtain ⟨w1, g2, hf⟩ := fw_bd hf
  refine fw_iald (id := 1) (n := 52) X hH (by decide) rfl rfl g2 dX8_addFilters_7 ?_
  obtain ⟨τ4, g3, hf⟩ := fw_bd hf
  refine fw_cv hH (fw_rV (As := [.int w1]) (rest := []) (id := 0) X hH (kX8_add  g3 _) qX8_add tw_5_62 ⟨Nat.le_of_ble_eq_true rfl, Nat.le_of_ble_eq_true rfl⟩ rfl rfl (by decide) rfl rfl rfl hl.1 rfl (Nat.le_of_ble_eq_true rfl) dX8_addFilters_8) (fun H locs hH => ?_)
  refine lv_iconst (v := (0 : Int32)) hx hb dX8_addFilters_11 (by decide) ?_
  refine lv_istore_n (lv' := [(1, .int (0 : Int32)), (0, .ref (adr 0))]) hx hb dX8_addFilters_12 rfl hl (by decide) rfl (fun ls hl => ?_)
  exact wX8_addFilters_13 X 400 (0 : Int32) τ4 hf _ _ _ hH (lv_sub hl [1, 0] rfl)
abbrev rmX8_addWishes : Room := { frames := 7, cells := 0, slots := 0, locals := 171 }
theorem qX8_addWishes : fw_QV RX8 yX8_addWishes cX8_addWishes 4 none 0 := ⟨⟨tw_5_77, tv_X8_addWishes, tw_1_10, tw_5_78⟩, by decide +kernel⟩
def pX8_addWishes_13 : Nat → Int32 → fw_T → Option (fw_T)
  | 0, _, _ => none
  | n + 1, x1, σ =>
    (fw_rd σ 1 52 (47 : Int32)).bind fun w5 =>
    if w5 ≤ x1 then
      some σ
    else
      (fw_rd σ 1 52 ((48 : Int32) + x1)).bind fun w7 =>
      (fw_rd σ 1 52 ((48 : Int32) + x1)).bind fun w9 =>
      (fw_rd σ 1 52 ((48 : Int32) + x1)).bind fun w11 =>
      (pX8_add w11 σ).bind fun τ14 =>
      fw_b2 (pX8_cause (w7 / (10 : Int32)) (w9 - w9 / (10 : Int32) * (10 : Int32)) τ14) fun w17 τ16 =>
      (pX8_add w17 τ16).bind fun τ19 =>
      fw_b2 (pX8_removal (w7 / (10 : Int32)) (w9 - w9 / (10 : Int32) * (10 : Int32)) τ19) fun w22 τ21 =>
      (pX8_add w22 τ21).bind fun τ24 =>
      fw_b2 (pX8_missing (w7 / (10 : Int32)) (w9 - w9 / (10 : Int32) * (10 : Int32)) τ24) fun w27 τ26 =>
      (pX8_add w27 τ26).bind fun τ29 =>
      fw_b2 (pX8_missingAt (w7 / (10 : Int32)) (w9 - w9 / (10 : Int32) * (10 : Int32)) τ29) fun w32 τ31 =>
      (pX8_add w32 τ31).bind fun τ34 =>
      pX8_addWishes_13 n (x1 + (1 : Int32)) τ34
set_option maxRecDepth 100000 in
set_option maxHeartbeats 4000000 in
theorem wX8_addWishes_13 {args : Array Value} {σ' : fw_T} (X : fmX p m c cX8_addWishes 4 s args RX8 meth none D cI cB)  : ∀ (n : Nat), ∀ (x1 : Int32), ∀ (σ : fw_T), pX8_addWishes_13 n x1 σ = some σ' → ∀ (H : Heap) (locs : List Loc) (ls : Array Slot), fmH D cI cB adr A s H locs σ → lv_has ls 4 [(0, .ref (adr 0)), (1, .int x1)] → W p l e rmX8_addWishes s m args below meth c H locs 0 0 (fw_Qv D 7 adr (fw_M cI cB adr) A below args s σ') (F0 m 13 ls []) := by
  have hx := X.1.1
  have hb := X.1.2.1
  intro n
  induction n with
  | zero =>
    intro x1 σ hf
    exact absurd hf (by simp [pX8_addWishes_13])
  | succ n ih =>
    intro x1 σ hf H locs ls hH hl
    rw [pX8_addWishes_13] at hf
    refine lv_iload_n hx hb dX8_addWishes_13 rfl (lv_at hl 1 rfl) ?_
    refine lv_aload_n hx hb dX8_addWishes_14 rfl (lv_at hl 0 rfl) ?_
    refine fw_get (id := 0) (k := 0) (v := .ref (adr 1)) X hH (by decide) rfl rfl inX8 (by decide) rfl tw_3_202 dX8_addWishes_15 ?_
    refine lv_bipush (v := (47 : Int32)) hx hb dX8_addWishes_18 (by decide) ?_
    obtain ⟨w5, g6, hf⟩ := fw_bd hf
    refine fw_iald (id := 1) (n := 52) X hH (by decide) rfl rfl g6 dX8_addWishes_20 ?_
    refine lv_icmp_ge (tgt := 109) hx hb dX8_addWishes_21 (by decide) (fun hc => ?_) (fun hc => ?_)
    · have hf := fw_pos hc hf
      obtain rfl := Option.some.inj hf
      exact fw_retv X hH dX8_addWishes_109
    · have hf := fw_neg hc hf
      refine lv_aload_n hx hb dX8_addWishes_24 rfl (lv_at hl 0 rfl) ?_
      refine fw_get (id := 0) (k := 0) (v := .ref (adr 1)) X hH (by decide) rfl rfl inX8 (by decide) rfl tw_3_202 dX8_addWishes_25 ?_
      refine lv_bipush (v := (48 : Int32)) hx hb dX8_addWishes_28 (by decide) ?_
      refine lv_iload_n hx hb dX8_addWishes_30 rfl (lv_at hl 1 rfl) ?_
      refine lv_iadd hx hb dX8_addWishes_31 ?_
      obtain ⟨w7, g8, hf⟩ := fw_bd hf
      refine fw_iald (id := 1) (n := 52) X hH (by decide) rfl rfl g8 dX8_addWishes_32 ?_
      refine lv_bipush (v := (10 : Int32)) hx hb dX8_addWishes_33 (by decide) ?_
      refine lv_idiv hx hb dX8_addWishes_35 (by decide) ?_
      refine lv_istore_n (lv' := [(2, .int (w7 / (10 : Int32))), (0, .ref (adr 0)), (1, .int x1)]) hx hb dX8_addWishes_36 rfl hl (by decide) rfl (fun ls hl => ?_)
      refine lv_aload_n hx hb dX8_addWishes_37 rfl (lv_at hl 1 rfl) ?_
      refine fw_get (id := 0) (k := 0) (v := .ref (adr 1)) X hH (by decide) rfl rfl inX8 (by decide) rfl tw_3_202 dX8_addWishes_38 ?_
      refine lv_bipush (v := (48 : Int32)) hx hb dX8_addWishes_41 (by decide) ?_
      refine lv_iload_n hx hb dX8_addWishes_43 rfl (lv_at hl 2 rfl) ?_
      refine lv_iadd hx hb dX8_addWishes_44 ?_
      obtain ⟨w9, g10, hf⟩ := fw_bd hf
      refine fw_iald (id := 1) (n := 52) X hH (by decide) rfl rfl g10 dX8_addWishes_45 ?_
      refine lv_bipush (v := (10 : Int32)) hx hb dX8_addWishes_46 (by decide) ?_
      refine lv_irem hx hb dX8_addWishes_48 (by decide) ?_
      refine lv_istore_n (lv' := [(3, .int (w9 - w9 / (10 : Int32) * (10 : Int32))), (2, .int (w7 / (10 : Int32))), (0, .ref (adr 0)), (1, .int x1)]) hx hb dX8_addWishes_49 rfl hl (by decide) rfl (fun ls hl => ?_)
      refine lv_aload_n hx hb dX8_addWishes_50 rfl (lv_at hl 2 rfl) ?_
      refine lv_aload_n hx hb dX8_addWishes_51 rfl (lv_at hl 2 rfl) ?_
      refine fw_get (id := 0) (k := 0) (v := .ref (adr 1)) X hH (by decide) rfl rfl inX8 (by decide) rfl tw_3_202 dX8_addWishes_52 ?_
      refine lv_bipush (v := (48 : Int32)) hx hb dX8_addWishes_55 (by decide) ?_
      refine lv_iload_n hx hb dX8_addWishes_57 rfl (lv_at hl 3 rfl) ?_
      refine lv_iadd hx hb dX8_addWishes_58 ?_
      obtain ⟨w11, g12, hf⟩ := fw_bd hf
      refine fw_iald (id := 1) (n := 52) X hH (by decide) rfl rfl g12 dX8_addWishes_59 ?_
      obtain ⟨τ14, g13, hf⟩ := fw_bd hf
      refine fw_cv hH (fw_rV (As := [.int w11]) (rest := []) (id := 0) X hH (kX8_add  g13 _) qX8_add tw_5_62 ⟨Nat.le_of_ble_eq_true rfl, Nat.le_of_ble_eq_true rfl⟩ rfl rfl (by decide) rfl rfl rfl hl.1 rfl (Nat.le_of_ble_eq_true rfl) dX8_addWishes_60) (fun H locs hH => ?_)
      refine lv_aload_n hx hb dX8_addWishes_63 rfl (lv_at hl 2 rfl) ?_
      refine lv_aload_n hx hb dX8_addWishes_64 rfl (lv_at hl 2 rfl) ?_
      refine lv_iload_n hx hb dX8_addWishes_65 rfl (lv_at hl 1 rfl) ?_
      refine lv_iload_n hx hb dX8_addWishes_66 rfl (lv_at hl 0 rfl) ?_
      obtain ⟨w17, τ16, g15, hf⟩ := fw_b2s hf
      refine fw_ci hH (fw_rV (As := [.int (w7 / (10 : Int32)), .int (w9 - w9 / (10 : Int32) * (10 : Int32))]) (rest := [.ref (adr 0)]) (id := 0) X hH (kX8_cause  g15 _) qX8_cause tw_4_165 ⟨Nat.le_of_ble_eq_true rfl, Nat.le_of_ble_eq_true rfl⟩ rfl rfl (by decide) rfl rfl rfl hl.1 rfl (Nat.le_of_ble_eq_true rfl) dX8_addWishes_67) (fun H locs hH => ?_)
      obtain ⟨τ19, g18, hf⟩ := fw_bd hf
      refine fw_cv hH (fw_rV (As := [.int w17]) (rest := []) (id := 0) X hH (kX8_add  g18 _) qX8_add tw_5_62 ⟨Nat.le_of_ble_eq_true rfl, Nat.le_of_ble_eq_true rfl⟩ rfl rfl (by decide) rfl rfl rfl hl.1 rfl (Nat.le_of_ble_eq_true rfl) dX8_addWishes_70) (fun H locs hH => ?_)
      refine lv_aload_n hx hb dX8_addWishes_73 rfl (lv_at hl 2 rfl) ?_
      refine lv_aload_n hx hb dX8_addWishes_74 rfl (lv_at hl 2 rfl) ?_
      refine lv_iload_n hx hb dX8_addWishes_75 rfl (lv_at hl 1 rfl) ?_
      refine lv_iload_n hx hb dX8_addWishes_76 rfl (lv_at hl 0 rfl) ?_
      obtain ⟨w22, τ21, g20, hf⟩ := fw_b2s hf
      refine fw_ci hH (fw_rV (As := [.int (w7 / (10 : Int32)), .int (w9 - w9 / (10 : Int32) * (10 : Int32))]) (rest := [.ref (adr 0)]) (id := 0) X hH (kX8_removal  g20 _) qX8_removal tw_4_177 ⟨Nat.le_of_ble_eq_true rfl, Nat.le_of_ble_eq_true rfl⟩ rfl rfl (by decide) rfl rfl rfl hl.1 rfl (Nat.le_of_ble_eq_true rfl) dX8_addWishes_77) (fun H locs hH => ?_)
      obtain ⟨τ24, g23, hf⟩ := fw_bd hf
      refine fw_cv hH (fw_rV (As := [.int w22]) (rest := []) (id := 0) X hH (kX8_add  g23 _) qX8_add tw_5_62 ⟨Nat.le_of_ble_eq_true rfl, Nat.le_of_ble_eq_true rfl⟩ rfl rfl (by decide) rfl rfl rfl hl.1 rfl (Nat.le_of_ble_eq_true rfl) dX8_addWishes_80) (fun H locs hH => ?_)
      refine lv_aload_n hx hb dX8_addWishes_83 rfl (lv_at hl 2 rfl) ?_
      refine lv_aload_n hx hb dX8_addWishes_84 rfl (lv_at hl 2 rfl) ?_
      refine lv_iload_n hx hb dX8_addWishes_85 rfl (lv_at hl 1 rfl) ?_
      refine lv_iload_n hx hb dX8_addWishes_86 rfl (lv_at hl 0 rfl) ?_
      obtain ⟨w27, τ26, g25, hf⟩ := fw_b2s hf
      refine fw_ci hH (fw_rV (As := [.int (w7 / (10 : Int32)), .int (w9 - w9 / (10 : Int32) * (10 : Int32))]) (rest := [.ref (adr 0)]) (id := 0) X hH (kX8_missing  g25 _) qX8_missing tw_4_192 ⟨Nat.le_of_ble_eq_true rfl, Nat.le_of_ble_eq_true rfl⟩ rfl rfl (by decide) rfl rfl rfl hl.1 rfl (Nat.le_of_ble_eq_true rfl) dX8_addWishes_87) (fun H locs hH => ?_)
      obtain ⟨τ29, g28, hf⟩ := fw_bd hf
      refine fw_cv hH (fw_rV (As := [.int w27]) (rest := []) (id := 0) X hH (kX8_add  g28 _) qX8_add tw_5_62 ⟨Nat.le_of_ble_eq_true rfl, Nat.le_of_ble_eq_true rfl⟩ rfl rfl (by decide) rfl rfl rfl hl.1 rfl (Nat.le_of_ble_eq_true rfl) dX8_addWishes_90) (fun H locs hH => ?_)
      refine lv_aload_n hx hb dX8_addWishes_93 rfl (lv_at hl 2 rfl) ?_
      refine lv_aload_n hx hb dX8_addWishes_94 rfl (lv_at hl 2 rfl) ?_
      refine lv_iload_n hx hb dX8_addWishes_95 rfl (lv_at hl 1 rfl) ?_
      refine lv_iload_n hx hb dX8_addWishes_96 rfl (lv_at hl 0 rfl) ?_
      obtain ⟨w32, τ31, g30, hf⟩ := fw_b2s hf
      refine fw_ci hH (fw_rV (As := [.int (w7 / (10 : Int32)), .int (w9 - w9 / (10 : Int32) * (10 : Int32))]) (rest := [.ref (adr 0)]) (id := 0) X hH (kX8_missingAt  g30 _) qX8_missingAt tw_4_208 ⟨Nat.le_of_ble_eq_true rfl, Nat.le_of_ble_eq_true rfl⟩ rfl rfl (by decide) rfl rfl rfl hl.1 rfl (Nat.le_of_ble_eq_true rfl) dX8_addWishes_97) (fun H locs hH => ?_)
      obtain ⟨τ34, g33, hf⟩ := fw_bd hf
      refine fw_cv hH (fw_rV (As := [.int w32]) (rest := []) (id := 0) X hH (kX8_add  g33 _) qX8_add tw_5_62 ⟨Nat.le_of_ble_eq_true rfl, Nat.le_of_ble_eq_true rfl⟩ rfl rfl (by decide) rfl rfl rfl hl.1 rfl (Nat.le_of_ble_eq_true rfl) dX8_addWishes_100) (fun H locs hH => ?_)
      refine lv_iinc (v := (x1 + (1 : Int32))) (lv' := [(1, .int (x1 + (1 : Int32))), (3, .int (w9 - w9 / (10 : Int32) * (10 : Int32))), (2, .int (w7 / (10 : Int32))), (0, .ref (adr 0))]) hx hb dX8_addWishes_103 hl (k := 3) rfl rfl (by decide) rfl (fun ls hl => ?_)
      refine lv_goto (tgt := 13) hx hb dX8_addWishes_106 (by decide) ?_
      exact ih (x1 + (1 : Int32)) τ34 hf _ _ _ hH (lv_sub hl [3, 0] rfl)
def pX8_addWishes (σ : fw_T) : Option (fw_T) :=
  (fw_rd σ 1 52 (47 : Int32)).bind fun w1 =>
  (pX8_add w1 σ).bind fun τ4 =>
  pX8_addWishes_13 400 (0 : Int32) τ4
set_option maxRecDepth 100000 in
set_option maxHeartbeats 4000000 in
theorem kX8_addWishes {σ σ' : fw_T} (hf : pX8_addWishes σ = some σ') : fw_Cv l yX8_addWishes (Cond.code yX8_addWishes cX8_addWishes 4 none :: lwT) rmX8_addWishes [.ref (adr 0)] D 7 adr (fw_M cI cB adr) (fmT cI cB) [] σ σ' := by
  refine fw_start (Qc := (fun A => va_Qv (fun (_ : Unit) => True) (fun _ t => va_P D vwCl (fw_ws 7 adr (fw_M cI cB adr σ')) t.heap) A)) (by decide) (by simp [lg_sl, Value.category]) rfl ?_
  intro p e s m below meth c A X hH ls hl
  have hx := X.1.1
  have hb := X.1.2.1
  have hl : lv_has ls 4 [(0, .ref (adr 0))] := hl
  unfold pX8_addWishes at hf
  refine lv_aload_n hx hb dX8_addWishes_0 rfl (lv_at hl 0 rfl) ?_
  refine lv_aload_n hx hb dX8_addWishes_1 rfl (lv_at hl 0 rfl) ?_
  refine fw_get (id := 0) (k := 0) (v := .ref (adr 1)) X hH (by decide) rfl rfl inX8 (by decide) rfl tw_3_202 dX8_addWishes_2 ?_
  refine lv_bipush (v := (47 : Int32)) hx hb dX8_addWishes_5 (by decide) ?_
  obtain ⟨w1, g2, hf⟩ := fw_bd hf
  refine fw_iald (id := 1) (n := 52) X hH (by decide) rfl rfl g2 dX8_addWishes_7 ?_
  obtain ⟨τ4, g3, hf⟩ := fw_bd hf
  refine fw_cv hH (fw_rV (As := [.int w1]) (rest := []) (id := 0) X hH (kX8_add  g3 _) qX8_add tw_5_62 ⟨Nat.le_of_ble_eq_true rfl, Nat.le_of_ble_eq_true rfl⟩ rfl rfl (by decide) rfl rfl rfl hl.1 rfl (Nat.le_of_ble_eq_true rfl) dX8_addWishes_8) (fun H locs hH => ?_)
  refine lv_iconst (v := (0 : Int32)) hx hb dX8_addWishes_11 (by decide) ?_
  refine lv_istore_n (lv' := [(1, .int (0 : Int32)), (0, .ref (adr 0))]) hx hb dX8_addWishes_12 rfl hl (by decide) rfl (fun ls hl => ?_)
  exact wX8_addWishes_13 X 400 (0 : Int32) τ4 hf _ _ _ hH (lv_sub hl [1, 0] rfl)
abbrev rmX8_digest : Room := { frames := 8, cells := 0, slots := 0, locals := 194 }
theorem qX8_digest : fw_QV RX8 yX8_digest cX8_digest 3 (some .long) 0 := ⟨⟨tw_5_58, tw_5_59, tw_1_10, tw_5_60⟩, by decide +kernel⟩
def pX8_digest_73 : Nat → Int32 → Int32 → fw_T → Option (Int64 × fw_T)
  | 0, _, _, _ => none
  | n + 1, x1, x2, σ =>
    if x1 ≤ x2 then
      (pX8_addWishes σ).bind fun τ17 =>
      fw_b2 (pX8_removalForWishes τ17) fun w20 τ19 =>
      (pX8_add w20 τ19).bind fun τ22 =>
      some ((fw_h τ22), τ22)
    else
      fw_b2 (pX8_answerAt x2 σ) fun w25 τ24 =>
      (pX8_add w25 τ24).bind fun τ27 =>
      pX8_digest_73 n x1 (x2 + (1 : Int32)) τ27
set_option maxRecDepth 100000 in
set_option maxHeartbeats 4000000 in
theorem wX8_digest_73 {args : Array Value} {r : Int64} {σ' : fw_T} (X : fmX p m c cX8_digest 3 s args RX8 meth (some .long) D cI cB)  : ∀ (n : Nat), ∀ (x1 : Int32), ∀ (x2 : Int32), ∀ (σ : fw_T), pX8_digest_73 n x1 x2 σ = some (r, σ') → ∀ (H : Heap) (locs : List Loc) (ls : Array Slot), fmH D cI cB adr A s H locs σ → lv_has ls 3 [(0, .ref (adr 0)), (1, .int x1), (2, .int x2)] → W p l e rmX8_digest s m args below meth c H locs 0 0 (fw_Ql D 7 adr (fw_M cI cB adr) A below args s r σ') (F0 m 73 ls []) := by
  have hx := X.1.1
  have hb := X.1.2.1
  intro n
  induction n with
  | zero =>
    intro x1 x2 σ hf
    exact absurd hf (by simp [pX8_digest_73])
  | succ n ih =>
    intro x1 x2 σ hf H locs ls hH hl
    rw [pX8_digest_73] at hf
    refine lv_iload_n hx hb dX8_digest_73 rfl (lv_at hl 2 rfl) ?_
    refine lv_iload_n hx hb dX8_digest_74 rfl (lv_at hl 1 rfl) ?_
    refine lv_icmp_ge (tgt := 93) hx hb dX8_digest_75 (by decide) (fun hc => ?_) (fun hc => ?_)
    · have hf := fw_pos hc hf
      refine lv_aload_n hx hb dX8_digest_93 rfl (lv_at hl 0 rfl) ?_
      obtain ⟨τ17, g16, hf⟩ := fw_bd hf
      refine fw_cv hH (fw_rV (As := []) (rest := []) (id := 0) X hH (kX8_addWishes  g16 _) qX8_addWishes tw_5_75 ⟨Nat.le_of_ble_eq_true rfl, Nat.le_of_ble_eq_true rfl⟩ rfl rfl (by decide) rfl rfl rfl hl.1 rfl (Nat.le_of_ble_eq_true rfl) dX8_digest_94) (fun H locs hH => ?_)
      refine lv_aload_n hx hb dX8_digest_97 rfl (lv_at hl 0 rfl) ?_
      refine lv_aload_n hx hb dX8_digest_98 rfl (lv_at hl 0 rfl) ?_
      obtain ⟨w20, τ19, g18, hf⟩ := fw_b2s hf
      refine fw_ci hH (fw_rV (As := []) (rest := [.ref (adr 0)]) (id := 0) X hH (kX8_removalForWishes  g18 _) qX8_removalForWishes tw_5_0 ⟨Nat.le_of_ble_eq_true rfl, Nat.le_of_ble_eq_true rfl⟩ rfl rfl (by decide) rfl rfl rfl hl.1 rfl (Nat.le_of_ble_eq_true rfl) dX8_digest_99) (fun H locs hH => ?_)
      obtain ⟨τ22, g21, hf⟩ := fw_bd hf
      refine fw_cv hH (fw_rV (As := [.int w20]) (rest := []) (id := 0) X hH (kX8_add  g21 _) qX8_add tw_5_62 ⟨Nat.le_of_ble_eq_true rfl, Nat.le_of_ble_eq_true rfl⟩ rfl rfl (by decide) rfl rfl rfl hl.1 rfl (Nat.le_of_ble_eq_true rfl) dX8_digest_102) (fun H locs hH => ?_)
      refine lv_aload_n hx hb dX8_digest_105 rfl (lv_at hl 0 rfl) ?_
      refine fw_get (id := 0) (k := 13) (v := .long (fw_h τ22)) X hH (by decide) rfl rfl inX8 (by decide) rfl tw_3_215 dX8_digest_106 ?_
      obtain ⟨rfl, rfl⟩ := fw_s2 hf
      exact fw_retl X hH dX8_digest_109
    · have hf := fw_neg hc hf
      refine lv_aload_n hx hb dX8_digest_78 rfl (lv_at hl 0 rfl) ?_
      refine lv_aload_n hx hb dX8_digest_79 rfl (lv_at hl 0 rfl) ?_
      refine lv_iload_n hx hb dX8_digest_80 rfl (lv_at hl 2 rfl) ?_
      obtain ⟨w25, τ24, g23, hf⟩ := fw_b2s hf
      refine fw_ci hH (fw_rV (As := [.int x2]) (rest := [.ref (adr 0)]) (id := 0) X hH (kX8_answerAt  g23 _) qX8_answerAt tw_4_153 ⟨Nat.le_of_ble_eq_true rfl, Nat.le_of_ble_eq_true rfl⟩ rfl rfl (by decide) rfl rfl rfl hl.1 rfl (Nat.le_of_ble_eq_true rfl) dX8_digest_81) (fun H locs hH => ?_)
      obtain ⟨τ27, g26, hf⟩ := fw_bd hf
      refine fw_cv hH (fw_rV (As := [.int w25]) (rest := []) (id := 0) X hH (kX8_add  g26 _) qX8_add tw_5_62 ⟨Nat.le_of_ble_eq_true rfl, Nat.le_of_ble_eq_true rfl⟩ rfl rfl (by decide) rfl rfl rfl hl.1 rfl (Nat.le_of_ble_eq_true rfl) dX8_digest_84) (fun H locs hH => ?_)
      refine lv_iinc (v := (x2 + (1 : Int32))) (lv' := [(2, .int (x2 + (1 : Int32))), (0, .ref (adr 0)), (1, .int x1)]) hx hb dX8_digest_87 hl (k := 2) rfl rfl (by decide) rfl (fun ls hl => ?_)
      refine lv_goto (tgt := 73) hx hb dX8_digest_90 (by decide) ?_
      exact ih x1 (x2 + (1 : Int32)) τ27 hf _ _ _ hH (lv_sub hl [1, 2, 0] rfl)
def pX8_digest_9 : Nat → Int32 → fw_T → Option (Int64 × fw_T)
  | 0, _, _ => none
  | n + 1, x1, σ =>
    if (3 : Int32) ≤ x1 then
      (pX8_add (fw_g σ 0 7) σ).bind fun τ2 =>
      (pX8_add (fw_g τ2 0 3) τ2).bind fun τ4 =>
      (pX8_addRows (0 : Int32) τ4).bind fun τ6 =>
      (pX8_addRows (11 : Int32) τ6).bind fun τ8 =>
      (pX8_addFilters τ8).bind fun τ10 =>
      fw_b2 (pX8_answers τ10) fun w13 τ12 =>
      (pX8_add w13 τ12).bind fun τ15 =>
      pX8_digest_73 400 w13 (0 : Int32) τ15
    else
      (fw_rd σ 4 3 x1).bind fun w28 =>
      (pX8_add w28 σ).bind fun τ31 =>
      pX8_digest_9 n (x1 + (1 : Int32)) τ31
set_option maxRecDepth 100000 in
set_option maxHeartbeats 4000000 in
theorem wX8_digest_9 {args : Array Value} {r : Int64} {σ' : fw_T} (X : fmX p m c cX8_digest 3 s args RX8 meth (some .long) D cI cB)  : ∀ (n : Nat), ∀ (x1 : Int32), ∀ (σ : fw_T), pX8_digest_9 n x1 σ = some (r, σ') → ∀ (H : Heap) (locs : List Loc) (ls : Array Slot), fmH D cI cB adr A s H locs σ → lv_has ls 3 [(0, .ref (adr 0)), (1, .int x1)] → W p l e rmX8_digest s m args below meth c H locs 0 0 (fw_Ql D 7 adr (fw_M cI cB adr) A below args s r σ') (F0 m 9 ls []) := by
  have hx := X.1.1
  have hb := X.1.2.1
  intro n
  induction n with
  | zero =>
    intro x1 σ hf
    exact absurd hf (by simp [pX8_digest_9])
  | succ n ih =>
    intro x1 σ hf H locs ls hH hl
    rw [pX8_digest_9] at hf
    refine lv_iload_n hx hb dX8_digest_9 rfl (lv_at hl 1 rfl) ?_
    refine lv_iconst (v := (3 : Int32)) hx hb dX8_digest_10 (by decide) ?_
    refine lv_icmp_ge (tgt := 30) hx hb dX8_digest_11 (by decide) (fun hc => ?_) (fun hc => ?_)
    · have hf := fw_pos hc hf
      refine lv_aload_n hx hb dX8_digest_30 rfl (lv_at hl 0 rfl) ?_
      refine lv_aload_n hx hb dX8_digest_31 rfl (lv_at hl 0 rfl) ?_
      refine fw_get (id := 0) (k := 7) (v := .int (fw_g σ 0 7)) X hH (by decide) rfl rfl inX8 (by decide) rfl tw_3_209 dX8_digest_32 ?_
      obtain ⟨τ2, g1, hf⟩ := fw_bd hf
      refine fw_cv hH (fw_rV (As := [.int (fw_g σ 0 7)]) (rest := []) (id := 0) X hH (kX8_add  g1 _) qX8_add tw_5_62 ⟨Nat.le_of_ble_eq_true rfl, Nat.le_of_ble_eq_true rfl⟩ rfl rfl (by decide) rfl rfl rfl hl.1 rfl (Nat.le_of_ble_eq_true rfl) dX8_digest_35) (fun H locs hH => ?_)
      refine lv_aload_n hx hb dX8_digest_38 rfl (lv_at hl 0 rfl) ?_
      refine lv_aload_n hx hb dX8_digest_39 rfl (lv_at hl 0 rfl) ?_
      refine fw_get (id := 0) (k := 3) (v := .int (fw_g τ2 0 3)) X hH (by decide) rfl rfl inX8 (by decide) rfl tw_3_205 dX8_digest_40 ?_
      obtain ⟨τ4, g3, hf⟩ := fw_bd hf
      refine fw_cv hH (fw_rV (As := [.int (fw_g τ2 0 3)]) (rest := []) (id := 0) X hH (kX8_add  g3 _) qX8_add tw_5_62 ⟨Nat.le_of_ble_eq_true rfl, Nat.le_of_ble_eq_true rfl⟩ rfl rfl (by decide) rfl rfl rfl hl.1 rfl (Nat.le_of_ble_eq_true rfl) dX8_digest_43) (fun H locs hH => ?_)
      refine lv_aload_n hx hb dX8_digest_46 rfl (lv_at hl 0 rfl) ?_
      refine lv_iconst (v := (0 : Int32)) hx hb dX8_digest_47 (by decide) ?_
      obtain ⟨τ6, g5, hf⟩ := fw_bd hf
      refine fw_cv hH (fw_rV (As := [.int (0 : Int32)]) (rest := []) (id := 0) X hH (kX8_addRows  g5 _) qX8_addRows tw_5_67 ⟨Nat.le_of_ble_eq_true rfl, Nat.le_of_ble_eq_true rfl⟩ rfl rfl (by decide) rfl rfl rfl hl.1 rfl (Nat.le_of_ble_eq_true rfl) dX8_digest_48) (fun H locs hH => ?_)
      refine lv_aload_n hx hb dX8_digest_51 rfl (lv_at hl 0 rfl) ?_
      refine lv_bipush (v := (11 : Int32)) hx hb dX8_digest_52 (by decide) ?_
      obtain ⟨τ8, g7, hf⟩ := fw_bd hf
      refine fw_cv hH (fw_rV (As := [.int (11 : Int32)]) (rest := []) (id := 0) X hH (kX8_addRows  g7 _) qX8_addRows tw_5_67 ⟨Nat.le_of_ble_eq_true rfl, Nat.le_of_ble_eq_true rfl⟩ rfl rfl (by decide) rfl rfl rfl hl.1 rfl (Nat.le_of_ble_eq_true rfl) dX8_digest_54) (fun H locs hH => ?_)
      refine lv_aload_n hx hb dX8_digest_57 rfl (lv_at hl 0 rfl) ?_
      obtain ⟨τ10, g9, hf⟩ := fw_bd hf
      refine fw_cv hH (fw_rV (As := []) (rest := []) (id := 0) X hH (kX8_addFilters  g9 _) qX8_addFilters tw_5_71 ⟨Nat.le_of_ble_eq_true rfl, Nat.le_of_ble_eq_true rfl⟩ rfl rfl (by decide) rfl rfl rfl hl.1 rfl (Nat.le_of_ble_eq_true rfl) dX8_digest_58) (fun H locs hH => ?_)
      refine lv_aload_n hx hb dX8_digest_61 rfl (lv_at hl 0 rfl) ?_
      obtain ⟨w13, τ12, g11, hf⟩ := fw_b2s hf
      refine fw_ci hH (fw_rV (As := []) (rest := []) (id := 0) X hH (kX8_answers  g11 _) qX8_answers tw_4_121 ⟨Nat.le_of_ble_eq_true rfl, Nat.le_of_ble_eq_true rfl⟩ rfl rfl (by decide) rfl rfl rfl hl.1 rfl (Nat.le_of_ble_eq_true rfl) dX8_digest_62) (fun H locs hH => ?_)
      refine lv_istore_n (lv' := [(1, .int w13), (0, .ref (adr 0))]) hx hb dX8_digest_65 rfl hl (by decide) rfl (fun ls hl => ?_)
      refine lv_aload_n hx hb dX8_digest_66 rfl (lv_at hl 1 rfl) ?_
      refine lv_iload_n hx hb dX8_digest_67 rfl (lv_at hl 0 rfl) ?_
      obtain ⟨τ15, g14, hf⟩ := fw_bd hf
      refine fw_cv hH (fw_rV (As := [.int w13]) (rest := []) (id := 0) X hH (kX8_add  g14 _) qX8_add tw_5_62 ⟨Nat.le_of_ble_eq_true rfl, Nat.le_of_ble_eq_true rfl⟩ rfl rfl (by decide) rfl rfl rfl hl.1 rfl (Nat.le_of_ble_eq_true rfl) dX8_digest_68) (fun H locs hH => ?_)
      refine lv_iconst (v := (0 : Int32)) hx hb dX8_digest_71 (by decide) ?_
      refine lv_istore_n (lv' := [(2, .int (0 : Int32)), (1, .int w13), (0, .ref (adr 0))]) hx hb dX8_digest_72 rfl hl (by decide) rfl (fun ls hl => ?_)
      exact wX8_digest_73 X 400 w13 (0 : Int32) τ15 hf _ _ _ hH (lv_sub hl [2, 1, 0] rfl)
    · have hf := fw_neg hc hf
      refine lv_aload_n hx hb dX8_digest_14 rfl (lv_at hl 0 rfl) ?_
      refine lv_aload_n hx hb dX8_digest_15 rfl (lv_at hl 0 rfl) ?_
      refine fw_get (id := 0) (k := 4) (v := .ref (adr 4)) X hH (by decide) rfl rfl inX8 (by decide) rfl tw_3_206 dX8_digest_16 ?_
      refine lv_iload_n hx hb dX8_digest_19 rfl (lv_at hl 1 rfl) ?_
      obtain ⟨w28, g29, hf⟩ := fw_bd hf
      refine fw_iald (id := 4) (n := 3) X hH (by decide) rfl rfl g29 dX8_digest_20 ?_
      obtain ⟨τ31, g30, hf⟩ := fw_bd hf
      refine fw_cv hH (fw_rV (As := [.int w28]) (rest := []) (id := 0) X hH (kX8_add  g30 _) qX8_add tw_5_62 ⟨Nat.le_of_ble_eq_true rfl, Nat.le_of_ble_eq_true rfl⟩ rfl rfl (by decide) rfl rfl rfl hl.1 rfl (Nat.le_of_ble_eq_true rfl) dX8_digest_21) (fun H locs hH => ?_)
      refine lv_iinc (v := (x1 + (1 : Int32))) (lv' := [(1, .int (x1 + (1 : Int32))), (0, .ref (adr 0))]) hx hb dX8_digest_24 hl (k := 1) rfl rfl (by decide) rfl (fun ls hl => ?_)
      refine lv_goto (tgt := 9) hx hb dX8_digest_27 (by decide) ?_
      exact ih (x1 + (1 : Int32)) τ31 hf _ _ _ hH (lv_sub hl [1, 0] rfl)
def pX8_digest (σ : fw_T) : Option (Int64 × fw_T) :=
  pX8_digest_9 400 (0 : Int32) (fw_uh σ (18084 : Int64))
set_option maxRecDepth 100000 in
set_option maxHeartbeats 4000000 in
theorem kX8_digest {r : Int64} {σ σ' : fw_T} (hf : pX8_digest σ = some (r, σ')) : fw_Cl l yX8_digest (Cond.code yX8_digest cX8_digest 3 (some .long) :: lwT) rmX8_digest [.ref (adr 0)] D 7 adr (fw_M cI cB adr) (fmT cI cB) [] σ r σ' := by
  refine fw_start (Qc := (fun A => va_Ql (fun r' (_ : Unit) => r' = r) (fun _ t => va_P D vwCl (fw_ws 7 adr (fw_M cI cB adr σ')) t.heap) A)) (by decide) (by simp [lg_sl, Value.category]) rfl ?_
  intro p e s m below meth c A X hH ls hl
  have hx := X.1.1
  have hb := X.1.2.1
  have hl : lv_has ls 3 [(0, .ref (adr 0))] := hl
  unfold pX8_digest at hf
  refine lv_aload_n hx hb dX8_digest_0 rfl (lv_at hl 0 rfl) ?_
  refine lv_ldc2 (v := (18084 : Int64)) hx hb X.1.2.2.2.1 (X.1.2.2.2.2 _ tw_5_61) dX8_digest_1 ?_
  refine fw_put (id := 0) (k := 13) (v := .long (18084 : Int64)) (ty := .long) (σ' := (fw_uh σ (18084 : Int64))) X hH (by decide) rfl rfl (fun j h => fm_nh h) rfl inX8 tyX8 tyX8_ok nmX8 (by decide) (Nat.le_of_ble_eq_true rfl) rfl (by decide +kernel) rfl rfl tw_3_215 dX8_digest_4 (fun H locs hH => ?_)
  refine lv_iconst (v := (0 : Int32)) hx hb dX8_digest_7 (by decide) ?_
  refine lv_istore_n (lv' := [(1, .int (0 : Int32)), (0, .ref (adr 0))]) hx hb dX8_digest_8 rfl hl (by decide) rfl (fun ls hl => ?_)
  exact wX8_digest_9 X 400 (0 : Int32) (fw_uh σ (18084 : Int64)) hf _ _ _ hH (lv_sub hl [1, 0] rfl)
end
