section
variable {p : Program} {l : Launch} {e : Env} {s : State} {m : MethodId} {below : List Frame} {meth : Method} {c : Code} {D : va_G} {cI cO cB : ClassId} {adr : Nat → Nat} {A : Nat → Prop}
abbrev rmX7_mixPairs : Room := { frames := 1, cells := 0, slots := 0, locals := 23 }
theorem qX7_mixPairs : fw_QS yX7_mixPairs cX7_mixPairs 6 (some .long) 2 := ⟨⟨tw_3_182, tw_1_1, tw_3_183⟩, by decide +kernel⟩
def pX7_mixPairs_13 (h2 : Nat) : Nat → Int64 → Int32 → fw_T → Option (Int64 × fw_T)
  | 0, _, _, _ => none
  | n + 1, x3, x5, σ =>
    if (fw_g σ h2 2) ≤ x5 then
      some (x3, σ)
    else
      fw_b2 (pX2_pairAt h2 x5 σ) fun w6 τ5 =>
      fw_b2 (pX7_mix x3 (w6.toInt64) τ5) fun w9 τ8 =>
      pX7_mixPairs_13 h2 n w9 (x5 + (1 : Int32)) τ8
set_option maxRecDepth 100000 in
set_option maxHeartbeats 4000000 in
theorem wX7_mixPairs_13 {h2 : Nat} (hk2 : fw_PL h2) {args : Array Value} {r : Int64} {σ' : fw_T} (X : fcX p m c cX7_mixPairs 6 s args RX7 meth (some .long) D cI cO)  : ∀ (n : Nat), ∀ (x3 : Int64), ∀ (x5 : Int32), ∀ (σ : fw_T), pX7_mixPairs_13 h2 n x3 x5 σ = some (r, σ') → ∀ (H : Heap) (locs : List Loc) (ls : Array Slot), fcH D cI cO adr A s H locs σ → lv_has ls 6 [(2, .ref (adr h2)), (3, .long x3), (5, .int x5)] → W p l e rmX7_mixPairs s m args below meth c H locs 0 0 (fw_Ql D 96 adr (fw_C cI cO adr) A below args s r σ') (F0 m 13 ls []) := by
  have hx := X.1.1
  have hb := X.1.2.1
  intro n
  induction n with
  | zero =>
    intro x3 x5 σ hf
    exact absurd hf (by simp [pX7_mixPairs_13])
  | succ n ih =>
    intro x3 x5 σ hf H locs ls hH hl
    rw [pX7_mixPairs_13] at hf
    refine lv_iload hx hb dX7_mixPairs_13 (lv_at hl 2 rfl) ?_
    refine lv_aload_n hx hb dX7_mixPairs_15 rfl (lv_at hl 0 rfl) ?_
    refine fw_getN (id := h2) (k := 2) (v := .int (fw_g σ h2 2)) X hH hk2.2.1 (fc_13 hk2.1) rfl inX2 (by decide) rfl nw_1_47 dX7_mixPairs_16 ?_
    refine lv_icmp_ge (tgt := 40) hx hb dX7_mixPairs_19 (by decide) (fun hc => ?_) (fun hc => ?_)
    · have hf := fw_pos hc hf
      refine lv_lload_n hx hb dX7_mixPairs_40 rfl (lv_at hl 1 rfl) ?_
      obtain ⟨rfl, rfl⟩ := fw_s2 hf
      exact fw_retl X hH dX7_mixPairs_41
    · have hf := fw_neg hc hf
      refine lv_lload_n hx hb dX7_mixPairs_22 rfl (lv_at hl 1 rfl) ?_
      refine lv_aload_n hx hb dX7_mixPairs_23 rfl (lv_at hl 0 rfl) ?_
      refine lv_iload hx hb dX7_mixPairs_24 (lv_at hl 2 rfl) ?_
      obtain ⟨w6, τ5, g4, hf⟩ := fw_b2s hf
      refine fw_ci hH (fw_rV (As := [.int x5]) (rest := [.long x3]) (id := h2) X hH (kX2_pairAt hk2 g4 _) qX2_pairAt tw_2_34 ⟨Nat.le_of_ble_eq_true rfl, Nat.le_of_ble_eq_true rfl⟩ rfl rfl hk2.2.1 (fc_13 hk2.1) rfl rfl hl.1 rfl (Nat.le_of_ble_eq_true rfl) dX7_mixPairs_26) (fun H locs hH => ?_)
      refine lv_i2l (v := (w6.toInt64)) hx hb dX7_mixPairs_29 rfl ?_
      obtain ⟨w9, τ8, g7, hf⟩ := fw_b2s hf
      refine fw_cl hH (fw_rS (As := [.long x3, .long (w6.toInt64)]) (rest := []) X hH (kX7_mix  g7 _) qX7_mix tw_3_177 ⟨Nat.le_of_ble_eq_true rfl, Nat.le_of_ble_eq_true rfl⟩ rfl rfl rfl hl.1 rfl (Nat.le_of_ble_eq_true rfl) dX7_mixPairs_30) (fun H locs hH => ?_)
      refine lv_lstore_n (lv' := [(3, .long w9), (2, .ref (adr h2)), (5, .int x5)]) hx hb dX7_mixPairs_33 rfl hl (by decide) rfl (fun ls hl => ?_)
      refine lv_iinc (v := (x5 + (1 : Int32))) (lv' := [(5, .int (x5 + (1 : Int32))), (3, .long w9), (2, .ref (adr h2))]) hx hb dX7_mixPairs_34 hl (k := 2) rfl rfl (by decide) rfl (fun ls hl => ?_)
      refine lv_goto (tgt := 13) hx hb dX7_mixPairs_37 (by decide) ?_
      exact ih w9 (x5 + (1 : Int32)) τ8 hf _ _ _ hH (lv_sub hl [2, 1, 0] rfl)
def pX7_mixPairs (h2 : Nat) (x0 : Int64) (σ : fw_T) : Option (Int64 × fw_T) :=
  fw_b2 (pX7_mix x0 ((fw_g σ h2 2).toInt64) σ) fun w3 τ2 =>
  pX7_mixPairs_13 h2 400 w3 (0 : Int32) τ2
set_option maxRecDepth 100000 in
set_option maxHeartbeats 4000000 in
theorem kX7_mixPairs {h2 : Nat} (hk2 : fw_PL h2) {x0 : Int64} {r : Int64} {σ σ' : fw_T} (hf : pX7_mixPairs h2 x0 σ = some (r, σ')) : fw_Cl l yX7_mixPairs (Cond.code yX7_mixPairs cX7_mixPairs 6 (some .long) :: lwT) rmX7_mixPairs [.long x0, .ref (adr h2)] D 96 adr (fw_C cI cO adr) (fcT cI cO) nwC σ r σ' := by
  refine fw_start (Qc := (fun A => va_Ql (fun r' (_ : Unit) => r' = r) (fun _ t => va_P D vwCl (fw_ws 96 adr (fw_C cI cO adr σ')) t.heap) A)) (by decide) (by simp [lg_sl, Value.category]) rfl ?_
  intro p e s m below meth c A X hH ls hl
  have hx := X.1.1
  have hb := X.1.2.1
  have hl : lv_has ls 6 [(0, .long x0), (2, .ref (adr h2))] := hl
  unfold pX7_mixPairs at hf
  refine lv_lload_n hx hb dX7_mixPairs_0 rfl (lv_at hl 0 rfl) ?_
  refine lv_aload_n hx hb dX7_mixPairs_1 rfl (lv_at hl 1 rfl) ?_
  refine fw_getN (id := h2) (k := 2) (v := .int (fw_g σ h2 2)) X hH hk2.2.1 (fc_13 hk2.1) rfl inX2 (by decide) rfl nw_1_47 dX7_mixPairs_2 ?_
  refine lv_i2l (v := ((fw_g σ h2 2).toInt64)) hx hb dX7_mixPairs_5 rfl ?_
  obtain ⟨w3, τ2, g1, hf⟩ := fw_b2s hf
  refine fw_cl hH (fw_rS (As := [.long x0, .long ((fw_g σ h2 2).toInt64)]) (rest := []) X hH (kX7_mix  g1 _) qX7_mix tw_3_177 ⟨Nat.le_of_ble_eq_true rfl, Nat.le_of_ble_eq_true rfl⟩ rfl rfl rfl hl.1 rfl (Nat.le_of_ble_eq_true rfl) dX7_mixPairs_6) (fun H locs hH => ?_)
  refine lv_lstore_n (lv' := [(3, .long w3), (0, .long x0), (2, .ref (adr h2))]) hx hb dX7_mixPairs_9 rfl hl (by decide) rfl (fun ls hl => ?_)
  refine lv_iconst (v := (0 : Int32)) hx hb dX7_mixPairs_10 (by decide) ?_
  refine lv_istore (lv' := [(5, .int (0 : Int32)), (3, .long w3), (0, .long x0), (2, .ref (adr h2))]) hx hb dX7_mixPairs_11 hl (by decide) rfl (fun ls hl => ?_)
  exact wX7_mixPairs_13 hk2 X 400 w3 (0 : Int32) τ2 hf _ _ _ hH (lv_sub hl [3, 1, 0] rfl)
abbrev rmX7_mixFilters : Room := { frames := 4, cells := 0, slots := 0, locals := 95 }
theorem qX7_mixFilters : fw_QV RX7 yX7_mixFilters cX7_mixFilters 7 (some .long) 1 := ⟨⟨tw_3_186, tv_X7_mixFilters, tw_1_1, tw_3_187⟩, by decide +kernel⟩
def pX7_mixFilters_22 : Nat → Int64 → Int32 → fw_T → Option (Int64 × fw_T)
  | 0, _, _, _ => none
  | n + 1, x4, x6, σ =>
    if (fw_g σ 17 4) ≤ x6 then
      some (x4, σ)
    else
      if (6 : Int32) ≤ x6 then
        some (x4, σ)
      else
        (fw_rd σ 18 6 x6).bind fun w4 =>
        fw_b2 (pX7_mix x4 (w4.toInt64) σ) fun w8 τ7 =>
        (fw_rd τ7 19 6 x6).bind fun w9 =>
        fw_b2 (pX7_mix w8 (w9.toInt64) τ7) fun w13 τ12 =>
        (fw_rd τ12 20 6 x6).bind fun w14 =>
        fw_b2 (pX7_mix w13 (w14.toInt64) τ12) fun w18 τ17 =>
        (fw_rd τ17 21 6 x6).bind fun w19 =>
        fw_b2 (pX7_mix w18 (w19.toInt64) τ17) fun w23 τ22 =>
        fw_b2 (pX3_countAccepted x6 τ22) fun w26 τ25 =>
        fw_b2 (pX7_mix w23 (w26.toInt64) τ25) fun w29 τ28 =>
        pX7_mixFilters_22 n w29 (x6 + (1 : Int32)) τ28
set_option maxRecDepth 100000 in
set_option maxHeartbeats 4000000 in
theorem wX7_mixFilters_22 {args : Array Value} {r : Int64} {σ' : fw_T} (X : fcX p m c cX7_mixFilters 7 s args RX7 meth (some .long) D cI cO)  : ∀ (n : Nat), ∀ (x4 : Int64), ∀ (x6 : Int32), ∀ (σ : fw_T), pX7_mixFilters_22 n x4 x6 σ = some (r, σ') → ∀ (H : Heap) (locs : List Loc) (ls : Array Slot), fcH D cI cO adr A s H locs σ → lv_has ls 7 [(0, .ref (adr 0)), (3, .ref (adr 17)), (4, .long x4), (6, .int x6)] → W p l e rmX7_mixFilters s m args below meth c H locs 0 0 (fw_Ql D 96 adr (fw_C cI cO adr) A below args s r σ') (F0 m 22 ls []) := by
  have hx := X.1.1
  have hb := X.1.2.1
  intro n
  induction n with
  | zero =>
    intro x4 x6 σ hf
    exact absurd hf (by simp [pX7_mixFilters_22])
  | succ n ih =>
    intro x4 x6 σ hf H locs ls hH hl
    rw [pX7_mixFilters_22] at hf
    refine lv_iload hx hb dX7_mixFilters_22 (lv_at hl 3 rfl) ?_
    refine lv_aload_n hx hb dX7_mixFilters_24 rfl (lv_at hl 1 rfl) ?_
    refine fw_getN (id := 17) (k := 4) (v := .int (fw_g σ 17 4)) X hH (by decide) (fc_15 (by decide)) rfl inX0 (by decide) rfl nw_1_71 dX7_mixFilters_25 ?_
    refine lv_icmp_ge (tgt := 121) hx hb dX7_mixFilters_28 (by decide) (fun hc => ?_) (fun hc => ?_)
    · have hf := fw_pos hc hf
      refine lv_lload hx hb dX7_mixFilters_121 (lv_at hl 2 rfl) ?_
      obtain ⟨rfl, rfl⟩ := fw_s2 hf
      exact fw_retl X hH dX7_mixFilters_123
    · have hf := fw_neg hc hf
      refine lv_iload hx hb dX7_mixFilters_31 (lv_at hl 3 rfl) ?_
      refine lv_bipush (v := (6 : Int32)) hx hb dX7_mixFilters_33 (by decide) ?_
      refine lv_icmp_ge (tgt := 121) hx hb dX7_mixFilters_35 (by decide) (fun hc => ?_) (fun hc => ?_)
      · have hf := fw_pos hc hf
        refine lv_lload hx hb dX7_mixFilters_121 (lv_at hl 2 rfl) ?_
        obtain ⟨rfl, rfl⟩ := fw_s2 hf
        exact fw_retl X hH dX7_mixFilters_123
      · have hf := fw_neg hc hf
        refine lv_lload hx hb dX7_mixFilters_38 (lv_at hl 2 rfl) ?_
        refine lv_aload_n hx hb dX7_mixFilters_40 rfl (lv_at hl 1 rfl) ?_
        refine fw_getN (id := 17) (k := 0) (v := .ref (adr 18)) X hH (by decide) (fc_15 (by decide)) rfl inX0 (by decide) rfl nw_1_63 dX7_mixFilters_41 ?_
        refine lv_iload hx hb dX7_mixFilters_44 (lv_at hl 3 rfl) ?_
        obtain ⟨w4, g5, hf⟩ := fw_bd hf
        refine fw_iald (id := 18) (n := 6) X hH (by decide) (fc_16 (by decide)) rfl g5 dX7_mixFilters_46 ?_
        refine lv_i2l (v := (w4.toInt64)) hx hb dX7_mixFilters_47 rfl ?_
        obtain ⟨w8, τ7, g6, hf⟩ := fw_b2s hf
        refine fw_cl hH (fw_rS (As := [.long x4, .long (w4.toInt64)]) (rest := []) X hH (kX7_mix  g6 _) qX7_mix tw_3_177 ⟨Nat.le_of_ble_eq_true rfl, Nat.le_of_ble_eq_true rfl⟩ rfl rfl rfl hl.1 rfl (Nat.le_of_ble_eq_true rfl) dX7_mixFilters_48) (fun H locs hH => ?_)
        refine lv_lstore (lv' := [(4, .long w8), (0, .ref (adr 0)), (3, .ref (adr 17)), (6, .int x6)]) hx hb dX7_mixFilters_51 hl (by decide) rfl (fun ls hl => ?_)
        refine lv_lload hx hb dX7_mixFilters_53 (lv_at hl 0 rfl) ?_
        refine lv_aload_n hx hb dX7_mixFilters_55 rfl (lv_at hl 2 rfl) ?_
        refine fw_getN (id := 17) (k := 1) (v := .ref (adr 19)) X hH (by decide) (fc_15 (by decide)) rfl inX0 (by decide) rfl nw_1_65 dX7_mixFilters_56 ?_
        refine lv_iload hx hb dX7_mixFilters_59 (lv_at hl 3 rfl) ?_
        obtain ⟨w9, g10, hf⟩ := fw_bd hf
        refine fw_iald (id := 19) (n := 6) X hH (by decide) (fc_16 (by decide)) rfl g10 dX7_mixFilters_61 ?_
        refine lv_i2l (v := (w9.toInt64)) hx hb dX7_mixFilters_62 rfl ?_
        obtain ⟨w13, τ12, g11, hf⟩ := fw_b2s hf
        refine fw_cl hH (fw_rS (As := [.long w8, .long (w9.toInt64)]) (rest := []) X hH (kX7_mix  g11 _) qX7_mix tw_3_177 ⟨Nat.le_of_ble_eq_true rfl, Nat.le_of_ble_eq_true rfl⟩ rfl rfl rfl hl.1 rfl (Nat.le_of_ble_eq_true rfl) dX7_mixFilters_63) (fun H locs hH => ?_)
        refine lv_lstore (lv' := [(4, .long w13), (0, .ref (adr 0)), (3, .ref (adr 17)), (6, .int x6)]) hx hb dX7_mixFilters_66 hl (by decide) rfl (fun ls hl => ?_)
        refine lv_lload hx hb dX7_mixFilters_68 (lv_at hl 0 rfl) ?_
        refine lv_aload_n hx hb dX7_mixFilters_70 rfl (lv_at hl 2 rfl) ?_
        refine fw_getN (id := 17) (k := 2) (v := .ref (adr 20)) X hH (by decide) (fc_15 (by decide)) rfl inX0 (by decide) rfl nw_1_67 dX7_mixFilters_71 ?_
        refine lv_iload hx hb dX7_mixFilters_74 (lv_at hl 3 rfl) ?_
        obtain ⟨w14, g15, hf⟩ := fw_bd hf
        refine fw_iald (id := 20) (n := 6) X hH (by decide) (fc_16 (by decide)) rfl g15 dX7_mixFilters_76 ?_
        refine lv_i2l (v := (w14.toInt64)) hx hb dX7_mixFilters_77 rfl ?_
        obtain ⟨w18, τ17, g16, hf⟩ := fw_b2s hf
        refine fw_cl hH (fw_rS (As := [.long w13, .long (w14.toInt64)]) (rest := []) X hH (kX7_mix  g16 _) qX7_mix tw_3_177 ⟨Nat.le_of_ble_eq_true rfl, Nat.le_of_ble_eq_true rfl⟩ rfl rfl rfl hl.1 rfl (Nat.le_of_ble_eq_true rfl) dX7_mixFilters_78) (fun H locs hH => ?_)
        refine lv_lstore (lv' := [(4, .long w18), (0, .ref (adr 0)), (3, .ref (adr 17)), (6, .int x6)]) hx hb dX7_mixFilters_81 hl (by decide) rfl (fun ls hl => ?_)
        refine lv_lload hx hb dX7_mixFilters_83 (lv_at hl 0 rfl) ?_
        refine lv_aload_n hx hb dX7_mixFilters_85 rfl (lv_at hl 2 rfl) ?_
        refine fw_getN (id := 17) (k := 3) (v := .ref (adr 21)) X hH (by decide) (fc_15 (by decide)) rfl inX0 (by decide) rfl nw_1_69 dX7_mixFilters_86 ?_
        refine lv_iload hx hb dX7_mixFilters_89 (lv_at hl 3 rfl) ?_
        obtain ⟨w19, g20, hf⟩ := fw_bd hf
        refine fw_iald (id := 21) (n := 6) X hH (by decide) (fc_16 (by decide)) rfl g20 dX7_mixFilters_91 ?_
        refine lv_i2l (v := (w19.toInt64)) hx hb dX7_mixFilters_92 rfl ?_
        obtain ⟨w23, τ22, g21, hf⟩ := fw_b2s hf
        refine fw_cl hH (fw_rS (As := [.long w18, .long (w19.toInt64)]) (rest := []) X hH (kX7_mix  g21 _) qX7_mix tw_3_177 ⟨Nat.le_of_ble_eq_true rfl, Nat.le_of_ble_eq_true rfl⟩ rfl rfl rfl hl.1 rfl (Nat.le_of_ble_eq_true rfl) dX7_mixFilters_93) (fun H locs hH => ?_)
        refine lv_lstore (lv' := [(4, .long w23), (0, .ref (adr 0)), (3, .ref (adr 17)), (6, .int x6)]) hx hb dX7_mixFilters_96 hl (by decide) rfl (fun ls hl => ?_)
        refine lv_lload hx hb dX7_mixFilters_98 (lv_at hl 0 rfl) ?_
        refine lv_aload_n hx hb dX7_mixFilters_100 rfl (lv_at hl 1 rfl) ?_
        refine fw_get (id := 0) (k := 0) (v := .ref (adr 1)) X hH (by decide) (fc_0 (by decide)) rfl inX7 (by decide) rfl tw_1_177 dX7_mixFilters_101 ?_
        refine lv_iload hx hb dX7_mixFilters_104 (lv_at hl 3 rfl) ?_
        obtain ⟨w26, τ25, g24, hf⟩ := fw_b2s hf
        refine fw_ci hH (fw_rV (As := [.int x6]) (rest := [.long w23]) (id := 1) X hH (kX3_countAccepted  g24 _) qX3_countAccepted tw_2_94 ⟨Nat.le_of_ble_eq_true rfl, Nat.le_of_ble_eq_true rfl⟩ rfl rfl (by decide) (fc_1 (by decide)) rfl rfl hl.1 rfl (Nat.le_of_ble_eq_true rfl) dX7_mixFilters_106) (fun H locs hH => ?_)
        refine lv_i2l (v := (w26.toInt64)) hx hb dX7_mixFilters_109 rfl ?_
        obtain ⟨w29, τ28, g27, hf⟩ := fw_b2s hf
        refine fw_cl hH (fw_rS (As := [.long w23, .long (w26.toInt64)]) (rest := []) X hH (kX7_mix  g27 _) qX7_mix tw_3_177 ⟨Nat.le_of_ble_eq_true rfl, Nat.le_of_ble_eq_true rfl⟩ rfl rfl rfl hl.1 rfl (Nat.le_of_ble_eq_true rfl) dX7_mixFilters_110) (fun H locs hH => ?_)
        refine lv_lstore (lv' := [(4, .long w29), (0, .ref (adr 0)), (3, .ref (adr 17)), (6, .int x6)]) hx hb dX7_mixFilters_113 hl (by decide) rfl (fun ls hl => ?_)
        refine lv_iinc (v := (x6 + (1 : Int32))) (lv' := [(6, .int (x6 + (1 : Int32))), (4, .long w29), (0, .ref (adr 0)), (3, .ref (adr 17))]) hx hb dX7_mixFilters_115 hl (k := 3) rfl rfl (by decide) rfl (fun ls hl => ?_)
        refine lv_goto (tgt := 22) hx hb dX7_mixFilters_118 (by decide) ?_
        exact ih w29 (x6 + (1 : Int32)) τ28 hf _ _ _ hH (lv_sub hl [2, 3, 1, 0] rfl)
def pX7_mixFilters (x1 : Int64) (σ : fw_T) : Option (Int64 × fw_T) :=
  fw_b2 (pX7_mix x1 ((fw_g σ 17 4).toInt64) σ) fun w3 τ2 =>
  pX7_mixFilters_22 400 w3 (0 : Int32) τ2
set_option maxRecDepth 100000 in
set_option maxHeartbeats 4000000 in
theorem kX7_mixFilters {x1 : Int64} {r : Int64} {σ σ' : fw_T} (hf : pX7_mixFilters x1 σ = some (r, σ')) : fw_Cl l yX7_mixFilters (Cond.code yX7_mixFilters cX7_mixFilters 7 (some .long) :: lwT) rmX7_mixFilters [.ref (adr 0), .long x1] D 96 adr (fw_C cI cO adr) (fcT cI cO) nwC σ r σ' := by
  refine fw_start (Qc := (fun A => va_Ql (fun r' (_ : Unit) => r' = r) (fun _ t => va_P D vwCl (fw_ws 96 adr (fw_C cI cO adr σ')) t.heap) A)) (by decide) (by simp [lg_sl, Value.category]) rfl ?_
  intro p e s m below meth c A X hH ls hl
  have hx := X.1.1
  have hb := X.1.2.1
  have hl : lv_has ls 7 [(0, .ref (adr 0)), (1, .long x1)] := hl
  unfold pX7_mixFilters at hf
  refine lv_aload_n hx hb dX7_mixFilters_0 rfl (lv_at hl 0 rfl) ?_
  refine fw_get (id := 0) (k := 1) (v := .ref (adr 12)) X hH (by decide) (fc_0 (by decide)) rfl inX7 (by decide) rfl tw_1_178 dX7_mixFilters_1 ?_
  refine fw_getN (id := 12) (k := 2) (v := .ref (adr 17)) X hH (by decide) (fc_12 (by decide)) rfl inX5 (by decide) rfl nw_1_92 dX7_mixFilters_4 ?_
  refine lv_astore_n (lv' := [(3, .ref (adr 17)), (0, .ref (adr 0)), (1, .long x1)]) hx hb dX7_mixFilters_7 rfl hl (by decide) rfl (fun ls hl => ?_)
  refine lv_lload_n hx hb dX7_mixFilters_8 rfl (lv_at hl 2 rfl) ?_
  refine lv_aload_n hx hb dX7_mixFilters_9 rfl (lv_at hl 0 rfl) ?_
  refine fw_getN (id := 17) (k := 4) (v := .int (fw_g σ 17 4)) X hH (by decide) (fc_15 (by decide)) rfl inX0 (by decide) rfl nw_1_71 dX7_mixFilters_10 ?_
  refine lv_i2l (v := ((fw_g σ 17 4).toInt64)) hx hb dX7_mixFilters_13 rfl ?_
  obtain ⟨w3, τ2, g1, hf⟩ := fw_b2s hf
  refine fw_cl hH (fw_rS (As := [.long x1, .long ((fw_g σ 17 4).toInt64)]) (rest := []) X hH (kX7_mix  g1 _) qX7_mix tw_3_177 ⟨Nat.le_of_ble_eq_true rfl, Nat.le_of_ble_eq_true rfl⟩ rfl rfl rfl hl.1 rfl (Nat.le_of_ble_eq_true rfl) dX7_mixFilters_14) (fun H locs hH => ?_)
  refine lv_lstore (lv' := [(4, .long w3), (3, .ref (adr 17)), (0, .ref (adr 0)), (1, .long x1)]) hx hb dX7_mixFilters_17 hl (by decide) rfl (fun ls hl => ?_)
  refine lv_iconst (v := (0 : Int32)) hx hb dX7_mixFilters_19 (by decide) ?_
  refine lv_istore (lv' := [(6, .int (0 : Int32)), (4, .long w3), (3, .ref (adr 17)), (0, .ref (adr 0)), (1, .long x1)]) hx hb dX7_mixFilters_20 hl (by decide) rfl (fun ls hl => ?_)
  exact wX7_mixFilters_22 X 400 w3 (0 : Int32) τ2 hf _ _ _ hH (lv_sub hl [3, 2, 1, 0] rfl)
abbrev rmX7_mixAnswers : Room := { frames := 5, cells := 0, slots := 0, locals := 120 }
theorem qX7_mixAnswers : fw_QV RX7 yX7_mixAnswers cX7_mixAnswers 6 (some .long) 1 := ⟨⟨tw_3_190, tv_X7_mixAnswers, tw_1_1, tw_3_191⟩, by decide +kernel⟩
def pX7_mixAnswers_16 : Nat → Int64 → Int32 → fw_T → Option (Int64 × fw_T)
  | 0, _, _, _ => none
  | n + 1, x3, x5, σ =>
    if (100 : Int32) ≤ x5 then
      some (x3, σ)
    else
      (fw_rd σ 10 100 x5).bind fun w7 =>
      if w7 ≤ 0 then
        pX7_mixAnswers_16 n x3 (x5 + (1 : Int32)) σ
      else
        fw_b2 (pX7_mix x3 (x5.toInt64) σ) fun w11 τ10 =>
        pX7_mixAnswers_16 n w11 (x5 + (1 : Int32)) τ10
set_option maxRecDepth 100000 in
set_option maxHeartbeats 4000000 in
theorem wX7_mixAnswers_16 {args : Array Value} {r : Int64} {σ' : fw_T} (X : fcX p m c cX7_mixAnswers 6 s args RX7 meth (some .long) D cI cO)  : ∀ (n : Nat), ∀ (x3 : Int64), ∀ (x5 : Int32), ∀ (σ : fw_T), pX7_mixAnswers_16 n x3 x5 σ = some (r, σ') → ∀ (H : Heap) (locs : List Loc) (ls : Array Slot), fcH D cI cO adr A s H locs σ → lv_has ls 6 [(0, .ref (adr 0)), (3, .long x3), (5, .int x5)] → W p l e rmX7_mixAnswers s m args below meth c H locs 0 0 (fw_Ql D 96 adr (fw_C cI cO adr) A below args s r σ') (F0 m 16 ls []) := by
  have hx := X.1.1
  have hb := X.1.2.1
  intro n
  induction n with
  | zero =>
    intro x3 x5 σ hf
    exact absurd hf (by simp [pX7_mixAnswers_16])
  | succ n ih =>
    intro x3 x5 σ hf H locs ls hH hl
    rw [pX7_mixAnswers_16] at hf
    refine lv_iload hx hb dX7_mixAnswers_16 (lv_at hl 2 rfl) ?_
    refine lv_bipush (v := (100 : Int32)) hx hb dX7_mixAnswers_18 (by decide) ?_
    refine lv_icmp_ge (tgt := 50) hx hb dX7_mixAnswers_20 (by decide) (fun hc => ?_) (fun hc => ?_)
    · have hf := fw_pos hc hf
      refine lv_lload_n hx hb dX7_mixAnswers_50 rfl (lv_at hl 1 rfl) ?_
      obtain ⟨rfl, rfl⟩ := fw_s2 hf
      exact fw_retl X hH dX7_mixAnswers_51
    · have hf := fw_neg hc hf
      refine lv_aload_n hx hb dX7_mixAnswers_23 rfl (lv_at hl 0 rfl) ?_
      refine fw_get (id := 0) (k := 0) (v := .ref (adr 1)) X hH (by decide) (fc_0 (by decide)) rfl inX7 (by decide) rfl tw_1_177 dX7_mixAnswers_24 ?_
      refine fw_getN (id := 1) (k := 1) (v := .ref (adr 10)) X hH (by decide) (fc_1 (by decide)) rfl inX3 (by decide) rfl nw_1_108 dX7_mixAnswers_27 ?_
      refine lv_iload hx hb dX7_mixAnswers_30 (lv_at hl 2 rfl) ?_
      obtain ⟨w7, g8, hf⟩ := fw_bd hf
      refine fw_iald (id := 10) (n := 100) X hH (by decide) (fc_10 (by decide)) rfl g8 dX7_mixAnswers_32 ?_
      refine lv_if_le (tgt := 44) hx hb dX7_mixAnswers_33 (by decide) (fun hc => ?_) (fun hc => ?_)
      · have hf := fw_pos hc hf
        refine lv_iinc (v := (x5 + (1 : Int32))) (lv' := [(5, .int (x5 + (1 : Int32))), (0, .ref (adr 0)), (3, .long x3)]) hx hb dX7_mixAnswers_44 hl (k := 2) rfl rfl (by decide) rfl (fun ls hl => ?_)
        refine lv_goto (tgt := 16) hx hb dX7_mixAnswers_47 (by decide) ?_
        exact ih x3 (x5 + (1 : Int32)) σ hf _ _ _ hH (lv_sub hl [1, 2, 0] rfl)
      · have hf := fw_neg hc hf
        refine lv_lload_n hx hb dX7_mixAnswers_36 rfl (lv_at hl 1 rfl) ?_
        refine lv_iload hx hb dX7_mixAnswers_37 (lv_at hl 2 rfl) ?_
        refine lv_i2l (v := (x5.toInt64)) hx hb dX7_mixAnswers_39 rfl ?_
        obtain ⟨w11, τ10, g9, hf⟩ := fw_b2s hf
        refine fw_cl hH (fw_rS (As := [.long x3, .long (x5.toInt64)]) (rest := []) X hH (kX7_mix  g9 _) qX7_mix tw_3_177 ⟨Nat.le_of_ble_eq_true rfl, Nat.le_of_ble_eq_true rfl⟩ rfl rfl rfl hl.1 rfl (Nat.le_of_ble_eq_true rfl) dX7_mixAnswers_40) (fun H locs hH => ?_)
        refine lv_lstore_n (lv' := [(3, .long w11), (0, .ref (adr 0)), (5, .int x5)]) hx hb dX7_mixAnswers_43 rfl hl (by decide) rfl (fun ls hl => ?_)
        refine lv_iinc (v := (x5 + (1 : Int32))) (lv' := [(5, .int (x5 + (1 : Int32))), (3, .long w11), (0, .ref (adr 0))]) hx hb dX7_mixAnswers_44 hl (k := 2) rfl rfl (by decide) rfl (fun ls hl => ?_)
        refine lv_goto (tgt := 16) hx hb dX7_mixAnswers_47 (by decide) ?_
        exact ih w11 (x5 + (1 : Int32)) τ10 hf _ _ _ hH (lv_sub hl [2, 1, 0] rfl)
def pX7_mixAnswers (x1 : Int64) (σ : fw_T) : Option (Int64 × fw_T) :=
  fw_b2 (pX3_countAnswers σ) fun w3 τ2 =>
  fw_b2 (pX7_mix x1 (w3.toInt64) τ2) fun w6 τ5 =>
  pX7_mixAnswers_16 400 w6 (0 : Int32) τ5
set_option maxRecDepth 100000 in
set_option maxHeartbeats 4000000 in
theorem kX7_mixAnswers {x1 : Int64} {r : Int64} {σ σ' : fw_T} (hf : pX7_mixAnswers x1 σ = some (r, σ')) : fw_Cl l yX7_mixAnswers (Cond.code yX7_mixAnswers cX7_mixAnswers 6 (some .long) :: lwT) rmX7_mixAnswers [.ref (adr 0), .long x1] D 96 adr (fw_C cI cO adr) (fcT cI cO) nwC σ r σ' := by
  refine fw_start (Qc := (fun A => va_Ql (fun r' (_ : Unit) => r' = r) (fun _ t => va_P D vwCl (fw_ws 96 adr (fw_C cI cO adr σ')) t.heap) A)) (by decide) (by simp [lg_sl, Value.category]) rfl ?_
  intro p e s m below meth c A X hH ls hl
  have hx := X.1.1
  have hb := X.1.2.1
  have hl : lv_has ls 6 [(0, .ref (adr 0)), (1, .long x1)] := hl
  unfold pX7_mixAnswers at hf
  refine lv_lload_n hx hb dX7_mixAnswers_0 rfl (lv_at hl 1 rfl) ?_
  refine lv_aload_n hx hb dX7_mixAnswers_1 rfl (lv_at hl 0 rfl) ?_
  refine fw_get (id := 0) (k := 0) (v := .ref (adr 1)) X hH (by decide) (fc_0 (by decide)) rfl inX7 (by decide) rfl tw_1_177 dX7_mixAnswers_2 ?_
  obtain ⟨w3, τ2, g1, hf⟩ := fw_b2s hf
  refine fw_ci hH (fw_rV (As := []) (rest := [.long x1]) (id := 1) X hH (kX3_countAnswers  g1 _) qX3_countAnswers tw_2_137 ⟨Nat.le_of_ble_eq_true rfl, Nat.le_of_ble_eq_true rfl⟩ rfl rfl (by decide) (fc_1 (by decide)) rfl rfl hl.1 rfl (Nat.le_of_ble_eq_true rfl) dX7_mixAnswers_5) (fun H locs hH => ?_)
  refine lv_i2l (v := (w3.toInt64)) hx hb dX7_mixAnswers_8 rfl ?_
  obtain ⟨w6, τ5, g4, hf⟩ := fw_b2s hf
  refine fw_cl hH (fw_rS (As := [.long x1, .long (w3.toInt64)]) (rest := []) X hH (kX7_mix  g4 _) qX7_mix tw_3_177 ⟨Nat.le_of_ble_eq_true rfl, Nat.le_of_ble_eq_true rfl⟩ rfl rfl rfl hl.1 rfl (Nat.le_of_ble_eq_true rfl) dX7_mixAnswers_9) (fun H locs hH => ?_)
  refine lv_lstore_n (lv' := [(3, .long w6), (0, .ref (adr 0)), (1, .long x1)]) hx hb dX7_mixAnswers_12 rfl hl (by decide) rfl (fun ls hl => ?_)
  refine lv_iconst (v := (0 : Int32)) hx hb dX7_mixAnswers_13 (by decide) ?_
  refine lv_istore (lv' := [(5, .int (0 : Int32)), (3, .long w6), (0, .ref (adr 0)), (1, .long x1)]) hx hb dX7_mixAnswers_14 hl (by decide) rfl (fun ls hl => ?_)
  exact wX7_mixAnswers_16 X 400 w6 (0 : Int32) τ5 hf _ _ _ hH (lv_sub hl [2, 1, 0] rfl)
abbrev rmX7_mixWishes : Room := { frames := 5, cells := 0, slots := 0, locals := 126 }
theorem qX7_mixWishes : fw_QV RX7 yX7_mixWishes cX7_mixWishes 10 (some .long) 1 := ⟨⟨tw_3_194, tv_X7_mixWishes, tw_1_1, tw_3_195⟩, by decide +kernel⟩
def pX7_mixWishes_22 : Nat → Int64 → Int32 → fw_T → Option (Int64 × fw_T)
  | 0, _, _, _ => none
  | n + 1, x4, x6, σ =>
    if (fw_g σ 22 2) ≤ x6 then
      some (x4, σ)
    else
      fw_b2 (pX2_pairAt 22 x6 σ) fun w6 τ5 =>
      fw_b2 (pX7_mix x4 (w6.toInt64) τ5) fun w9 τ8 =>
      fw_b2 (pX3_firstCause (w6 / (10 : Int32)) (w6 - w6 / (10 : Int32) * (10 : Int32)) τ8) fun w12 τ11 =>
      fw_b2 (pX7_mix w9 (w12.toInt64) τ11) fun w15 τ14 =>
      fw_b2 (pX3_smallestRemoval (w6 / (10 : Int32)) (w6 - w6 / (10 : Int32) * (10 : Int32)) τ14) fun w18 τ17 =>
      fw_b2 (pX7_mix w15 (w18.toInt64) τ17) fun w21 τ20 =>
      fw_b2 (pX3_lowestCost (w6 / (10 : Int32)) (w6 - w6 / (10 : Int32) * (10 : Int32)) τ20) fun w24 τ23 =>
      fw_b2 (pX7_mix w21 (w24.toInt64) τ23) fun w27 τ26 =>
      fw_b2 (pX3_bToInsert (w6 / (10 : Int32)) (w6 - w6 / (10 : Int32) * (10 : Int32)) τ26) fun w30 τ29 =>
      fw_b2 (pX7_mix w27 (w30.toInt64) τ29) fun w33 τ32 =>
      pX7_mixWishes_22 n w33 (x6 + (1 : Int32)) τ32
set_option maxRecDepth 100000 in
set_option maxHeartbeats 4000000 in
theorem wX7_mixWishes_22 {args : Array Value} {r : Int64} {σ' : fw_T} (X : fcX p m c cX7_mixWishes 10 s args RX7 meth (some .long) D cI cO)  : ∀ (n : Nat), ∀ (x4 : Int64), ∀ (x6 : Int32), ∀ (σ : fw_T), pX7_mixWishes_22 n x4 x6 σ = some (r, σ') → ∀ (H : Heap) (locs : List Loc) (ls : Array Slot), fcH D cI cO adr A s H locs σ → lv_has ls 10 [(0, .ref (adr 0)), (3, .ref (adr 22)), (4, .long x4), (6, .int x6)] → W p l e rmX7_mixWishes s m args below meth c H locs 0 0 (fw_Ql D 96 adr (fw_C cI cO adr) A below args s r σ') (F0 m 22 ls []) := by
  have hx := X.1.1
  have hb := X.1.2.1
  intro n
  induction n with
  | zero =>
    intro x4 x6 σ hf
    exact absurd hf (by simp [pX7_mixWishes_22])
  | succ n ih =>
    intro x4 x6 σ hf H locs ls hH hl
    rw [pX7_mixWishes_22] at hf
    refine lv_iload hx hb dX7_mixWishes_22 (lv_at hl 3 rfl) ?_
    refine lv_aload_n hx hb dX7_mixWishes_24 rfl (lv_at hl 1 rfl) ?_
    refine fw_getN (id := 22) (k := 2) (v := .int (fw_g σ 22 2)) X hH (by decide) (fc_13 (by decide)) rfl inX2 (by decide) rfl nw_1_47 dX7_mixWishes_25 ?_
    refine lv_icmp_ge (tgt := 145) hx hb dX7_mixWishes_28 (by decide) (fun hc => ?_) (fun hc => ?_)
    · have hf := fw_pos hc hf
      refine lv_lload hx hb dX7_mixWishes_145 (lv_at hl 2 rfl) ?_
      obtain ⟨rfl, rfl⟩ := fw_s2 hf
      exact fw_retl X hH dX7_mixWishes_147
    · have hf := fw_neg hc hf
      refine lv_aload_n hx hb dX7_mixWishes_31 rfl (lv_at hl 1 rfl) ?_
      refine lv_iload hx hb dX7_mixWishes_32 (lv_at hl 3 rfl) ?_
      obtain ⟨w6, τ5, g4, hf⟩ := fw_b2s hf
      refine fw_ci hH (fw_rV (As := [.int x6]) (rest := []) (id := 22) X hH (kX2_pairAt (by unfold fw_PL; decide) g4 _) qX2_pairAt tw_2_34 ⟨Nat.le_of_ble_eq_true rfl, Nat.le_of_ble_eq_true rfl⟩ rfl rfl (by decide) (fc_13 (by decide)) rfl rfl hl.1 rfl (Nat.le_of_ble_eq_true rfl) dX7_mixWishes_34) (fun H locs hH => ?_)
      refine lv_istore (lv' := [(7, .int w6), (0, .ref (adr 0)), (3, .ref (adr 22)), (4, .long x4), (6, .int x6)]) hx hb dX7_mixWishes_37 hl (by decide) rfl (fun ls hl => ?_)
      refine lv_iload hx hb dX7_mixWishes_39 (lv_at hl 0 rfl) ?_
      refine lv_bipush (v := (10 : Int32)) hx hb dX7_mixWishes_41 (by decide) ?_
      refine lv_idiv hx hb dX7_mixWishes_43 (by decide) ?_
      refine lv_istore (lv' := [(8, .int (w6 / (10 : Int32))), (7, .int w6), (0, .ref (adr 0)), (3, .ref (adr 22)), (4, .long x4), (6, .int x6)]) hx hb dX7_mixWishes_44 hl (by decide) rfl (fun ls hl => ?_)
      refine lv_iload hx hb dX7_mixWishes_46 (lv_at hl 1 rfl) ?_
      refine lv_bipush (v := (10 : Int32)) hx hb dX7_mixWishes_48 (by decide) ?_
      refine lv_irem hx hb dX7_mixWishes_50 (by decide) ?_
      refine lv_istore (lv' := [(9, .int (w6 - w6 / (10 : Int32) * (10 : Int32))), (8, .int (w6 / (10 : Int32))), (7, .int w6), (0, .ref (adr 0)), (3, .ref (adr 22)), (4, .long x4), (6, .int x6)]) hx hb dX7_mixWishes_51 hl (by decide) rfl (fun ls hl => ?_)
      refine lv_lload hx hb dX7_mixWishes_53 (lv_at hl 5 rfl) ?_
      refine lv_iload hx hb dX7_mixWishes_55 (lv_at hl 2 rfl) ?_
      refine lv_i2l (v := (w6.toInt64)) hx hb dX7_mixWishes_57 rfl ?_
      obtain ⟨w9, τ8, g7, hf⟩ := fw_b2s hf
      refine fw_cl hH (fw_rS (As := [.long x4, .long (w6.toInt64)]) (rest := []) X hH (kX7_mix  g7 _) qX7_mix tw_3_177 ⟨Nat.le_of_ble_eq_true rfl, Nat.le_of_ble_eq_true rfl⟩ rfl rfl rfl hl.1 rfl (Nat.le_of_ble_eq_true rfl) dX7_mixWishes_58) (fun H locs hH => ?_)
      refine lv_lstore (lv' := [(4, .long w9), (9, .int (w6 - w6 / (10 : Int32) * (10 : Int32))), (8, .int (w6 / (10 : Int32))), (7, .int w6), (0, .ref (adr 0)), (3, .ref (adr 22)), (6, .int x6)]) hx hb dX7_mixWishes_61 hl (by decide) rfl (fun ls hl => ?_)
      refine lv_lload hx hb dX7_mixWishes_63 (lv_at hl 0 rfl) ?_
      refine lv_aload_n hx hb dX7_mixWishes_65 rfl (lv_at hl 4 rfl) ?_
      refine fw_get (id := 0) (k := 0) (v := .ref (adr 1)) X hH (by decide) (fc_0 (by decide)) rfl inX7 (by decide) rfl tw_1_177 dX7_mixWishes_66 ?_
      refine lv_iload hx hb dX7_mixWishes_69 (lv_at hl 2 rfl) ?_
      refine lv_iload hx hb dX7_mixWishes_71 (lv_at hl 1 rfl) ?_
      obtain ⟨w12, τ11, g10, hf⟩ := fw_b2s hf
      refine fw_ci hH (fw_rV (As := [.int (w6 / (10 : Int32)), .int (w6 - w6 / (10 : Int32) * (10 : Int32))]) (rest := [.long w9]) (id := 1) X hH (kX3_firstCause  g10 _) qX3_firstCause tw_2_192 ⟨Nat.le_of_ble_eq_true rfl, Nat.le_of_ble_eq_true rfl⟩ rfl rfl (by decide) (fc_1 (by decide)) rfl rfl hl.1 rfl (Nat.le_of_ble_eq_true rfl) dX7_mixWishes_73) (fun H locs hH => ?_)
      refine lv_i2l (v := (w12.toInt64)) hx hb dX7_mixWishes_76 rfl ?_
      obtain ⟨w15, τ14, g13, hf⟩ := fw_b2s hf
      refine fw_cl hH (fw_rS (As := [.long w9, .long (w12.toInt64)]) (rest := []) X hH (kX7_mix  g13 _) qX7_mix tw_3_177 ⟨Nat.le_of_ble_eq_true rfl, Nat.le_of_ble_eq_true rfl⟩ rfl rfl rfl hl.1 rfl (Nat.le_of_ble_eq_true rfl) dX7_mixWishes_77) (fun H locs hH => ?_)
      refine lv_lstore (lv' := [(4, .long w15), (9, .int (w6 - w6 / (10 : Int32) * (10 : Int32))), (8, .int (w6 / (10 : Int32))), (7, .int w6), (0, .ref (adr 0)), (3, .ref (adr 22)), (6, .int x6)]) hx hb dX7_mixWishes_80 hl (by decide) rfl (fun ls hl => ?_)
      refine lv_lload hx hb dX7_mixWishes_82 (lv_at hl 0 rfl) ?_
      refine lv_aload_n hx hb dX7_mixWishes_84 rfl (lv_at hl 4 rfl) ?_
      refine fw_get (id := 0) (k := 0) (v := .ref (adr 1)) X hH (by decide) (fc_0 (by decide)) rfl inX7 (by decide) rfl tw_1_177 dX7_mixWishes_85 ?_
      refine lv_iload hx hb dX7_mixWishes_88 (lv_at hl 2 rfl) ?_
      refine lv_iload hx hb dX7_mixWishes_90 (lv_at hl 1 rfl) ?_
      obtain ⟨w18, τ17, g16, hf⟩ := fw_b2s hf
      refine fw_ci hH (fw_rV (As := [.int (w6 / (10 : Int32)), .int (w6 - w6 / (10 : Int32) * (10 : Int32))]) (rest := [.long w15]) (id := 1) X hH (kX3_smallestRemoval  g16 _) qX3_smallestRemoval tw_2_212 ⟨Nat.le_of_ble_eq_true rfl, Nat.le_of_ble_eq_true rfl⟩ rfl rfl (by decide) (fc_1 (by decide)) rfl rfl hl.1 rfl (Nat.le_of_ble_eq_true rfl) dX7_mixWishes_92) (fun H locs hH => ?_)
      refine lv_i2l (v := (w18.toInt64)) hx hb dX7_mixWishes_95 rfl ?_
      obtain ⟨w21, τ20, g19, hf⟩ := fw_b2s hf
      refine fw_cl hH (fw_rS (As := [.long w15, .long (w18.toInt64)]) (rest := []) X hH (kX7_mix  g19 _) qX7_mix tw_3_177 ⟨Nat.le_of_ble_eq_true rfl, Nat.le_of_ble_eq_true rfl⟩ rfl rfl rfl hl.1 rfl (Nat.le_of_ble_eq_true rfl) dX7_mixWishes_96) (fun H locs hH => ?_)
      refine lv_lstore (lv' := [(4, .long w21), (9, .int (w6 - w6 / (10 : Int32) * (10 : Int32))), (8, .int (w6 / (10 : Int32))), (7, .int w6), (0, .ref (adr 0)), (3, .ref (adr 22)), (6, .int x6)]) hx hb dX7_mixWishes_99 hl (by decide) rfl (fun ls hl => ?_)
      refine lv_lload hx hb dX7_mixWishes_101 (lv_at hl 0 rfl) ?_
      refine lv_aload_n hx hb dX7_mixWishes_103 rfl (lv_at hl 4 rfl) ?_
      refine fw_get (id := 0) (k := 0) (v := .ref (adr 1)) X hH (by decide) (fc_0 (by decide)) rfl inX7 (by decide) rfl tw_1_177 dX7_mixWishes_104 ?_
      refine lv_iload hx hb dX7_mixWishes_107 (lv_at hl 2 rfl) ?_
      refine lv_iload hx hb dX7_mixWishes_109 (lv_at hl 1 rfl) ?_
      obtain ⟨w24, τ23, g22, hf⟩ := fw_b2s hf
      refine fw_ci hH (fw_rV (As := [.int (w6 / (10 : Int32)), .int (w6 - w6 / (10 : Int32) * (10 : Int32))]) (rest := [.long w21]) (id := 1) X hH (kX3_lowestCost  g22 _) qX3_lowestCost tw_3_14 ⟨Nat.le_of_ble_eq_true rfl, Nat.le_of_ble_eq_true rfl⟩ rfl rfl (by decide) (fc_1 (by decide)) rfl rfl hl.1 rfl (Nat.le_of_ble_eq_true rfl) dX7_mixWishes_111) (fun H locs hH => ?_)
      refine lv_i2l (v := (w24.toInt64)) hx hb dX7_mixWishes_114 rfl ?_
      obtain ⟨w27, τ26, g25, hf⟩ := fw_b2s hf
      refine fw_cl hH (fw_rS (As := [.long w21, .long (w24.toInt64)]) (rest := []) X hH (kX7_mix  g25 _) qX7_mix tw_3_177 ⟨Nat.le_of_ble_eq_true rfl, Nat.le_of_ble_eq_true rfl⟩ rfl rfl rfl hl.1 rfl (Nat.le_of_ble_eq_true rfl) dX7_mixWishes_115) (fun H locs hH => ?_)
      refine lv_lstore (lv' := [(4, .long w27), (9, .int (w6 - w6 / (10 : Int32) * (10 : Int32))), (8, .int (w6 / (10 : Int32))), (7, .int w6), (0, .ref (adr 0)), (3, .ref (adr 22)), (6, .int x6)]) hx hb dX7_mixWishes_118 hl (by decide) rfl (fun ls hl => ?_)
      refine lv_lload hx hb dX7_mixWishes_120 (lv_at hl 0 rfl) ?_
      refine lv_aload_n hx hb dX7_mixWishes_122 rfl (lv_at hl 4 rfl) ?_
      refine fw_get (id := 0) (k := 0) (v := .ref (adr 1)) X hH (by decide) (fc_0 (by decide)) rfl inX7 (by decide) rfl tw_1_177 dX7_mixWishes_123 ?_
      refine lv_iload hx hb dX7_mixWishes_126 (lv_at hl 2 rfl) ?_
      refine lv_iload hx hb dX7_mixWishes_128 (lv_at hl 1 rfl) ?_
      obtain ⟨w30, τ29, g28, hf⟩ := fw_b2s hf
      refine fw_ci hH (fw_rV (As := [.int (w6 / (10 : Int32)), .int (w6 - w6 / (10 : Int32) * (10 : Int32))]) (rest := [.long w27]) (id := 1) X hH (kX3_bToInsert  g28 _) qX3_bToInsert tw_3_31 ⟨Nat.le_of_ble_eq_true rfl, Nat.le_of_ble_eq_true rfl⟩ rfl rfl (by decide) (fc_1 (by decide)) rfl rfl hl.1 rfl (Nat.le_of_ble_eq_true rfl) dX7_mixWishes_130) (fun H locs hH => ?_)
      refine lv_i2l (v := (w30.toInt64)) hx hb dX7_mixWishes_133 rfl ?_
      obtain ⟨w33, τ32, g31, hf⟩ := fw_b2s hf
      refine fw_cl hH (fw_rS (As := [.long w27, .long (w30.toInt64)]) (rest := []) X hH (kX7_mix  g31 _) qX7_mix tw_3_177 ⟨Nat.le_of_ble_eq_true rfl, Nat.le_of_ble_eq_true rfl⟩ rfl rfl rfl hl.1 rfl (Nat.le_of_ble_eq_true rfl) dX7_mixWishes_134) (fun H locs hH => ?_)
      refine lv_lstore (lv' := [(4, .long w33), (9, .int (w6 - w6 / (10 : Int32) * (10 : Int32))), (8, .int (w6 / (10 : Int32))), (7, .int w6), (0, .ref (adr 0)), (3, .ref (adr 22)), (6, .int x6)]) hx hb dX7_mixWishes_137 hl (by decide) rfl (fun ls hl => ?_)
      refine lv_iinc (v := (x6 + (1 : Int32))) (lv' := [(6, .int (x6 + (1 : Int32))), (4, .long w33), (9, .int (w6 - w6 / (10 : Int32) * (10 : Int32))), (8, .int (w6 / (10 : Int32))), (7, .int w6), (0, .ref (adr 0)), (3, .ref (adr 22))]) hx hb dX7_mixWishes_139 hl (k := 6) rfl rfl (by decide) rfl (fun ls hl => ?_)
      refine lv_goto (tgt := 22) hx hb dX7_mixWishes_142 (by decide) ?_
      exact ih w33 (x6 + (1 : Int32)) τ32 hf _ _ _ hH (lv_sub hl [5, 6, 1, 0] rfl)
def pX7_mixWishes (x1 : Int64) (σ : fw_T) : Option (Int64 × fw_T) :=
  fw_b2 (pX7_mix x1 ((fw_g σ 22 2).toInt64) σ) fun w3 τ2 =>
  pX7_mixWishes_22 400 w3 (0 : Int32) τ2
set_option maxRecDepth 100000 in
set_option maxHeartbeats 4000000 in
theorem kX7_mixWishes {x1 : Int64} {r : Int64} {σ σ' : fw_T} (hf : pX7_mixWishes x1 σ = some (r, σ')) : fw_Cl l yX7_mixWishes (Cond.code yX7_mixWishes cX7_mixWishes 10 (some .long) :: lwT) rmX7_mixWishes [.ref (adr 0), .long x1] D 96 adr (fw_C cI cO adr) (fcT cI cO) nwC σ r σ' := by
  refine fw_start (Qc := (fun A => va_Ql (fun r' (_ : Unit) => r' = r) (fun _ t => va_P D vwCl (fw_ws 96 adr (fw_C cI cO adr σ')) t.heap) A)) (by decide) (by simp [lg_sl, Value.category]) rfl ?_
  intro p e s m below meth c A X hH ls hl
  have hx := X.1.1
  have hb := X.1.2.1
  have hl : lv_has ls 10 [(0, .ref (adr 0)), (1, .long x1)] := hl
  unfold pX7_mixWishes at hf
  refine lv_aload_n hx hb dX7_mixWishes_0 rfl (lv_at hl 0 rfl) ?_
  refine fw_get (id := 0) (k := 1) (v := .ref (adr 12)) X hH (by decide) (fc_0 (by decide)) rfl inX7 (by decide) rfl tw_1_178 dX7_mixWishes_1 ?_
  refine fw_getN (id := 12) (k := 3) (v := .ref (adr 22)) X hH (by decide) (fc_12 (by decide)) rfl inX5 (by decide) rfl nw_1_95 dX7_mixWishes_4 ?_
  refine lv_astore_n (lv' := [(3, .ref (adr 22)), (0, .ref (adr 0)), (1, .long x1)]) hx hb dX7_mixWishes_7 rfl hl (by decide) rfl (fun ls hl => ?_)
  refine lv_lload_n hx hb dX7_mixWishes_8 rfl (lv_at hl 2 rfl) ?_
  refine lv_aload_n hx hb dX7_mixWishes_9 rfl (lv_at hl 0 rfl) ?_
  refine fw_getN (id := 22) (k := 2) (v := .int (fw_g σ 22 2)) X hH (by decide) (fc_13 (by decide)) rfl inX2 (by decide) rfl nw_1_47 dX7_mixWishes_10 ?_
  refine lv_i2l (v := ((fw_g σ 22 2).toInt64)) hx hb dX7_mixWishes_13 rfl ?_
  obtain ⟨w3, τ2, g1, hf⟩ := fw_b2s hf
  refine fw_cl hH (fw_rS (As := [.long x1, .long ((fw_g σ 22 2).toInt64)]) (rest := []) X hH (kX7_mix  g1 _) qX7_mix tw_3_177 ⟨Nat.le_of_ble_eq_true rfl, Nat.le_of_ble_eq_true rfl⟩ rfl rfl rfl hl.1 rfl (Nat.le_of_ble_eq_true rfl) dX7_mixWishes_14) (fun H locs hH => ?_)
  refine lv_lstore (lv' := [(4, .long w3), (3, .ref (adr 22)), (0, .ref (adr 0)), (1, .long x1)]) hx hb dX7_mixWishes_17 hl (by decide) rfl (fun ls hl => ?_)
  refine lv_iconst (v := (0 : Int32)) hx hb dX7_mixWishes_19 (by decide) ?_
  refine lv_istore (lv' := [(6, .int (0 : Int32)), (4, .long w3), (3, .ref (adr 22)), (0, .ref (adr 0)), (1, .long x1)]) hx hb dX7_mixWishes_20 hl (by decide) rfl (fun ls hl => ?_)
  exact wX7_mixWishes_22 X 400 w3 (0 : Int32) τ2 hf _ _ _ hH (lv_sub hl [3, 2, 1, 0] rfl)
abbrev rmX7_digest : Room := { frames := 6, cells := 0, slots := 0, locals := 155 }
theorem qX7_digest : fw_QV RX7 yX7_digest cX7_digest 4 (some .long) 0 := ⟨⟨tw_3_173, tw_3_174, tw_1_1, tw_3_175⟩, by decide +kernel⟩
def pX7_digest_6 : Nat → Int64 → Int32 → fw_T → Option (Int64 × fw_T)
  | 0, _, _, _ => none
  | n + 1, x1, x3, σ =>
    if (3 : Int32) ≤ x3 then
      fw_b2 (pX7_mix x1 ((fw_g σ 7 1).toInt64) σ) fun w3 τ2 =>
      fw_b2 (pX7_mix w3 ((fw_g τ2 2 2).toInt64) τ2) fun w6 τ5 =>
      fw_b2 (pX7_mixPairs 13 w6 τ5) fun w9 τ8 =>
      fw_b2 (pX7_mixPairs 15 w9 τ8) fun w12 τ11 =>
      fw_b2 (pX7_mixFilters w12 τ11) fun w15 τ14 =>
      fw_b2 (pX7_mixAnswers w15 τ14) fun w18 τ17 =>
      fw_b2 (pX7_mixWishes w18 τ17) fun w21 τ20 =>
      fw_b2 (pX3_smallestRemovalForWishes τ20) fun w24 τ23 =>
      fw_b2 (pX7_mix w21 (w24.toInt64) τ23) fun w27 τ26 =>
      some (w27, τ26)
    else
      (fw_rd σ 9 3 x3).bind fun w28 =>
      fw_b2 (pX7_mix x1 (w28.toInt64) σ) fun w32 τ31 =>
      pX7_digest_6 n w32 (x3 + (1 : Int32)) τ31
set_option maxRecDepth 100000 in
set_option maxHeartbeats 4000000 in
theorem wX7_digest_6 {args : Array Value} {r : Int64} {σ' : fw_T} (X : fcX p m c cX7_digest 4 s args RX7 meth (some .long) D cI cO)  : ∀ (n : Nat), ∀ (x1 : Int64), ∀ (x3 : Int32), ∀ (σ : fw_T), pX7_digest_6 n x1 x3 σ = some (r, σ') → ∀ (H : Heap) (locs : List Loc) (ls : Array Slot), fcH D cI cO adr A s H locs σ → lv_has ls 4 [(0, .ref (adr 0)), (1, .long x1), (3, .int x3)] → W p l e rmX7_digest s m args below meth c H locs 0 0 (fw_Ql D 96 adr (fw_C cI cO adr) A below args s r σ') (F0 m 6 ls []) := by
  have hx := X.1.1
  have hb := X.1.2.1
  intro n
  induction n with
  | zero =>
    intro x1 x3 σ hf
    exact absurd hf (by simp [pX7_digest_6])
  | succ n ih =>
    intro x1 x3 σ hf H locs ls hH hl
    rw [pX7_digest_6] at hf
    refine lv_iload_n hx hb dX7_digest_6 rfl (lv_at hl 2 rfl) ?_
    refine lv_iconst (v := (3 : Int32)) hx hb dX7_digest_7 (by decide) ?_
    refine lv_icmp_ge (tgt := 29) hx hb dX7_digest_8 (by decide) (fun hc => ?_) (fun hc => ?_)
    · have hf := fw_pos hc hf
      refine lv_lload_n hx hb dX7_digest_29 rfl (lv_at hl 1 rfl) ?_
      refine lv_aload_n hx hb dX7_digest_30 rfl (lv_at hl 0 rfl) ?_
      refine fw_get (id := 0) (k := 4) (v := .ref (adr 7)) X hH (by decide) (fc_0 (by decide)) rfl inX7 (by decide) rfl tw_1_181 dX7_digest_31 ?_
      refine fw_getN (id := 7) (k := 1) (v := .int (fw_g σ 7 1)) X hH (by decide) (fc_7 (by decide)) rfl inX6 (by decide) rfl nw_1_152 dX7_digest_34 ?_
      refine lv_i2l (v := ((fw_g σ 7 1).toInt64)) hx hb dX7_digest_37 rfl ?_
      obtain ⟨w3, τ2, g1, hf⟩ := fw_b2s hf
      refine fw_cl hH (fw_rS (As := [.long x1, .long ((fw_g σ 7 1).toInt64)]) (rest := []) X hH (kX7_mix  g1 _) qX7_mix tw_3_177 ⟨Nat.le_of_ble_eq_true rfl, Nat.le_of_ble_eq_true rfl⟩ rfl rfl rfl hl.1 rfl (Nat.le_of_ble_eq_true rfl) dX7_digest_38) (fun H locs hH => ?_)
      refine lv_lstore_n (lv' := [(1, .long w3), (0, .ref (adr 0)), (3, .int x3)]) hx hb dX7_digest_41 rfl hl (by decide) rfl (fun ls hl => ?_)
      refine lv_lload_n hx hb dX7_digest_42 rfl (lv_at hl 0 rfl) ?_
      refine lv_aload_n hx hb dX7_digest_43 rfl (lv_at hl 1 rfl) ?_
      refine fw_get (id := 0) (k := 2) (v := .ref (adr 2)) X hH (by decide) (fc_0 (by decide)) rfl inX7 (by decide) rfl tw_1_179 dX7_digest_44 ?_
      refine fw_getN (id := 2) (k := 2) (v := .int (fw_g τ2 2 2)) X hH (by decide) (fc_2 (by decide)) rfl inX1 (by decide) rfl nw_1_129 dX7_digest_47 ?_
      refine lv_i2l (v := ((fw_g τ2 2 2).toInt64)) hx hb dX7_digest_50 rfl ?_
      obtain ⟨w6, τ5, g4, hf⟩ := fw_b2s hf
      refine fw_cl hH (fw_rS (As := [.long w3, .long ((fw_g τ2 2 2).toInt64)]) (rest := []) X hH (kX7_mix  g4 _) qX7_mix tw_3_177 ⟨Nat.le_of_ble_eq_true rfl, Nat.le_of_ble_eq_true rfl⟩ rfl rfl rfl hl.1 rfl (Nat.le_of_ble_eq_true rfl) dX7_digest_51) (fun H locs hH => ?_)
      refine lv_lstore_n (lv' := [(1, .long w6), (0, .ref (adr 0)), (3, .int x3)]) hx hb dX7_digest_54 rfl hl (by decide) rfl (fun ls hl => ?_)
      refine lv_lload_n hx hb dX7_digest_55 rfl (lv_at hl 0 rfl) ?_
      refine lv_aload_n hx hb dX7_digest_56 rfl (lv_at hl 1 rfl) ?_
      refine fw_get (id := 0) (k := 1) (v := .ref (adr 12)) X hH (by decide) (fc_0 (by decide)) rfl inX7 (by decide) rfl tw_1_178 dX7_digest_57 ?_
      refine fw_getN (id := 12) (k := 0) (v := .ref (adr 13)) X hH (by decide) (fc_12 (by decide)) rfl inX5 (by decide) rfl nw_1_85 dX7_digest_60 ?_
      obtain ⟨w9, τ8, g7, hf⟩ := fw_b2s hf
      refine fw_cl hH (fw_rS (As := [.long w6, .ref (adr 13)]) (rest := []) X hH (kX7_mixPairs (by unfold fw_PL; decide) g7 _) qX7_mixPairs tw_3_181 ⟨Nat.le_of_ble_eq_true rfl, Nat.le_of_ble_eq_true rfl⟩ rfl rfl rfl hl.1 rfl (Nat.le_of_ble_eq_true rfl) dX7_digest_63) (fun H locs hH => ?_)
      refine lv_lstore_n (lv' := [(1, .long w9), (0, .ref (adr 0)), (3, .int x3)]) hx hb dX7_digest_66 rfl hl (by decide) rfl (fun ls hl => ?_)
      refine lv_lload_n hx hb dX7_digest_67 rfl (lv_at hl 0 rfl) ?_
      refine lv_aload_n hx hb dX7_digest_68 rfl (lv_at hl 1 rfl) ?_
      refine fw_get (id := 0) (k := 1) (v := .ref (adr 12)) X hH (by decide) (fc_0 (by decide)) rfl inX7 (by decide) rfl tw_1_178 dX7_digest_69 ?_
      refine fw_getN (id := 12) (k := 1) (v := .ref (adr 15)) X hH (by decide) (fc_12 (by decide)) rfl inX5 (by decide) rfl nw_1_88 dX7_digest_72 ?_
      obtain ⟨w12, τ11, g10, hf⟩ := fw_b2s hf
      refine fw_cl hH (fw_rS (As := [.long w9, .ref (adr 15)]) (rest := []) X hH (kX7_mixPairs (by unfold fw_PL; decide) g10 _) qX7_mixPairs tw_3_181 ⟨Nat.le_of_ble_eq_true rfl, Nat.le_of_ble_eq_true rfl⟩ rfl rfl rfl hl.1 rfl (Nat.le_of_ble_eq_true rfl) dX7_digest_75) (fun H locs hH => ?_)
      refine lv_lstore_n (lv' := [(1, .long w12), (0, .ref (adr 0)), (3, .int x3)]) hx hb dX7_digest_78 rfl hl (by decide) rfl (fun ls hl => ?_)
      refine lv_aload_n hx hb dX7_digest_79 rfl (lv_at hl 1 rfl) ?_
      refine lv_lload_n hx hb dX7_digest_80 rfl (lv_at hl 0 rfl) ?_
      obtain ⟨w15, τ14, g13, hf⟩ := fw_b2s hf
      refine fw_cl hH (fw_rV (As := [.long w12]) (rest := []) (id := 0) X hH (kX7_mixFilters  g13 _) qX7_mixFilters tw_3_184 ⟨Nat.le_of_ble_eq_true rfl, Nat.le_of_ble_eq_true rfl⟩ rfl rfl (by decide) (fc_0 (by decide)) rfl rfl hl.1 rfl (Nat.le_of_ble_eq_true rfl) dX7_digest_81) (fun H locs hH => ?_)
      refine lv_lstore_n (lv' := [(1, .long w15), (0, .ref (adr 0)), (3, .int x3)]) hx hb dX7_digest_84 rfl hl (by decide) rfl (fun ls hl => ?_)
      refine lv_aload_n hx hb dX7_digest_85 rfl (lv_at hl 1 rfl) ?_
      refine lv_lload_n hx hb dX7_digest_86 rfl (lv_at hl 0 rfl) ?_
      obtain ⟨w18, τ17, g16, hf⟩ := fw_b2s hf
      refine fw_cl hH (fw_rV (As := [.long w15]) (rest := []) (id := 0) X hH (kX7_mixAnswers  g16 _) qX7_mixAnswers tw_3_188 ⟨Nat.le_of_ble_eq_true rfl, Nat.le_of_ble_eq_true rfl⟩ rfl rfl (by decide) (fc_0 (by decide)) rfl rfl hl.1 rfl (Nat.le_of_ble_eq_true rfl) dX7_digest_87) (fun H locs hH => ?_)
      refine lv_lstore_n (lv' := [(1, .long w18), (0, .ref (adr 0)), (3, .int x3)]) hx hb dX7_digest_90 rfl hl (by decide) rfl (fun ls hl => ?_)
      refine lv_aload_n hx hb dX7_digest_91 rfl (lv_at hl 1 rfl) ?_
      refine lv_lload_n hx hb dX7_digest_92 rfl (lv_at hl 0 rfl) ?_
      obtain ⟨w21, τ20, g19, hf⟩ := fw_b2s hf
      refine fw_cl hH (fw_rV (As := [.long w18]) (rest := []) (id := 0) X hH (kX7_mixWishes  g19 _) qX7_mixWishes tw_3_192 ⟨Nat.le_of_ble_eq_true rfl, Nat.le_of_ble_eq_true rfl⟩ rfl rfl (by decide) (fc_0 (by decide)) rfl rfl hl.1 rfl (Nat.le_of_ble_eq_true rfl) dX7_digest_93) (fun H locs hH => ?_)
      refine lv_lstore_n (lv' := [(1, .long w21), (0, .ref (adr 0)), (3, .int x3)]) hx hb dX7_digest_96 rfl hl (by decide) rfl (fun ls hl => ?_)
      refine lv_lload_n hx hb dX7_digest_97 rfl (lv_at hl 0 rfl) ?_
      refine lv_aload_n hx hb dX7_digest_98 rfl (lv_at hl 1 rfl) ?_
      refine fw_get (id := 0) (k := 0) (v := .ref (adr 1)) X hH (by decide) (fc_0 (by decide)) rfl inX7 (by decide) rfl tw_1_177 dX7_digest_99 ?_
      obtain ⟨w24, τ23, g22, hf⟩ := fw_b2s hf
      refine fw_ci hH (fw_rV (As := []) (rest := [.long w21]) (id := 1) X hH (kX3_smallestRemovalForWishes  g22 _) qX3_smallestRemovalForWishes tw_3_80 ⟨Nat.le_of_ble_eq_true rfl, Nat.le_of_ble_eq_true rfl⟩ rfl rfl (by decide) (fc_1 (by decide)) rfl rfl hl.1 rfl (Nat.le_of_ble_eq_true rfl) dX7_digest_102) (fun H locs hH => ?_)
      refine lv_i2l (v := (w24.toInt64)) hx hb dX7_digest_105 rfl ?_
      obtain ⟨w27, τ26, g25, hf⟩ := fw_b2s hf
      refine fw_cl hH (fw_rS (As := [.long w21, .long (w24.toInt64)]) (rest := []) X hH (kX7_mix  g25 _) qX7_mix tw_3_177 ⟨Nat.le_of_ble_eq_true rfl, Nat.le_of_ble_eq_true rfl⟩ rfl rfl rfl hl.1 rfl (Nat.le_of_ble_eq_true rfl) dX7_digest_106) (fun H locs hH => ?_)
      obtain ⟨rfl, rfl⟩ := fw_s2 hf
      exact fw_retl X hH dX7_digest_109
    · have hf := fw_neg hc hf
      refine lv_lload_n hx hb dX7_digest_11 rfl (lv_at hl 1 rfl) ?_
      refine lv_aload_n hx hb dX7_digest_12 rfl (lv_at hl 0 rfl) ?_
      refine fw_get (id := 0) (k := 5) (v := .ref (adr 9)) X hH (by decide) (fc_0 (by decide)) rfl inX7 (by decide) rfl tw_1_182 dX7_digest_13 ?_
      refine lv_iload_n hx hb dX7_digest_16 rfl (lv_at hl 2 rfl) ?_
      obtain ⟨w28, g29, hf⟩ := fw_bd hf
      refine fw_iald (id := 9) (n := 3) X hH (by decide) (fc_9 (by decide)) rfl g29 dX7_digest_17 ?_
      refine lv_i2l (v := (w28.toInt64)) hx hb dX7_digest_18 rfl ?_
      obtain ⟨w32, τ31, g30, hf⟩ := fw_b2s hf
      refine fw_cl hH (fw_rS (As := [.long x1, .long (w28.toInt64)]) (rest := []) X hH (kX7_mix  g30 _) qX7_mix tw_3_177 ⟨Nat.le_of_ble_eq_true rfl, Nat.le_of_ble_eq_true rfl⟩ rfl rfl rfl hl.1 rfl (Nat.le_of_ble_eq_true rfl) dX7_digest_19) (fun H locs hH => ?_)
      refine lv_lstore_n (lv' := [(1, .long w32), (0, .ref (adr 0)), (3, .int x3)]) hx hb dX7_digest_22 rfl hl (by decide) rfl (fun ls hl => ?_)
      refine lv_iinc (v := (x3 + (1 : Int32))) (lv' := [(3, .int (x3 + (1 : Int32))), (1, .long w32), (0, .ref (adr 0))]) hx hb dX7_digest_23 hl (k := 2) rfl rfl (by decide) rfl (fun ls hl => ?_)
      refine lv_goto (tgt := 6) hx hb dX7_digest_26 (by decide) ?_
      exact ih w32 (x3 + (1 : Int32)) τ31 hf _ _ _ hH (lv_sub hl [2, 1, 0] rfl)
def pX7_digest (σ : fw_T) : Option (Int64 × fw_T) :=
  pX7_digest_6 400 (18084 : Int64) (0 : Int32) σ
set_option maxRecDepth 100000 in
set_option maxHeartbeats 4000000 in
theorem kX7_digest {r : Int64} {σ σ' : fw_T} (hf : pX7_digest σ = some (r, σ')) : fw_Cl l yX7_digest (Cond.code yX7_digest cX7_digest 4 (some .long) :: lwT) rmX7_digest [.ref (adr 0)] D 96 adr (fw_C cI cO adr) (fcT cI cO) nwC σ r σ' := by
  refine fw_start (Qc := (fun A => va_Ql (fun r' (_ : Unit) => r' = r) (fun _ t => va_P D vwCl (fw_ws 96 adr (fw_C cI cO adr σ')) t.heap) A)) (by decide) (by simp [lg_sl, Value.category]) rfl ?_
  intro p e s m below meth c A X hH ls hl
  have hx := X.1.1
  have hb := X.1.2.1
  have hl : lv_has ls 4 [(0, .ref (adr 0))] := hl
  unfold pX7_digest at hf
  refine lv_ldc2 (v := (18084 : Int64)) hx hb X.1.2.2.2.1 (X.1.2.2.2.2 _ tw_3_176) dX7_digest_0 ?_
  refine lv_lstore_n (lv' := [(1, .long (18084 : Int64)), (0, .ref (adr 0))]) hx hb dX7_digest_3 rfl hl (by decide) rfl (fun ls hl => ?_)
  refine lv_iconst (v := (0 : Int32)) hx hb dX7_digest_4 (by decide) ?_
  refine lv_istore_n (lv' := [(3, .int (0 : Int32)), (1, .long (18084 : Int64)), (0, .ref (adr 0))]) hx hb dX7_digest_5 rfl hl (by decide) rfl (fun ls hl => ?_)
  exact wX7_digest_6 X 400 (18084 : Int64) (0 : Int32) σ hf _ _ _ hH (lv_sub hl [2, 1, 0] rfl)
end
