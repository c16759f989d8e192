section
variable {p : Program} {l : Launch} {e : Env} {s : State} {m : MethodId} {below : List Frame} {meth : Method} {c : Code} {D : va_G} {cI cO cB : ClassId} {adr : Nat → Nat} {A : Nat → Prop}
abbrev rmX3_costOf : Room := { frames := 1, cells := 0, slots := 0, locals := 24 }
theorem qX3_costOf : fw_QV RX3 yX3_costOf cX3_costOf 4 (some .int) 3 := ⟨⟨tw_3_24, tv_X3_costOf, tw_1_2, tw_3_25⟩, by decide +kernel⟩
def pX3_costOf_20 (x2 : Int32) (x3 : Int32) (y0 : Int32) (σ : fw_T) : Option (Int32 × fw_T) :=
  fw_b2 (pX2_holds 15 x2 x3 σ) fun w6 τ5 =>
  if w6 = 0 then
    some ((y0 + (1 : Int32)), τ5)
  else
    some ((y0 + (0 : Int32)), τ5)
set_option maxRecDepth 100000 in
set_option maxHeartbeats 4000000 in
theorem wX3_costOf_20 {args : Array Value} {r : Int32} {σ' : fw_T} (X : fcX p m c cX3_costOf 4 s args RX3 meth (some .int) D cI cO)  : ∀ (x2 : Int32), ∀ (x3 : Int32), ∀ (y0 : Int32), ∀ (σ : fw_T), pX3_costOf_20 x2 x3 y0 σ = some (r, σ') → ∀ (H : Heap) (locs : List Loc) (ls : Array Slot), fcH D cI cO adr A s H locs σ → lv_has ls 4 [(0, .ref (adr 1)), (2, .int x2), (3, .int x3)] → W p l e rmX3_costOf s m args below meth c H locs 0 0 (fw_Qi D 96 adr (fw_C cI cO adr) A below args s r σ') (F0 m 20 ls [.int y0]) := by
  have hx := X.1.1
  have hb := X.1.2.1
  intro x2 x3 y0 σ hf H locs ls hH hl
  unfold pX3_costOf_20 at hf
  refine lv_aload_n hx hb dX3_costOf_20 rfl (lv_at hl 0 rfl) ?_
  refine fw_get (id := 1) (k := 0) (v := .ref (adr 12)) X hH (by decide) (fc_1 (by decide)) rfl inX3 (by decide) rfl tw_1_105 dX3_costOf_21 ?_
  refine fw_getN (id := 12) (k := 1) (v := .ref (adr 15)) X hH (by decide) (fc_12 (by decide)) rfl inX5 (by decide) rfl nw_1_89 dX3_costOf_24 ?_
  refine lv_iload_n hx hb dX3_costOf_27 rfl (lv_at hl 1 rfl) ?_
  refine lv_iload_n hx hb dX3_costOf_28 rfl (lv_at hl 2 rfl) ?_
  obtain ⟨w6, τ5, g4, hf⟩ := fw_b2s hf
  refine fw_ci hH (fw_rV (As := [.int x2, .int x3]) (rest := [.int y0]) (id := 15) X hH (kX2_holds (by unfold fw_PL; decide) g4 _) qX2_holds tw_3_26 ⟨Nat.le_of_ble_eq_true rfl, Nat.le_of_ble_eq_true rfl⟩ rfl rfl (by decide) (fc_13 (by decide)) rfl rfl hl.1 rfl (Nat.le_of_ble_eq_true rfl) dX3_costOf_29) (fun H locs hH => ?_)
  refine lv_if_eq (tgt := 39) hx hb dX3_costOf_32 (by decide) (fun hc => ?_) (fun hc => ?_)
  · have hf := fw_pos hc hf
    refine lv_iconst (v := (1 : Int32)) hx hb dX3_costOf_39 (by decide) ?_
    refine lv_iadd hx hb dX3_costOf_40 ?_
    obtain ⟨rfl, rfl⟩ := fw_s2 hf
    exact fw_reti X hH dX3_costOf_41
  · have hf := fw_neg hc hf
    refine lv_iconst (v := (0 : Int32)) hx hb dX3_costOf_35 (by decide) ?_
    refine lv_goto (tgt := 40) hx hb dX3_costOf_36 (by decide) ?_
    refine lv_iadd hx hb dX3_costOf_40 ?_
    obtain ⟨rfl, rfl⟩ := fw_s2 hf
    exact fw_reti X hH dX3_costOf_41
def pX3_costOf (x1 : Int32) (x2 : Int32) (x3 : Int32) (σ : fw_T) : Option (Int32 × fw_T) :=
  fw_b2 (pX2_holds 13 x1 x2 σ) fun w3 τ2 =>
  if w3 = 0 then
    pX3_costOf_20 x2 x3 (1 : Int32) τ2
  else
    pX3_costOf_20 x2 x3 (0 : Int32) τ2
set_option maxRecDepth 100000 in
set_option maxHeartbeats 4000000 in
theorem kX3_costOf {x1 : Int32} {x2 : Int32} {x3 : Int32} {r : Int32} {σ σ' : fw_T} (hf : pX3_costOf x1 x2 x3 σ = some (r, σ')) : fw_Ci l yX3_costOf (Cond.code yX3_costOf cX3_costOf 4 (some .int) :: lwT) rmX3_costOf [.ref (adr 1), .int x1, .int x2, .int x3] D 96 adr (fw_C cI cO adr) (fcT cI cO) nwC σ r σ' := by
  refine fw_start (Qc := (fun A => va_Qi (fun r' (_ : Unit) => r' = r) (fun _ t => va_P D vwCl (fw_ws 96 adr (fw_C cI cO adr σ')) t.heap) A)) (by decide) (by simp [lg_sl, Value.category]) rfl ?_
  intro p e s m below meth c A X hH ls hl
  have hx := X.1.1
  have hb := X.1.2.1
  have hl : lv_has ls 4 [(0, .ref (adr 1)), (1, .int x1), (2, .int x2), (3, .int x3)] := hl
  unfold pX3_costOf at hf
  refine lv_aload_n hx hb dX3_costOf_0 rfl (lv_at hl 0 rfl) ?_
  refine fw_get (id := 1) (k := 0) (v := .ref (adr 12)) X hH (by decide) (fc_1 (by decide)) rfl inX3 (by decide) rfl tw_1_105 dX3_costOf_1 ?_
  refine fw_getN (id := 12) (k := 0) (v := .ref (adr 13)) X hH (by decide) (fc_12 (by decide)) rfl inX5 (by decide) rfl nw_1_86 dX3_costOf_4 ?_
  refine lv_iload_n hx hb dX3_costOf_7 rfl (lv_at hl 1 rfl) ?_
  refine lv_iload_n hx hb dX3_costOf_8 rfl (lv_at hl 2 rfl) ?_
  obtain ⟨w3, τ2, g1, hf⟩ := fw_b2s hf
  refine fw_ci hH (fw_rV (As := [.int x1, .int x2]) (rest := []) (id := 13) X hH (kX2_holds (by unfold fw_PL; decide) g1 _) qX2_holds tw_3_26 ⟨Nat.le_of_ble_eq_true rfl, Nat.le_of_ble_eq_true rfl⟩ rfl rfl (by decide) (fc_13 (by decide)) rfl rfl hl.1 rfl (Nat.le_of_ble_eq_true rfl) dX3_costOf_9) (fun H locs hH => ?_)
  refine lv_if_eq (tgt := 19) hx hb dX3_costOf_12 (by decide) (fun hc => ?_) (fun hc => ?_)
  · have hf := fw_pos hc hf
    refine lv_iconst (v := (1 : Int32)) hx hb dX3_costOf_19 (by decide) ?_
    exact wX3_costOf_20 X x2 x3 (1 : Int32) τ2 hf _ _ _ hH (lv_sub hl [0, 2, 3] rfl)
  · have hf := fw_neg hc hf
    refine lv_iconst (v := (0 : Int32)) hx hb dX3_costOf_15 (by decide) ?_
    refine lv_goto (tgt := 20) hx hb dX3_costOf_16 (by decide) ?_
    exact wX3_costOf_20 X x2 x3 (0 : Int32) τ2 hf _ _ _ hH (lv_sub hl [0, 2, 3] rfl)
abbrev rmX3_cheapestB : Room := { frames := 3, cells := 0, slots := 0, locals := 73 }
theorem qX3_cheapestB : fw_QV RX3 yX3_cheapestB cX3_cheapestB 7 (some .int) 2 := ⟨⟨tw_3_19, tw_3_20, tw_1_2, tw_3_21⟩, by decide +kernel⟩
def pX3_cheapestB_10 : Nat → Int32 → Int32 → Int32 → Int32 → Int32 → fw_T → Option (Int32 × fw_T)
  | 0, _, _, _, _, _, _ => none
  | n + 1, x1, x2, x3, x4, x5, σ =>
    if (10 : Int32) ≤ x5 then
      some (x3, σ)
    else
      fw_b2 (pX0_rejecters 17 x1 x5 x2 σ) fun w3 τ2 =>
      if w3 = 0 then
        fw_b2 (pX3_costOf x1 x5 x2 τ2) fun w6 τ5 =>
        if x3 = (-10001 : Int32) then
          pX3_cheapestB_10 n x1 x2 x5 w6 (x5 + (1 : Int32)) τ5
        else
          if x4 ≤ w6 then
            pX3_cheapestB_10 n x1 x2 x3 x4 (x5 + (1 : Int32)) τ5
          else
            pX3_cheapestB_10 n x1 x2 x5 w6 (x5 + (1 : Int32)) τ5
      else
        pX3_cheapestB_10 n x1 x2 x3 x4 (x5 + (1 : Int32)) τ2
set_option maxRecDepth 100000 in
set_option maxHeartbeats 4000000 in
theorem wX3_cheapestB_10 {args : Array Value} {r : Int32} {σ' : fw_T} (X : fcX p m c cX3_cheapestB 7 s args RX3 meth (some .int) D cI cO)  : ∀ (n : Nat), ∀ (x1 : Int32), ∀ (x2 : Int32), ∀ (x3 : Int32), ∀ (x4 : Int32), ∀ (x5 : Int32), ∀ (σ : fw_T), pX3_cheapestB_10 n x1 x2 x3 x4 x5 σ = some (r, σ') → ∀ (H : Heap) (locs : List Loc) (ls : Array Slot), fcH D cI cO adr A s H locs σ → lv_has ls 7 [(0, .ref (adr 1)), (1, .int x1), (2, .int x2), (3, .int x3), (4, .int x4), (5, .int x5)] → W p l e rmX3_cheapestB s m args below meth c H locs 0 0 (fw_Qi D 96 adr (fw_C cI cO adr) A below args s r σ') (F0 m 10 ls []) := by
  have hx := X.1.1
  have hb := X.1.2.1
  intro n
  induction n with
  | zero =>
    intro x1 x2 x3 x4 x5 σ hf
    exact absurd hf (by simp [pX3_cheapestB_10])
  | succ n ih =>
    intro x1 x2 x3 x4 x5 σ hf H locs ls hH hl
    rw [pX3_cheapestB_10] at hf
    refine lv_iload hx hb dX3_cheapestB_10 (lv_at hl 5 rfl) ?_
    refine lv_bipush (v := (10 : Int32)) hx hb dX3_cheapestB_12 (by decide) ?_
    refine lv_icmp_ge (tgt := 71) hx hb dX3_cheapestB_14 (by decide) (fun hc => ?_) (fun hc => ?_)
    · have hf := fw_pos hc hf
      refine lv_iload_n hx hb dX3_cheapestB_71 rfl (lv_at hl 3 rfl) ?_
      obtain ⟨rfl, rfl⟩ := fw_s2 hf
      exact fw_reti X hH dX3_cheapestB_72
    · have hf := fw_neg hc hf
      refine lv_aload_n hx hb dX3_cheapestB_17 rfl (lv_at hl 0 rfl) ?_
      refine fw_get (id := 1) (k := 0) (v := .ref (adr 12)) X hH (by decide) (fc_1 (by decide)) rfl inX3 (by decide) rfl tw_1_105 dX3_cheapestB_18 ?_
      refine fw_getN (id := 12) (k := 2) (v := .ref (adr 17)) X hH (by decide) (fc_12 (by decide)) rfl inX5 (by decide) rfl nw_1_91 dX3_cheapestB_21 ?_
      refine lv_iload_n hx hb dX3_cheapestB_24 rfl (lv_at hl 1 rfl) ?_
      refine lv_iload hx hb dX3_cheapestB_25 (lv_at hl 5 rfl) ?_
      refine lv_iload_n hx hb dX3_cheapestB_27 rfl (lv_at hl 2 rfl) ?_
      obtain ⟨w3, τ2, g1, hf⟩ := fw_b2s hf
      refine fw_ci hH (fw_rV (As := [.int x1, .int x5, .int x2]) (rest := []) (id := 17) X hH (kX0_rejecters (by unfold fw_FL; decide) g1 _) qX0_rejecters tw_2_149 ⟨Nat.le_of_ble_eq_true rfl, Nat.le_of_ble_eq_true rfl⟩ rfl rfl (by decide) (fc_15 (by decide)) rfl rfl hl.1 rfl (Nat.le_of_ble_eq_true rfl) dX3_cheapestB_28) (fun H locs hH => ?_)
      refine lv_if_ne (tgt := 65) hx hb dX3_cheapestB_31 (by decide) (fun hc => ?_) (fun hc => ?_)
      · have hf := fw_neg hc hf
        refine lv_iinc (v := (x5 + (1 : Int32))) (lv' := [(5, .int (x5 + (1 : Int32))), (0, .ref (adr 1)), (1, .int x1), (2, .int x2), (3, .int x3), (4, .int x4)]) hx hb dX3_cheapestB_65 hl (k := 5) rfl rfl (by decide) rfl (fun ls hl => ?_)
        refine lv_goto (tgt := 10) hx hb dX3_cheapestB_68 (by decide) ?_
        exact ih x1 x2 x3 x4 (x5 + (1 : Int32)) τ2 hf _ _ _ hH (lv_sub hl [1, 2, 3, 4, 5, 0] rfl)
      · have hf := fw_pos hc hf
        refine lv_aload_n hx hb dX3_cheapestB_34 rfl (lv_at hl 0 rfl) ?_
        refine lv_iload_n hx hb dX3_cheapestB_35 rfl (lv_at hl 1 rfl) ?_
        refine lv_iload hx hb dX3_cheapestB_36 (lv_at hl 5 rfl) ?_
        refine lv_iload_n hx hb dX3_cheapestB_38 rfl (lv_at hl 2 rfl) ?_
        obtain ⟨w6, τ5, g4, hf⟩ := fw_b2s hf
        refine fw_ci hH (fw_rV (As := [.int x1, .int x5, .int x2]) (rest := []) (id := 1) X hH (kX3_costOf  g4 _) qX3_costOf tw_3_22 ⟨Nat.le_of_ble_eq_true rfl, Nat.le_of_ble_eq_true rfl⟩ rfl rfl (by decide) (fc_1 (by decide)) rfl rfl hl.1 rfl (Nat.le_of_ble_eq_true rfl) dX3_cheapestB_39) (fun H locs hH => ?_)
        refine lv_istore (lv' := [(6, .int w6), (0, .ref (adr 1)), (1, .int x1), (2, .int x2), (3, .int x3), (4, .int x4), (5, .int x5)]) hx hb dX3_cheapestB_42 hl (by decide) rfl (fun ls hl => ?_)
        refine lv_iload_n hx hb dX3_cheapestB_44 rfl (lv_at hl 4 rfl) ?_
        refine lv_sipush (v := (-10001 : Int32)) hx hb dX3_cheapestB_45 (by decide) ?_
        refine lv_icmp_eq (tgt := 58) hx hb dX3_cheapestB_48 (by decide) (fun hc => ?_) (fun hc => ?_)
        · have hf := fw_pos hc hf
          refine lv_iload hx hb dX3_cheapestB_58 (lv_at hl 6 rfl) ?_
          refine lv_istore_n (lv' := [(3, .int x5), (6, .int w6), (0, .ref (adr 1)), (1, .int x1), (2, .int x2), (4, .int x4), (5, .int x5)]) hx hb dX3_cheapestB_60 rfl hl (by decide) rfl (fun ls hl => ?_)
          refine lv_iload hx hb dX3_cheapestB_61 (lv_at hl 1 rfl) ?_
          refine lv_istore (lv' := [(4, .int w6), (3, .int x5), (6, .int w6), (0, .ref (adr 1)), (1, .int x1), (2, .int x2), (5, .int x5)]) hx hb dX3_cheapestB_63 hl (by decide) rfl (fun ls hl => ?_)
          refine lv_iinc (v := (x5 + (1 : Int32))) (lv' := [(5, .int (x5 + (1 : Int32))), (4, .int w6), (3, .int x5), (6, .int w6), (0, .ref (adr 1)), (1, .int x1), (2, .int x2)]) hx hb dX3_cheapestB_65 hl (k := 6) rfl rfl (by decide) rfl (fun ls hl => ?_)
          refine lv_goto (tgt := 10) hx hb dX3_cheapestB_68 (by decide) ?_
          exact ih x1 x2 x5 w6 (x5 + (1 : Int32)) τ5 hf _ _ _ hH (lv_sub hl [4, 5, 6, 2, 1, 0] rfl)
        · have hf := fw_neg hc hf
          refine lv_iload hx hb dX3_cheapestB_51 (lv_at hl 0 rfl) ?_
          refine lv_iload hx hb dX3_cheapestB_53 (lv_at hl 5 rfl) ?_
          refine lv_icmp_ge (tgt := 65) hx hb dX3_cheapestB_55 (by decide) (fun hc => ?_) (fun hc => ?_)
          · have hf := fw_pos hc hf
            refine lv_iinc (v := (x5 + (1 : Int32))) (lv' := [(5, .int (x5 + (1 : Int32))), (6, .int w6), (0, .ref (adr 1)), (1, .int x1), (2, .int x2), (3, .int x3), (4, .int x4)]) hx hb dX3_cheapestB_65 hl (k := 6) rfl rfl (by decide) rfl (fun ls hl => ?_)
            refine lv_goto (tgt := 10) hx hb dX3_cheapestB_68 (by decide) ?_
            exact ih x1 x2 x3 x4 (x5 + (1 : Int32)) τ5 hf _ _ _ hH (lv_sub hl [2, 3, 4, 5, 6, 0] rfl)
          · have hf := fw_neg hc hf
            refine lv_iload hx hb dX3_cheapestB_58 (lv_at hl 6 rfl) ?_
            refine lv_istore_n (lv' := [(3, .int x5), (6, .int w6), (0, .ref (adr 1)), (1, .int x1), (2, .int x2), (4, .int x4), (5, .int x5)]) hx hb dX3_cheapestB_60 rfl hl (by decide) rfl (fun ls hl => ?_)
            refine lv_iload hx hb dX3_cheapestB_61 (lv_at hl 1 rfl) ?_
            refine lv_istore (lv' := [(4, .int w6), (3, .int x5), (6, .int w6), (0, .ref (adr 1)), (1, .int x1), (2, .int x2), (5, .int x5)]) hx hb dX3_cheapestB_63 hl (by decide) rfl (fun ls hl => ?_)
            refine lv_iinc (v := (x5 + (1 : Int32))) (lv' := [(5, .int (x5 + (1 : Int32))), (4, .int w6), (3, .int x5), (6, .int w6), (0, .ref (adr 1)), (1, .int x1), (2, .int x2)]) hx hb dX3_cheapestB_65 hl (k := 6) rfl rfl (by decide) rfl (fun ls hl => ?_)
            refine lv_goto (tgt := 10) hx hb dX3_cheapestB_68 (by decide) ?_
            exact ih x1 x2 x5 w6 (x5 + (1 : Int32)) τ5 hf _ _ _ hH (lv_sub hl [4, 5, 6, 2, 1, 0] rfl)
def pX3_cheapestB (x1 : Int32) (x2 : Int32) (σ : fw_T) : Option (Int32 × fw_T) :=
  pX3_cheapestB_10 400 x1 x2 (-10001 : Int32) (0 : Int32) (0 : Int32) σ
set_option maxRecDepth 100000 in
set_option maxHeartbeats 4000000 in
theorem kX3_cheapestB {x1 : Int32} {x2 : Int32} {r : Int32} {σ σ' : fw_T} (hf : pX3_cheapestB x1 x2 σ = some (r, σ')) : fw_Ci l yX3_cheapestB (Cond.code yX3_cheapestB cX3_cheapestB 7 (some .int) :: lwT) rmX3_cheapestB [.ref (adr 1), .int x1, .int x2] D 96 adr (fw_C cI cO adr) (fcT cI cO) nwC σ r σ' := by
  refine fw_start (Qc := (fun A => va_Qi (fun r' (_ : Unit) => r' = r) (fun _ t => va_P D vwCl (fw_ws 96 adr (fw_C cI cO adr σ')) t.heap) A)) (by decide) (by simp [lg_sl, Value.category]) rfl ?_
  intro p e s m below meth c A X hH ls hl
  have hx := X.1.1
  have hb := X.1.2.1
  have hl : lv_has ls 7 [(0, .ref (adr 1)), (1, .int x1), (2, .int x2)] := hl
  unfold pX3_cheapestB at hf
  refine lv_sipush (v := (-10001 : Int32)) hx hb dX3_cheapestB_0 (by decide) ?_
  refine lv_istore_n (lv' := [(3, .int (-10001 : Int32)), (0, .ref (adr 1)), (1, .int x1), (2, .int x2)]) hx hb dX3_cheapestB_3 rfl hl (by decide) rfl (fun ls hl => ?_)
  refine lv_iconst (v := (0 : Int32)) hx hb dX3_cheapestB_4 (by decide) ?_
  refine lv_istore (lv' := [(4, .int (0 : Int32)), (3, .int (-10001 : Int32)), (0, .ref (adr 1)), (1, .int x1), (2, .int x2)]) hx hb dX3_cheapestB_5 hl (by decide) rfl (fun ls hl => ?_)
  refine lv_iconst (v := (0 : Int32)) hx hb dX3_cheapestB_7 (by decide) ?_
  refine lv_istore (lv' := [(5, .int (0 : Int32)), (4, .int (0 : Int32)), (3, .int (-10001 : Int32)), (0, .ref (adr 1)), (1, .int x1), (2, .int x2)]) hx hb dX3_cheapestB_8 hl (by decide) rfl (fun ls hl => ?_)
  exact wX3_cheapestB_10 X 400 x1 x2 (-10001 : Int32) (0 : Int32) (0 : Int32) σ hf _ _ _ hH (lv_sub hl [3, 4, 5, 2, 1, 0] rfl)
abbrev rmX3_lowestCost : Room := { frames := 4, cells := 0, slots := 0, locals := 99 }
theorem qX3_lowestCost : fw_QV RX3 yX3_lowestCost cX3_lowestCost 4 (some .int) 2 := ⟨⟨tw_3_15, tw_3_16, tw_1_2, tw_3_17⟩, by decide +kernel⟩
def pX3_lowestCost (x1 : Int32) (x2 : Int32) (σ : fw_T) : Option (Int32 × fw_T) :=
  fw_b2 (pX3_cheapestB x1 x2 σ) fun w3 τ2 =>
  if w3 = (-10001 : Int32) then
    some ((-10001 : Int32), τ2)
  else
    fw_b2 (pX3_costOf x1 w3 x2 τ2) fun w6 τ5 =>
    some (w6, τ5)
set_option maxRecDepth 100000 in
set_option maxHeartbeats 4000000 in
theorem kX3_lowestCost {x1 : Int32} {x2 : Int32} {r : Int32} {σ σ' : fw_T} (hf : pX3_lowestCost x1 x2 σ = some (r, σ')) : fw_Ci l yX3_lowestCost (Cond.code yX3_lowestCost cX3_lowestCost 4 (some .int) :: lwT) rmX3_lowestCost [.ref (adr 1), .int x1, .int x2] D 96 adr (fw_C cI cO adr) (fcT cI cO) nwC σ r σ' := by
  refine fw_start (Qc := (fun A => va_Qi (fun r' (_ : Unit) => r' = r) (fun _ t => va_P D vwCl (fw_ws 96 adr (fw_C cI cO adr σ')) t.heap) A)) (by decide) (by simp [lg_sl, Value.category]) rfl ?_
  intro p e s m below meth c A X hH ls hl
  have hx := X.1.1
  have hb := X.1.2.1
  have hl : lv_has ls 4 [(0, .ref (adr 1)), (1, .int x1), (2, .int x2)] := hl
  unfold pX3_lowestCost at hf
  refine lv_aload_n hx hb dX3_lowestCost_0 rfl (lv_at hl 0 rfl) ?_
  refine lv_iload_n hx hb dX3_lowestCost_1 rfl (lv_at hl 1 rfl) ?_
  refine lv_iload_n hx hb dX3_lowestCost_2 rfl (lv_at hl 2 rfl) ?_
  obtain ⟨w3, τ2, g1, hf⟩ := fw_b2s hf
  refine fw_ci hH (fw_rV (As := [.int x1, .int x2]) (rest := []) (id := 1) X hH (kX3_cheapestB  g1 _) qX3_cheapestB tw_3_18 ⟨Nat.le_of_ble_eq_true rfl, Nat.le_of_ble_eq_true rfl⟩ rfl rfl (by decide) (fc_1 (by decide)) rfl rfl hl.1 rfl (Nat.le_of_ble_eq_true rfl) dX3_lowestCost_3) (fun H locs hH => ?_)
  refine lv_istore_n (lv' := [(3, .int w3), (0, .ref (adr 1)), (1, .int x1), (2, .int x2)]) hx hb dX3_lowestCost_6 rfl hl (by decide) rfl (fun ls hl => ?_)
  refine lv_iload_n hx hb dX3_lowestCost_7 rfl (lv_at hl 0 rfl) ?_
  refine lv_sipush (v := (-10001 : Int32)) hx hb dX3_lowestCost_8 (by decide) ?_
  refine lv_icmp_ne (tgt := 20) hx hb dX3_lowestCost_11 (by decide) (fun hc => ?_) (fun hc => ?_)
  · have hf := fw_neg hc hf
    refine lv_aload_n hx hb dX3_lowestCost_20 rfl (lv_at hl 1 rfl) ?_
    refine lv_iload_n hx hb dX3_lowestCost_21 rfl (lv_at hl 2 rfl) ?_
    refine lv_iload_n hx hb dX3_lowestCost_22 rfl (lv_at hl 0 rfl) ?_
    refine lv_iload_n hx hb dX3_lowestCost_23 rfl (lv_at hl 3 rfl) ?_
    obtain ⟨w6, τ5, g4, hf⟩ := fw_b2s hf
    refine fw_ci hH (fw_rV (As := [.int x1, .int w3, .int x2]) (rest := []) (id := 1) X hH (kX3_costOf  g4 _) qX3_costOf tw_3_22 ⟨Nat.le_of_ble_eq_true rfl, Nat.le_of_ble_eq_true rfl⟩ rfl rfl (by decide) (fc_1 (by decide)) rfl rfl hl.1 rfl (Nat.le_of_ble_eq_true rfl) dX3_lowestCost_24) (fun H locs hH => ?_)
    obtain ⟨rfl, rfl⟩ := fw_s2 hf
    exact fw_reti X hH dX3_lowestCost_27
  · have hf := fw_pos hc hf
    refine lv_sipush (v := (-10001 : Int32)) hx hb dX3_lowestCost_14 (by decide) ?_
    refine lv_goto (tgt := 27) hx hb dX3_lowestCost_17 (by decide) ?_
    obtain ⟨rfl, rfl⟩ := fw_s2 hf
    exact fw_reti X hH dX3_lowestCost_27
abbrev rmX7_missingRows : Room := { frames := 5, cells := 0, slots := 0, locals := 122 }
theorem qX7_missingRows : fw_QV RX7 yX7_missingRows cX7_missingRows 3 (some .int) 2 := ⟨⟨tw_3_11, tw_3_12, tw_1_1, tw_3_13⟩, by decide +kernel⟩
def pX7_missingRows (x1 : Int32) (x2 : Int32) (σ : fw_T) : Option (Int32 × fw_T) :=
  fw_b2 (pX7_isPair x1 x2 σ) fun w3 τ2 =>
  if w3 = 0 then
    fw_b2 (pX7_report (-10002 : Int32) τ2) fun w6 τ5 =>
    some (w6, τ5)
  else
    fw_b2 (pX3_lowestCost x1 x2 τ2) fun w9 τ8 =>
    fw_b2 (pX7_report w9 τ8) fun w12 τ11 =>
    some (w12, τ11)
set_option maxRecDepth 100000 in
set_option maxHeartbeats 4000000 in
theorem kX7_missingRows {x1 : Int32} {x2 : Int32} {r : Int32} {σ σ' : fw_T} (hf : pX7_missingRows x1 x2 σ = some (r, σ')) : fw_Ci l yX7_missingRows (Cond.code yX7_missingRows cX7_missingRows 3 (some .int) :: lwT) rmX7_missingRows [.ref (adr 0), .int x1, .int x2] D 96 adr (fw_C cI cO adr) (fcT cI cO) nwC σ r σ' := by
  refine fw_start (Qc := (fun A => va_Qi (fun r' (_ : Unit) => r' = r) (fun _ t => va_P D vwCl (fw_ws 96 adr (fw_C cI cO adr σ')) t.heap) A)) (by decide) (by simp [lg_sl, Value.category]) rfl ?_
  intro p e s m below meth c A X hH ls hl
  have hx := X.1.1
  have hb := X.1.2.1
  have hl : lv_has ls 3 [(0, .ref (adr 0)), (1, .int x1), (2, .int x2)] := hl
  unfold pX7_missingRows at hf
  refine lv_aload_n hx hb dX7_missingRows_0 rfl (lv_at hl 0 rfl) ?_
  refine lv_iload_n hx hb dX7_missingRows_1 rfl (lv_at hl 1 rfl) ?_
  refine lv_iload_n hx hb dX7_missingRows_2 rfl (lv_at hl 2 rfl) ?_
  obtain ⟨w3, τ2, g1, hf⟩ := fw_b2s hf
  refine fw_ci hH (fw_rS (As := [.int x1, .int x2]) (rest := [.ref (adr 0)]) X hH (kX7_isPair  g1 _) qX7_isPair tw_2_166 ⟨Nat.le_of_ble_eq_true rfl, Nat.le_of_ble_eq_true rfl⟩ rfl rfl rfl hl.1 rfl (Nat.le_of_ble_eq_true rfl) dX7_missingRows_3) (fun H locs hH => ?_)
  refine lv_if_eq (tgt := 21) hx hb dX7_missingRows_6 (by decide) (fun hc => ?_) (fun hc => ?_)
  · have hf := fw_pos hc hf
    refine lv_sipush (v := (-10002 : Int32)) hx hb dX7_missingRows_21 (by decide) ?_
    obtain ⟨w6, τ5, g4, hf⟩ := fw_b2s hf
    refine fw_ci hH (fw_rV (As := [.int (-10002 : Int32)]) (rest := []) (id := 0) X hH (kX7_report  g4 _) qX7_report tw_2_10 ⟨Nat.le_of_ble_eq_true rfl, Nat.le_of_ble_eq_true rfl⟩ rfl rfl (by decide) (fc_0 (by decide)) rfl rfl hl.1 rfl (Nat.le_of_ble_eq_true rfl) dX7_missingRows_24) (fun H locs hH => ?_)
    obtain ⟨rfl, rfl⟩ := fw_s2 hf
    exact fw_reti X hH dX7_missingRows_27
  · have hf := fw_neg hc hf
    refine lv_aload_n hx hb dX7_missingRows_9 rfl (lv_at hl 0 rfl) ?_
    refine fw_get (id := 0) (k := 0) (v := .ref (adr 1)) X hH (by decide) (fc_0 (by decide)) rfl inX7 (by decide) rfl tw_1_177 dX7_missingRows_10 ?_
    refine lv_iload_n hx hb dX7_missingRows_13 rfl (lv_at hl 1 rfl) ?_
    refine lv_iload_n hx hb dX7_missingRows_14 rfl (lv_at hl 2 rfl) ?_
    obtain ⟨w9, τ8, g7, hf⟩ := fw_b2s hf
    refine fw_ci hH (fw_rV (As := [.int x1, .int x2]) (rest := [.ref (adr 0)]) (id := 1) X hH (kX3_lowestCost  g7 _) qX3_lowestCost tw_3_14 ⟨Nat.le_of_ble_eq_true rfl, Nat.le_of_ble_eq_true rfl⟩ rfl rfl (by decide) (fc_1 (by decide)) rfl rfl hl.1 rfl (Nat.le_of_ble_eq_true rfl) dX7_missingRows_15) (fun H locs hH => ?_)
    refine lv_goto (tgt := 24) hx hb dX7_missingRows_18 (by decide) ?_
    obtain ⟨w12, τ11, g10, hf⟩ := fw_b2s hf
    refine fw_ci hH (fw_rV (As := [.int w9]) (rest := []) (id := 0) X hH (kX7_report  g10 _) qX7_report tw_2_10 ⟨Nat.le_of_ble_eq_true rfl, Nat.le_of_ble_eq_true rfl⟩ rfl rfl (by decide) (fc_0 (by decide)) rfl rfl hl.1 rfl (Nat.le_of_ble_eq_true rfl) dX7_missingRows_24) (fun H locs hH => ?_)
    obtain ⟨rfl, rfl⟩ := fw_s2 hf
    exact fw_reti X hH dX7_missingRows_27
abbrev rmX3_bToInsert : Room := { frames := 4, cells := 0, slots := 0, locals := 99 }
theorem qX3_bToInsert : fw_QV RX3 yX3_bToInsert cX3_bToInsert 4 (some .int) 2 := ⟨⟨tw_3_32, tw_3_33, tw_1_2, tw_3_34⟩, by decide +kernel⟩
def pX3_bToInsert (x1 : Int32) (x2 : Int32) (σ : fw_T) : Option (Int32 × fw_T) :=
  fw_b2 (pX3_cheapestB x1 x2 σ) fun w3 τ2 =>
  if w3 = (-10001 : Int32) then
    some ((-10001 : Int32), τ2)
  else
    fw_b2 (pX3_costOf x1 w3 x2 τ2) fun w6 τ5 =>
    if w6 = 0 then
      some ((-10001 : Int32), τ5)
    else
      some (w3, τ5)
set_option maxRecDepth 100000 in
set_option maxHeartbeats 4000000 in
theorem kX3_bToInsert {x1 : Int32} {x2 : Int32} {r : Int32} {σ σ' : fw_T} (hf : pX3_bToInsert x1 x2 σ = some (r, σ')) : fw_Ci l yX3_bToInsert (Cond.code yX3_bToInsert cX3_bToInsert 4 (some .int) :: lwT) rmX3_bToInsert [.ref (adr 1), .int x1, .int x2] D 96 adr (fw_C cI cO adr) (fcT cI cO) nwC σ r σ' := by
  refine fw_start (Qc := (fun A => va_Qi (fun r' (_ : Unit) => r' = r) (fun _ t => va_P D vwCl (fw_ws 96 adr (fw_C cI cO adr σ')) t.heap) A)) (by decide) (by simp [lg_sl, Value.category]) rfl ?_
  intro p e s m below meth c A X hH ls hl
  have hx := X.1.1
  have hb := X.1.2.1
  have hl : lv_has ls 4 [(0, .ref (adr 1)), (1, .int x1), (2, .int x2)] := hl
  unfold pX3_bToInsert at hf
  refine lv_aload_n hx hb dX3_bToInsert_0 rfl (lv_at hl 0 rfl) ?_
  refine lv_iload_n hx hb dX3_bToInsert_1 rfl (lv_at hl 1 rfl) ?_
  refine lv_iload_n hx hb dX3_bToInsert_2 rfl (lv_at hl 2 rfl) ?_
  obtain ⟨w3, τ2, g1, hf⟩ := fw_b2s hf
  refine fw_ci hH (fw_rV (As := [.int x1, .int x2]) (rest := []) (id := 1) X hH (kX3_cheapestB  g1 _) qX3_cheapestB tw_3_18 ⟨Nat.le_of_ble_eq_true rfl, Nat.le_of_ble_eq_true rfl⟩ rfl rfl (by decide) (fc_1 (by decide)) rfl rfl hl.1 rfl (Nat.le_of_ble_eq_true rfl) dX3_bToInsert_3) (fun H locs hH => ?_)
  refine lv_istore_n (lv' := [(3, .int w3), (0, .ref (adr 1)), (1, .int x1), (2, .int x2)]) hx hb dX3_bToInsert_6 rfl hl (by decide) rfl (fun ls hl => ?_)
  refine lv_iload_n hx hb dX3_bToInsert_7 rfl (lv_at hl 0 rfl) ?_
  refine lv_sipush (v := (-10001 : Int32)) hx hb dX3_bToInsert_8 (by decide) ?_
  refine lv_icmp_eq (tgt := 24) hx hb dX3_bToInsert_11 (by decide) (fun hc => ?_) (fun hc => ?_)
  · have hf := fw_pos hc hf
    refine lv_sipush (v := (-10001 : Int32)) hx hb dX3_bToInsert_24 (by decide) ?_
    refine lv_goto (tgt := 31) hx hb dX3_bToInsert_27 (by decide) ?_
    obtain ⟨rfl, rfl⟩ := fw_s2 hf
    exact fw_reti X hH dX3_bToInsert_31
  · have hf := fw_neg hc hf
    refine lv_aload_n hx hb dX3_bToInsert_14 rfl (lv_at hl 1 rfl) ?_
    refine lv_iload_n hx hb dX3_bToInsert_15 rfl (lv_at hl 2 rfl) ?_
    refine lv_iload_n hx hb dX3_bToInsert_16 rfl (lv_at hl 0 rfl) ?_
    refine lv_iload_n hx hb dX3_bToInsert_17 rfl (lv_at hl 3 rfl) ?_
    obtain ⟨w6, τ5, g4, hf⟩ := fw_b2s hf
    refine fw_ci hH (fw_rV (As := [.int x1, .int w3, .int x2]) (rest := []) (id := 1) X hH (kX3_costOf  g4 _) qX3_costOf tw_3_22 ⟨Nat.le_of_ble_eq_true rfl, Nat.le_of_ble_eq_true rfl⟩ rfl rfl (by decide) (fc_1 (by decide)) rfl rfl hl.1 rfl (Nat.le_of_ble_eq_true rfl) dX3_bToInsert_18) (fun H locs hH => ?_)
    refine lv_if_ne (tgt := 30) hx hb dX3_bToInsert_21 (by decide) (fun hc => ?_) (fun hc => ?_)
    · have hf := fw_neg hc hf
      refine lv_iload_n hx hb dX3_bToInsert_30 rfl (lv_at hl 0 rfl) ?_
      obtain ⟨rfl, rfl⟩ := fw_s2 hf
      exact fw_reti X hH dX3_bToInsert_31
    · have hf := fw_pos hc hf
      refine lv_sipush (v := (-10001 : Int32)) hx hb dX3_bToInsert_24 (by decide) ?_
      refine lv_goto (tgt := 31) hx hb dX3_bToInsert_27 (by decide) ?_
      obtain ⟨rfl, rfl⟩ := fw_s2 hf
      exact fw_reti X hH dX3_bToInsert_31
abbrev rmX7_missingB : Room := { frames := 5, cells := 0, slots := 0, locals := 122 }
theorem qX7_missingB : fw_QV RX7 yX7_missingB cX7_missingB 3 (some .int) 2 := ⟨⟨tw_3_28, tw_3_29, tw_1_1, tw_3_30⟩, by decide +kernel⟩
def pX7_missingB (x1 : Int32) (x2 : Int32) (σ : fw_T) : Option (Int32 × fw_T) :=
  fw_b2 (pX7_isPair x1 x2 σ) fun w3 τ2 =>
  if w3 = 0 then
    fw_b2 (pX7_report (-10002 : Int32) τ2) fun w6 τ5 =>
    some (w6, τ5)
  else
    fw_b2 (pX3_bToInsert x1 x2 τ2) fun w9 τ8 =>
    fw_b2 (pX7_report w9 τ8) fun w12 τ11 =>
    some (w12, τ11)
set_option maxRecDepth 100000 in
set_option maxHeartbeats 4000000 in
theorem kX7_missingB {x1 : Int32} {x2 : Int32} {r : Int32} {σ σ' : fw_T} (hf : pX7_missingB x1 x2 σ = some (r, σ')) : fw_Ci l yX7_missingB (Cond.code yX7_missingB cX7_missingB 3 (some .int) :: lwT) rmX7_missingB [.ref (adr 0), .int x1, .int x2] D 96 adr (fw_C cI cO adr) (fcT cI cO) nwC σ r σ' := by
  refine fw_start (Qc := (fun A => va_Qi (fun r' (_ : Unit) => r' = r) (fun _ t => va_P D vwCl (fw_ws 96 adr (fw_C cI cO adr σ')) t.heap) A)) (by decide) (by simp [lg_sl, Value.category]) rfl ?_
  intro p e s m below meth c A X hH ls hl
  have hx := X.1.1
  have hb := X.1.2.1
  have hl : lv_has ls 3 [(0, .ref (adr 0)), (1, .int x1), (2, .int x2)] := hl
  unfold pX7_missingB at hf
  refine lv_aload_n hx hb dX7_missingB_0 rfl (lv_at hl 0 rfl) ?_
  refine lv_iload_n hx hb dX7_missingB_1 rfl (lv_at hl 1 rfl) ?_
  refine lv_iload_n hx hb dX7_missingB_2 rfl (lv_at hl 2 rfl) ?_
  obtain ⟨w3, τ2, g1, hf⟩ := fw_b2s hf
  refine fw_ci hH (fw_rS (As := [.int x1, .int x2]) (rest := [.ref (adr 0)]) X hH (kX7_isPair  g1 _) qX7_isPair tw_2_166 ⟨Nat.le_of_ble_eq_true rfl, Nat.le_of_ble_eq_true rfl⟩ rfl rfl rfl hl.1 rfl (Nat.le_of_ble_eq_true rfl) dX7_missingB_3) (fun H locs hH => ?_)
  refine lv_if_eq (tgt := 21) hx hb dX7_missingB_6 (by decide) (fun hc => ?_) (fun hc => ?_)
  · have hf := fw_pos hc hf
    refine lv_sipush (v := (-10002 : Int32)) hx hb dX7_missingB_21 (by decide) ?_
    obtain ⟨w6, τ5, g4, hf⟩ := fw_b2s hf
    refine fw_ci hH (fw_rV (As := [.int (-10002 : Int32)]) (rest := []) (id := 0) X hH (kX7_report  g4 _) qX7_report tw_2_10 ⟨Nat.le_of_ble_eq_true rfl, Nat.le_of_ble_eq_true rfl⟩ rfl rfl (by decide) (fc_0 (by decide)) rfl rfl hl.1 rfl (Nat.le_of_ble_eq_true rfl) dX7_missingB_24) (fun H locs hH => ?_)
    obtain ⟨rfl, rfl⟩ := fw_s2 hf
    exact fw_reti X hH dX7_missingB_27
  · have hf := fw_neg hc hf
    refine lv_aload_n hx hb dX7_missingB_9 rfl (lv_at hl 0 rfl) ?_
    refine fw_get (id := 0) (k := 0) (v := .ref (adr 1)) X hH (by decide) (fc_0 (by decide)) rfl inX7 (by decide) rfl tw_1_177 dX7_missingB_10 ?_
    refine lv_iload_n hx hb dX7_missingB_13 rfl (lv_at hl 1 rfl) ?_
    refine lv_iload_n hx hb dX7_missingB_14 rfl (lv_at hl 2 rfl) ?_
    obtain ⟨w9, τ8, g7, hf⟩ := fw_b2s hf
    refine fw_ci hH (fw_rV (As := [.int x1, .int x2]) (rest := [.ref (adr 0)]) (id := 1) X hH (kX3_bToInsert  g7 _) qX3_bToInsert tw_3_31 ⟨Nat.le_of_ble_eq_true rfl, Nat.le_of_ble_eq_true rfl⟩ rfl rfl (by decide) (fc_1 (by decide)) rfl rfl hl.1 rfl (Nat.le_of_ble_eq_true rfl) dX7_missingB_15) (fun H locs hH => ?_)
    refine lv_goto (tgt := 24) hx hb dX7_missingB_18 (by decide) ?_
    obtain ⟨w12, τ11, g10, hf⟩ := fw_b2s hf
    refine fw_ci hH (fw_rV (As := [.int w9]) (rest := []) (id := 0) X hH (kX7_report  g10 _) qX7_report tw_2_10 ⟨Nat.le_of_ble_eq_true rfl, Nat.le_of_ble_eq_true rfl⟩ rfl rfl (by decide) (fc_0 (by decide)) rfl rfl hl.1 rfl (Nat.le_of_ble_eq_true rfl) dX7_missingB_24) (fun H locs hH => ?_)
    obtain ⟨rfl, rfl⟩ := fw_s2 hf
    exact fw_reti X hH dX7_missingB_27
abbrev rmX7_insertRowsOf : Room := { frames := 4, cells := 0, slots := 0, locals := 99 }
theorem qX7_insertRowsOf : fw_QV RX7 yX7_insertRowsOf cX7_insertRowsOf 7 (some .int) 2 := ⟨⟨tw_3_41, tv_X7_insertRowsOf, tw_1_1, tw_3_42⟩, by decide +kernel⟩
def pX7_insertRowsOf_129 (x2 : Int32) (x3 : Int32) (x5 : Int32) (x6 : Int32) (σ : fw_T) : Option (Int32 × fw_T) :=
  if x5 = 0 then
    some (x6, σ)
  else
    fw_b2 (pX2_insert 15 x3 x2 σ) fun w12 τ11 =>
    some ((x6 + (1 : Int32)), τ11)
set_option maxRecDepth 100000 in
set_option maxHeartbeats 4000000 in
theorem wX7_insertRowsOf_129 {args : Array Value} {r : Int32} {σ' : fw_T} (X : fcX p m c cX7_insertRowsOf 7 s args RX7 meth (some .int) D cI cO)  : ∀ (x2 : Int32), ∀ (x3 : Int32), ∀ (x5 : Int32), ∀ (x6 : Int32), ∀ (σ : fw_T), pX7_insertRowsOf_129 x2 x3 x5 x6 σ = some (r, σ') → ∀ (H : Heap) (locs : List Loc) (ls : Array Slot), fcH D cI cO adr A s H locs σ → lv_has ls 7 [(0, .ref (adr 0)), (2, .int x2), (3, .int x3), (5, .int x5), (6, .int x6)] → W p l e rmX7_insertRowsOf s m args below meth c H locs 0 0 (fw_Qi D 96 adr (fw_C cI cO adr) A below args s r σ') (F0 m 129 ls []) := by
  have hx := X.1.1
  have hb := X.1.2.1
  intro x2 x3 x5 x6 σ hf H locs ls hH hl
  unfold pX7_insertRowsOf_129 at hf
  refine lv_iload hx hb dX7_insertRowsOf_129 (lv_at hl 3 rfl) ?_
  refine lv_if_eq (tgt := 150) hx hb dX7_insertRowsOf_131 (by decide) (fun hc => ?_) (fun hc => ?_)
  · have hf := fw_pos hc hf
    refine lv_iload hx hb dX7_insertRowsOf_150 (lv_at hl 4 rfl) ?_
    obtain ⟨rfl, rfl⟩ := fw_s2 hf
    exact fw_reti X hH dX7_insertRowsOf_152
  · have hf := fw_neg hc hf
    refine lv_aload_n hx hb dX7_insertRowsOf_134 rfl (lv_at hl 0 rfl) ?_
    refine fw_get (id := 0) (k := 1) (v := .ref (adr 12)) X hH (by decide) (fc_0 (by decide)) rfl inX7 (by decide) rfl tw_1_178 dX7_insertRowsOf_135 ?_
    refine fw_getN (id := 12) (k := 1) (v := .ref (adr 15)) X hH (by decide) (fc_12 (by decide)) rfl inX5 (by decide) rfl nw_1_88 dX7_insertRowsOf_138 ?_
    refine lv_iload_n hx hb dX7_insertRowsOf_141 rfl (lv_at hl 2 rfl) ?_
    refine lv_iload_n hx hb dX7_insertRowsOf_142 rfl (lv_at hl 1 rfl) ?_
    obtain ⟨w12, τ11, g10, hf⟩ := fw_b2s hf
    refine fw_ci hH (fw_rV (As := [.int x3, .int x2]) (rest := []) (id := 15) X hH (kX2_insert (by unfold fw_PL; decide) g10 _) qX2_insert tw_1_220 ⟨Nat.le_of_ble_eq_true rfl, Nat.le_of_ble_eq_true rfl⟩ rfl rfl (by decide) (fc_13 (by decide)) rfl rfl hl.1 rfl (Nat.le_of_ble_eq_true rfl) dX7_insertRowsOf_143) (fun H locs hH => ?_)
    refine lv_pop hx hb dX7_insertRowsOf_146 rfl ?_
    refine lv_iinc (v := (x6 + (1 : Int32))) (lv' := [(6, .int (x6 + (1 : Int32))), (0, .ref (adr 0)), (2, .int x2), (3, .int x3), (5, .int x5)]) hx hb dX7_insertRowsOf_147 hl (k := 4) rfl rfl (by decide) rfl (fun ls hl => ?_)
    refine lv_iload hx hb dX7_insertRowsOf_150 (lv_at hl 0 rfl) ?_
    obtain ⟨rfl, rfl⟩ := fw_s2 hf
    exact fw_reti X hH dX7_insertRowsOf_152
def pX7_insertRowsOf_105 (x1 : Int32) (x2 : Int32) (x3 : Int32) (x4 : Int32) (x5 : Int32) (σ : fw_T) : Option (Int32 × fw_T) :=
  if x4 = 0 then
    pX7_insertRowsOf_129 x2 x3 x5 (0 : Int32) σ
  else
    fw_b2 (pX2_insert 13 x1 x3 σ) fun w15 τ14 =>
    pX7_insertRowsOf_129 x2 x3 x5 ((0 : Int32) + (1 : Int32)) τ14
set_option maxRecDepth 100000 in
set_option maxHeartbeats 4000000 in
theorem wX7_insertRowsOf_105 {args : Array Value} {r : Int32} {σ' : fw_T} (X : fcX p m c cX7_insertRowsOf 7 s args RX7 meth (some .int) D cI cO)  : ∀ (x1 : Int32), ∀ (x2 : Int32), ∀ (x3 : Int32), ∀ (x4 : Int32), ∀ (x5 : Int32), ∀ (σ : fw_T), pX7_insertRowsOf_105 x1 x2 x3 x4 x5 σ = some (r, σ') → ∀ (H : Heap) (locs : List Loc) (ls : Array Slot), fcH D cI cO adr A s H locs σ → lv_has ls 7 [(0, .ref (adr 0)), (1, .int x1), (2, .int x2), (3, .int x3), (4, .int x4), (5, .int x5)] → W p l e rmX7_insertRowsOf s m args below meth c H locs 0 0 (fw_Qi D 96 adr (fw_C cI cO adr) A below args s r σ') (F0 m 105 ls []) := by
  have hx := X.1.1
  have hb := X.1.2.1
  intro x1 x2 x3 x4 x5 σ hf H locs ls hH hl
  unfold pX7_insertRowsOf_105 at hf
  refine lv_iconst (v := (0 : Int32)) hx hb dX7_insertRowsOf_105 (by decide) ?_
  refine lv_istore (lv' := [(6, .int (0 : Int32)), (0, .ref (adr 0)), (1, .int x1), (2, .int x2), (3, .int x3), (4, .int x4), (5, .int x5)]) hx hb dX7_insertRowsOf_106 hl (by decide) rfl (fun ls hl => ?_)
  refine lv_iload hx hb dX7_insertRowsOf_108 (lv_at hl 5 rfl) ?_
  refine lv_if_eq (tgt := 129) hx hb dX7_insertRowsOf_110 (by decide) (fun hc => ?_) (fun hc => ?_)
  · have hf := fw_pos hc hf
    exact wX7_insertRowsOf_129 X x2 x3 x5 (0 : Int32) σ hf _ _ _ hH (lv_sub hl [1, 3, 4, 6, 0] rfl)
  · have hf := fw_neg hc hf
    refine lv_aload_n hx hb dX7_insertRowsOf_113 rfl (lv_at hl 1 rfl) ?_
    refine fw_get (id := 0) (k := 1) (v := .ref (adr 12)) X hH (by decide) (fc_0 (by decide)) rfl inX7 (by decide) rfl tw_1_178 dX7_insertRowsOf_114 ?_
    refine fw_getN (id := 12) (k := 0) (v := .ref (adr 13)) X hH (by decide) (fc_12 (by decide)) rfl inX5 (by decide) rfl nw_1_85 dX7_insertRowsOf_117 ?_
    refine lv_iload_n hx hb dX7_insertRowsOf_120 rfl (lv_at hl 2 rfl) ?_
    refine lv_iload_n hx hb dX7_insertRowsOf_121 rfl (lv_at hl 4 rfl) ?_
    obtain ⟨w15, τ14, g13, hf⟩ := fw_b2s hf
    refine fw_ci hH (fw_rV (As := [.int x1, .int x3]) (rest := []) (id := 13) X hH (kX2_insert (by unfold fw_PL; decide) g13 _) qX2_insert tw_1_220 ⟨Nat.le_of_ble_eq_true rfl, Nat.le_of_ble_eq_true rfl⟩ rfl rfl (by decide) (fc_13 (by decide)) rfl rfl hl.1 rfl (Nat.le_of_ble_eq_true rfl) dX7_insertRowsOf_122) (fun H locs hH => ?_)
    refine lv_pop hx hb dX7_insertRowsOf_125 rfl ?_
    refine lv_iinc (v := ((0 : Int32) + (1 : Int32))) (lv' := [(6, .int ((0 : Int32) + (1 : Int32))), (0, .ref (adr 0)), (1, .int x1), (2, .int x2), (3, .int x3), (4, .int x4), (5, .int x5)]) hx hb dX7_insertRowsOf_126 hl (k := 0) rfl rfl (by decide) rfl (fun ls hl => ?_)
    exact wX7_insertRowsOf_129 X x2 x3 x5 ((0 : Int32) + (1 : Int32)) τ14 hf _ _ _ hH (lv_sub hl [1, 3, 4, 6, 0] rfl)
def pX7_insertRowsOf_63 (x1 : Int32) (x2 : Int32) (x3 : Int32) (x4 : Int32) (y0 : Int32) (σ : fw_T) : Option (Int32 × fw_T) :=
  if x4 = 0 then
    if y0 = 0 then
      pX7_insertRowsOf_105 x1 x2 x3 x4 y0 σ
    else
      fw_b2 (pX2_isFull 15 σ) fun w18 τ17 =>
      if w18 = 0 then
        pX7_insertRowsOf_105 x1 x2 x3 x4 y0 τ17
      else
        some ((-10004 : Int32), τ17)
  else
    fw_b2 (pX2_isFull 13 σ) fun w21 τ20 =>
    if w21 = 0 then
      if y0 = 0 then
        pX7_insertRowsOf_105 x1 x2 x3 x4 y0 τ20
      else
        fw_b2 (pX2_isFull 15 τ20) fun w24 τ23 =>
        if w24 = 0 then
          pX7_insertRowsOf_105 x1 x2 x3 x4 y0 τ23
        else
          some ((-10004 : Int32), τ23)
    else
      some ((-10004 : Int32), τ20)
set_option maxRecDepth 100000 in
set_option maxHeartbeats 4000000 in
theorem wX7_insertRowsOf_63 {args : Array Value} {r : Int32} {σ' : fw_T} (X : fcX p m c cX7_insertRowsOf 7 s args RX7 meth (some .int) D cI cO)  : ∀ (x1 : Int32), ∀ (x2 : Int32), ∀ (x3 : Int32), ∀ (x4 : Int32), ∀ (y0 : Int32), ∀ (σ : fw_T), pX7_insertRowsOf_63 x1 x2 x3 x4 y0 σ = some (r, σ') → ∀ (H : Heap) (locs : List Loc) (ls : Array Slot), fcH D cI cO adr A s H locs σ → lv_has ls 7 [(0, .ref (adr 0)), (1, .int x1), (2, .int x2), (3, .int x3), (4, .int x4)] → W p l e rmX7_insertRowsOf s m args below meth c H locs 0 0 (fw_Qi D 96 adr (fw_C cI cO adr) A below args s r σ') (F0 m 63 ls [.int y0]) := by
  have hx := X.1.1
  have hb := X.1.2.1
  intro x1 x2 x3 x4 y0 σ hf H locs ls hH hl
  unfold pX7_insertRowsOf_63 at hf
  refine lv_istore (lv' := [(5, .int y0), (0, .ref (adr 0)), (1, .int x1), (2, .int x2), (3, .int x3), (4, .int x4)]) hx hb dX7_insertRowsOf_63 hl (by decide) rfl (fun ls hl => ?_)
  refine lv_iload hx hb dX7_insertRowsOf_65 (lv_at hl 5 rfl) ?_
  refine lv_if_eq (tgt := 83) hx hb dX7_insertRowsOf_67 (by decide) (fun hc => ?_) (fun hc => ?_)
  · have hf := fw_pos hc hf
    refine lv_iload hx hb dX7_insertRowsOf_83 (lv_at hl 0 rfl) ?_
    refine lv_if_eq (tgt := 105) hx hb dX7_insertRowsOf_85 (by decide) (fun hc => ?_) (fun hc => ?_)
    · have hf := fw_pos hc hf
      exact wX7_insertRowsOf_105 X x1 x2 x3 x4 y0 σ hf _ _ _ hH (lv_sub hl [1, 2, 3, 4, 5, 0] rfl)
    · have hf := fw_neg hc hf
      refine lv_aload_n hx hb dX7_insertRowsOf_88 rfl (lv_at hl 1 rfl) ?_
      refine fw_get (id := 0) (k := 1) (v := .ref (adr 12)) X hH (by decide) (fc_0 (by decide)) rfl inX7 (by decide) rfl tw_1_178 dX7_insertRowsOf_89 ?_
      refine fw_getN (id := 12) (k := 1) (v := .ref (adr 15)) X hH (by decide) (fc_12 (by decide)) rfl inX5 (by decide) rfl nw_1_88 dX7_insertRowsOf_92 ?_
      obtain ⟨w18, τ17, g16, hf⟩ := fw_b2s hf
      refine fw_ci hH (fw_rV (As := []) (rest := []) (id := 15) X hH (kX2_isFull (by unfold fw_PL; decide) g16 _) qX2_isFull tw_3_45 ⟨Nat.le_of_ble_eq_true rfl, Nat.le_of_ble_eq_true rfl⟩ rfl rfl (by decide) (fc_13 (by decide)) rfl rfl hl.1 rfl (Nat.le_of_ble_eq_true rfl) dX7_insertRowsOf_95) (fun H locs hH => ?_)
      refine lv_if_eq (tgt := 105) hx hb dX7_insertRowsOf_98 (by decide) (fun hc => ?_) (fun hc => ?_)
      · have hf := fw_pos hc hf
        exact wX7_insertRowsOf_105 X x1 x2 x3 x4 y0 τ17 hf _ _ _ hH (lv_sub hl [1, 2, 3, 4, 5, 0] rfl)
      · have hf := fw_neg hc hf
        refine lv_sipush (v := (-10004 : Int32)) hx hb dX7_insertRowsOf_101 (by decide) ?_
        obtain ⟨rfl, rfl⟩ := fw_s2 hf
        exact fw_reti X hH dX7_insertRowsOf_104
  · have hf := fw_neg hc hf
    refine lv_aload_n hx hb dX7_insertRowsOf_70 rfl (lv_at hl 1 rfl) ?_
    refine fw_get (id := 0) (k := 1) (v := .ref (adr 12)) X hH (by decide) (fc_0 (by decide)) rfl inX7 (by decide) rfl tw_1_178 dX7_insertRowsOf_71 ?_
    refine fw_getN (id := 12) (k := 0) (v := .ref (adr 13)) X hH (by decide) (fc_12 (by decide)) rfl inX5 (by decide) rfl nw_1_85 dX7_insertRowsOf_74 ?_
    obtain ⟨w21, τ20, g19, hf⟩ := fw_b2s hf
    refine fw_ci hH (fw_rV (As := []) (rest := []) (id := 13) X hH (kX2_isFull (by unfold fw_PL; decide) g19 _) qX2_isFull tw_3_45 ⟨Nat.le_of_ble_eq_true rfl, Nat.le_of_ble_eq_true rfl⟩ rfl rfl (by decide) (fc_13 (by decide)) rfl rfl hl.1 rfl (Nat.le_of_ble_eq_true rfl) dX7_insertRowsOf_77) (fun H locs hH => ?_)
    refine lv_if_ne (tgt := 101) hx hb dX7_insertRowsOf_80 (by decide) (fun hc => ?_) (fun hc => ?_)
    · have hf := fw_neg hc hf
      refine lv_sipush (v := (-10004 : Int32)) hx hb dX7_insertRowsOf_101 (by decide) ?_
      obtain ⟨rfl, rfl⟩ := fw_s2 hf
      exact fw_reti X hH dX7_insertRowsOf_104
    · have hf := fw_pos hc hf
      refine lv_iload hx hb dX7_insertRowsOf_83 (lv_at hl 0 rfl) ?_
      refine lv_if_eq (tgt := 105) hx hb dX7_insertRowsOf_85 (by decide) (fun hc => ?_) (fun hc => ?_)
      · have hf := fw_pos hc hf
        exact wX7_insertRowsOf_105 X x1 x2 x3 x4 y0 τ20 hf _ _ _ hH (lv_sub hl [1, 2, 3, 4, 5, 0] rfl)
      · have hf := fw_neg hc hf
        refine lv_aload_n hx hb dX7_insertRowsOf_88 rfl (lv_at hl 1 rfl) ?_
        refine fw_get (id := 0) (k := 1) (v := .ref (adr 12)) X hH (by decide) (fc_0 (by decide)) rfl inX7 (by decide) rfl tw_1_178 dX7_insertRowsOf_89 ?_
        refine fw_getN (id := 12) (k := 1) (v := .ref (adr 15)) X hH (by decide) (fc_12 (by decide)) rfl inX5 (by decide) rfl nw_1_88 dX7_insertRowsOf_92 ?_
        obtain ⟨w24, τ23, g22, hf⟩ := fw_b2s hf
        refine fw_ci hH (fw_rV (As := []) (rest := []) (id := 15) X hH (kX2_isFull (by unfold fw_PL; decide) g22 _) qX2_isFull tw_3_45 ⟨Nat.le_of_ble_eq_true rfl, Nat.le_of_ble_eq_true rfl⟩ rfl rfl (by decide) (fc_13 (by decide)) rfl rfl hl.1 rfl (Nat.le_of_ble_eq_true rfl) dX7_insertRowsOf_95) (fun H locs hH => ?_)
        refine lv_if_eq (tgt := 105) hx hb dX7_insertRowsOf_98 (by decide) (fun hc => ?_) (fun hc => ?_)
        · have hf := fw_pos hc hf
          exact wX7_insertRowsOf_105 X x1 x2 x3 x4 y0 τ23 hf _ _ _ hH (lv_sub hl [1, 2, 3, 4, 5, 0] rfl)
        · have hf := fw_neg hc hf
          refine lv_sipush (v := (-10004 : Int32)) hx hb dX7_insertRowsOf_101 (by decide) ?_
          obtain ⟨rfl, rfl⟩ := fw_s2 hf
          exact fw_reti X hH dX7_insertRowsOf_104
def pX7_insertRowsOf_41 (x1 : Int32) (x2 : Int32) (x3 : Int32) (y0 : Int32) (σ : fw_T) : Option (Int32 × fw_T) :=
  fw_b2 (pX2_holds 15 x3 x2 σ) fun w9 τ8 =>
  if w9 = 0 then
    pX7_insertRowsOf_63 x1 x2 x3 y0 (1 : Int32) τ8
  else
    pX7_insertRowsOf_63 x1 x2 x3 y0 (0 : Int32) τ8
set_option maxRecDepth 100000 in
set_option maxHeartbeats 4000000 in
theorem wX7_insertRowsOf_41 {args : Array Value} {r : Int32} {σ' : fw_T} (X : fcX p m c cX7_insertRowsOf 7 s args RX7 meth (some .int) D cI cO)  : ∀ (x1 : Int32), ∀ (x2 : Int32), ∀ (x3 : Int32), ∀ (y0 : Int32), ∀ (σ : fw_T), pX7_insertRowsOf_41 x1 x2 x3 y0 σ = some (r, σ') → ∀ (H : Heap) (locs : List Loc) (ls : Array Slot), fcH D cI cO adr A s H locs σ → lv_has ls 7 [(0, .ref (adr 0)), (1, .int x1), (2, .int x2), (3, .int x3)] → W p l e rmX7_insertRowsOf s m args below meth c H locs 0 0 (fw_Qi D 96 adr (fw_C cI cO adr) A below args s r σ') (F0 m 41 ls [.int y0]) := by
  have hx := X.1.1
  have hb := X.1.2.1
  intro x1 x2 x3 y0 σ hf H locs ls hH hl
  unfold pX7_insertRowsOf_41 at hf
  refine lv_istore (lv' := [(4, .int y0), (0, .ref (adr 0)), (1, .int x1), (2, .int x2), (3, .int x3)]) hx hb dX7_insertRowsOf_41 hl (by decide) rfl (fun ls hl => ?_)
  refine lv_aload_n hx hb dX7_insertRowsOf_43 rfl (lv_at hl 1 rfl) ?_
  refine fw_get (id := 0) (k := 1) (v := .ref (adr 12)) X hH (by decide) (fc_0 (by decide)) rfl inX7 (by decide) rfl tw_1_178 dX7_insertRowsOf_44 ?_
  refine fw_getN (id := 12) (k := 1) (v := .ref (adr 15)) X hH (by decide) (fc_12 (by decide)) rfl inX5 (by decide) rfl nw_1_88 dX7_insertRowsOf_47 ?_
  refine lv_iload_n hx hb dX7_insertRowsOf_50 rfl (lv_at hl 4 rfl) ?_
  refine lv_iload_n hx hb dX7_insertRowsOf_51 rfl (lv_at hl 3 rfl) ?_
  obtain ⟨w9, τ8, g7, hf⟩ := fw_b2s hf
  refine fw_ci hH (fw_rV (As := [.int x3, .int x2]) (rest := []) (id := 15) X hH (kX2_holds (by unfold fw_PL; decide) g7 _) qX2_holds tw_3_44 ⟨Nat.le_of_ble_eq_true rfl, Nat.le_of_ble_eq_true rfl⟩ rfl rfl (by decide) (fc_13 (by decide)) rfl rfl hl.1 rfl (Nat.le_of_ble_eq_true rfl) dX7_insertRowsOf_52) (fun H locs hH => ?_)
  refine lv_if_ne (tgt := 62) hx hb dX7_insertRowsOf_55 (by decide) (fun hc => ?_) (fun hc => ?_)
  · have hf := fw_neg hc hf
    refine lv_iconst (v := (0 : Int32)) hx hb dX7_insertRowsOf_62 (by decide) ?_
    exact wX7_insertRowsOf_63 X x1 x2 x3 y0 (0 : Int32) τ8 hf _ _ _ hH (lv_sub hl [1, 2, 3, 4, 0] rfl)
  · have hf := fw_pos hc hf
    refine lv_iconst (v := (1 : Int32)) hx hb dX7_insertRowsOf_58 (by decide) ?_
    refine lv_goto (tgt := 63) hx hb dX7_insertRowsOf_59 (by decide) ?_
    exact wX7_insertRowsOf_63 X x1 x2 x3 y0 (1 : Int32) τ8 hf _ _ _ hH (lv_sub hl [1, 2, 3, 4, 0] rfl)
def pX7_insertRowsOf (x1 : Int32) (x2 : Int32) (σ : fw_T) : Option (Int32 × fw_T) :=
  fw_b2 (pX3_cheapestB x1 x2 σ) fun w3 τ2 =>
  if w3 = (-10001 : Int32) then
    some ((-10003 : Int32), τ2)
  else
    fw_b2 (pX2_holds 13 x1 w3 τ2) fun w6 τ5 =>
    if w6 = 0 then
      pX7_insertRowsOf_41 x1 x2 w3 (1 : Int32) τ5
    else
      pX7_insertRowsOf_41 x1 x2 w3 (0 : Int32) τ5
set_option maxRecDepth 100000 in
set_option maxHeartbeats 4000000 in
theorem kX7_insertRowsOf {x1 : Int32} {x2 : Int32} {r : Int32} {σ σ' : fw_T} (hf : pX7_insertRowsOf x1 x2 σ = some (r, σ')) : fw_Ci l yX7_insertRowsOf (Cond.code yX7_insertRowsOf cX7_insertRowsOf 7 (some .int) :: lwT) rmX7_insertRowsOf [.ref (adr 0), .int x1, .int x2] D 96 adr (fw_C cI cO adr) (fcT cI cO) nwC σ r σ' := by
  refine fw_start (Qc := (fun A => va_Qi (fun r' (_ : Unit) => r' = r) (fun _ t => va_P D vwCl (fw_ws 96 adr (fw_C cI cO adr σ')) t.heap) A)) (by decide) (by simp [lg_sl, Value.category]) rfl ?_
  intro p e s m below meth c A X hH ls hl
  have hx := X.1.1
  have hb := X.1.2.1
  have hl : lv_has ls 7 [(0, .ref (adr 0)), (1, .int x1), (2, .int x2)] := hl
  unfold pX7_insertRowsOf at hf
  refine lv_aload_n hx hb dX7_insertRowsOf_0 rfl (lv_at hl 0 rfl) ?_
  refine fw_get (id := 0) (k := 0) (v := .ref (adr 1)) X hH (by decide) (fc_0 (by decide)) rfl inX7 (by decide) rfl tw_1_177 dX7_insertRowsOf_1 ?_
  refine lv_iload_n hx hb dX7_insertRowsOf_4 rfl (lv_at hl 1 rfl) ?_
  refine lv_iload_n hx hb dX7_insertRowsOf_5 rfl (lv_at hl 2 rfl) ?_
  obtain ⟨w3, τ2, g1, hf⟩ := fw_b2s hf
  refine fw_ci hH (fw_rV (As := [.int x1, .int x2]) (rest := []) (id := 1) X hH (kX3_cheapestB  g1 _) qX3_cheapestB tw_3_43 ⟨Nat.le_of_ble_eq_true rfl, Nat.le_of_ble_eq_true rfl⟩ rfl rfl (by decide) (fc_1 (by decide)) rfl rfl hl.1 rfl (Nat.le_of_ble_eq_true rfl) dX7_insertRowsOf_6) (fun H locs hH => ?_)
  refine lv_istore_n (lv' := [(3, .int w3), (0, .ref (adr 0)), (1, .int x1), (2, .int x2)]) hx hb dX7_insertRowsOf_9 rfl hl (by decide) rfl (fun ls hl => ?_)
  refine lv_iload_n hx hb dX7_insertRowsOf_10 rfl (lv_at hl 0 rfl) ?_
  refine lv_sipush (v := (-10001 : Int32)) hx hb dX7_insertRowsOf_11 (by decide) ?_
  refine lv_icmp_ne (tgt := 21) hx hb dX7_insertRowsOf_14 (by decide) (fun hc => ?_) (fun hc => ?_)
  · have hf := fw_neg hc hf
    refine lv_aload_n hx hb dX7_insertRowsOf_21 rfl (lv_at hl 1 rfl) ?_
    refine fw_get (id := 0) (k := 1) (v := .ref (adr 12)) X hH (by decide) (fc_0 (by decide)) rfl inX7 (by decide) rfl tw_1_178 dX7_insertRowsOf_22 ?_
    refine fw_getN (id := 12) (k := 0) (v := .ref (adr 13)) X hH (by decide) (fc_12 (by decide)) rfl inX5 (by decide) rfl nw_1_85 dX7_insertRowsOf_25 ?_
    refine lv_iload_n hx hb dX7_insertRowsOf_28 rfl (lv_at hl 2 rfl) ?_
    refine lv_iload_n hx hb dX7_insertRowsOf_29 rfl (lv_at hl 0 rfl) ?_
    obtain ⟨w6, τ5, g4, hf⟩ := fw_b2s hf
    refine fw_ci hH (fw_rV (As := [.int x1, .int w3]) (rest := []) (id := 13) X hH (kX2_holds (by unfold fw_PL; decide) g4 _) qX2_holds tw_3_44 ⟨Nat.le_of_ble_eq_true rfl, Nat.le_of_ble_eq_true rfl⟩ rfl rfl (by decide) (fc_13 (by decide)) rfl rfl hl.1 rfl (Nat.le_of_ble_eq_true rfl) dX7_insertRowsOf_30) (fun H locs hH => ?_)
    refine lv_if_ne (tgt := 40) hx hb dX7_insertRowsOf_33 (by decide) (fun hc => ?_) (fun hc => ?_)
    · have hf := fw_neg hc hf
      refine lv_iconst (v := (0 : Int32)) hx hb dX7_insertRowsOf_40 (by decide) ?_
      exact wX7_insertRowsOf_41 X x1 x2 w3 (0 : Int32) τ5 hf _ _ _ hH (lv_sub hl [1, 2, 3, 0] rfl)
    · have hf := fw_pos hc hf
      refine lv_iconst (v := (1 : Int32)) hx hb dX7_insertRowsOf_36 (by decide) ?_
      refine lv_goto (tgt := 41) hx hb dX7_insertRowsOf_37 (by decide) ?_
      exact wX7_insertRowsOf_41 X x1 x2 w3 (1 : Int32) τ5 hf _ _ _ hH (lv_sub hl [1, 2, 3, 0] rfl)
  · have hf := fw_pos hc hf
    refine lv_sipush (v := (-10003 : Int32)) hx hb dX7_insertRowsOf_17 (by decide) ?_
    obtain ⟨rfl, rfl⟩ := fw_s2 hf
    exact fw_reti X hH dX7_insertRowsOf_20
abbrev rmX7_insertMissing : Room := { frames := 5, cells := 0, slots := 0, locals := 125 }
theorem qX7_insertMissing : fw_QV RX7 yX7_insertMissing cX7_insertMissing 3 (some .int) 2 := ⟨⟨tw_3_36, tw_3_37, tw_1_1, tw_3_38⟩, by decide +kernel⟩
def pX7_insertMissing (x1 : Int32) (x2 : Int32) (σ : fw_T) : Option (Int32 × fw_T) :=
  (pX1_draft 12 σ).bind fun τ2 =>
  fw_b2 (pX7_isPair x1 x2 τ2) fun w5 τ4 =>
  if w5 = 0 then
    fw_b2 (pX7_settle (-10002 : Int32) τ4) fun w8 τ7 =>
    some (w8, τ7)
  else
    fw_b2 (pX7_insertRowsOf x1 x2 τ4) fun w11 τ10 =>
    fw_b2 (pX7_settle w11 τ10) fun w14 τ13 =>
    some (w14, τ13)
set_option maxRecDepth 100000 in
set_option maxHeartbeats 4000000 in
theorem kX7_insertMissing {x1 : Int32} {x2 : Int32} {r : Int32} {σ σ' : fw_T} (hf : pX7_insertMissing x1 x2 σ = some (r, σ')) : fw_Ci l yX7_insertMissing (Cond.code yX7_insertMissing cX7_insertMissing 3 (some .int) :: lwT) rmX7_insertMissing [.ref (adr 0), .int x1, .int x2] D 96 adr (fw_C cI cO adr) (fcT cI cO) nwC σ r σ' := by
  refine fw_start (Qc := (fun A => va_Qi (fun r' (_ : Unit) => r' = r) (fun _ t => va_P D vwCl (fw_ws 96 adr (fw_C cI cO adr σ')) t.heap) A)) (by decide) (by simp [lg_sl, Value.category]) rfl ?_
  intro p e s m below meth c A X hH ls hl
  have hx := X.1.1
  have hb := X.1.2.1
  have hl : lv_has ls 3 [(0, .ref (adr 0)), (1, .int x1), (2, .int x2)] := hl
  unfold pX7_insertMissing at hf
  refine lv_aload_n hx hb dX7_insertMissing_0 rfl (lv_at hl 0 rfl) ?_
  refine fw_get (id := 0) (k := 2) (v := .ref (adr 2)) X hH (by decide) (fc_0 (by decide)) rfl inX7 (by decide) rfl tw_1_179 dX7_insertMissing_1 ?_
  refine lv_aload_n hx hb dX7_insertMissing_4 rfl (lv_at hl 0 rfl) ?_
  refine fw_get (id := 0) (k := 1) (v := .ref (adr 12)) X hH (by decide) (fc_0 (by decide)) rfl inX7 (by decide) rfl tw_1_178 dX7_insertMissing_5 ?_
  obtain ⟨τ2, g1, hf⟩ := fw_bd hf
  refine fw_cv hH (fw_rV (As := [.ref (adr 12)]) (rest := []) (id := 2) X hH (kX1_draft (by unfold fw_ST fw_PL fw_FL; decide) g1 _) qX1_draft tw_1_200 ⟨Nat.le_of_ble_eq_true rfl, Nat.le_of_ble_eq_true rfl⟩ rfl rfl (by decide) (fc_2 (by decide)) rfl rfl hl.1 rfl (Nat.le_of_ble_eq_true rfl) dX7_insertMissing_8) (fun H locs hH => ?_)
  refine lv_aload_n hx hb dX7_insertMissing_11 rfl (lv_at hl 0 rfl) ?_
  refine lv_iload_n hx hb dX7_insertMissing_12 rfl (lv_at hl 1 rfl) ?_
  refine lv_iload_n hx hb dX7_insertMissing_13 rfl (lv_at hl 2 rfl) ?_
  obtain ⟨w5, τ4, g3, hf⟩ := fw_b2s hf
  refine fw_ci hH (fw_rS (As := [.int x1, .int x2]) (rest := [.ref (adr 0)]) X hH (kX7_isPair  g3 _) qX7_isPair tw_2_166 ⟨Nat.le_of_ble_eq_true rfl, Nat.le_of_ble_eq_true rfl⟩ rfl rfl rfl hl.1 rfl (Nat.le_of_ble_eq_true rfl) dX7_insertMissing_14) (fun H locs hH => ?_)
  refine lv_if_eq (tgt := 29) hx hb dX7_insertMissing_17 (by decide) (fun hc => ?_) (fun hc => ?_)
  · have hf := fw_pos hc hf
    refine lv_sipush (v := (-10002 : Int32)) hx hb dX7_insertMissing_29 (by decide) ?_
    obtain ⟨w8, τ7, g6, hf⟩ := fw_b2s hf
    refine fw_ci hH (fw_rV (As := [.int (-10002 : Int32)]) (rest := []) (id := 0) X hH (kX7_settle  g6 _) qX7_settle tw_1_238 ⟨Nat.le_of_ble_eq_true rfl, Nat.le_of_ble_eq_true rfl⟩ rfl rfl (by decide) (fc_0 (by decide)) rfl rfl hl.1 rfl (Nat.le_of_ble_eq_true rfl) dX7_insertMissing_32) (fun H locs hH => ?_)
    obtain ⟨rfl, rfl⟩ := fw_s2 hf
    exact fw_reti X hH dX7_insertMissing_35
  · have hf := fw_neg hc hf
    refine lv_aload_n hx hb dX7_insertMissing_20 rfl (lv_at hl 0 rfl) ?_
    refine lv_iload_n hx hb dX7_insertMissing_21 rfl (lv_at hl 1 rfl) ?_
    refine lv_iload_n hx hb dX7_insertMissing_22 rfl (lv_at hl 2 rfl) ?_
    obtain ⟨w11, τ10, g9, hf⟩ := fw_b2s hf
    refine fw_ci hH (fw_rV (As := [.int x1, .int x2]) (rest := [.ref (adr 0)]) (id := 0) X hH (kX7_insertRowsOf  g9 _) qX7_insertRowsOf tw_3_39 ⟨Nat.le_of_ble_eq_true rfl, Nat.le_of_ble_eq_true rfl⟩ rfl rfl (by decide) (fc_0 (by decide)) rfl rfl hl.1 rfl (Nat.le_of_ble_eq_true rfl) dX7_insertMissing_23) (fun H locs hH => ?_)
    refine lv_goto (tgt := 32) hx hb dX7_insertMissing_26 (by decide) ?_
    obtain ⟨w14, τ13, g12, hf⟩ := fw_b2s hf
    refine fw_ci hH (fw_rV (As := [.int w11]) (rest := []) (id := 0) X hH (kX7_settle  g12 _) qX7_settle tw_1_238 ⟨Nat.le_of_ble_eq_true rfl, Nat.le_of_ble_eq_true rfl⟩ rfl rfl (by decide) (fc_0 (by decide)) rfl rfl hl.1 rfl (Nat.le_of_ble_eq_true rfl) dX7_insertMissing_32) (fun H locs hH => ?_)
    obtain ⟨rfl, rfl⟩ := fw_s2 hf
    exact fw_reti X hH dX7_insertMissing_35
abbrev rmX7_dropFiltersAgainst : Room := { frames := 5, cells := 0, slots := 0, locals := 113 }
theorem qX7_dropFiltersAgainst : fw_QV RX7 yX7_dropFiltersAgainst cX7_dropFiltersAgainst 5 (some .int) 2 := ⟨⟨tw_3_52, tv_X7_dropFiltersAgainst, tw_1_1, tw_3_53⟩, by decide +kernel⟩
def pX7_dropFiltersAgainst_24 : Nat → Int32 → Int32 → fw_T → Option (Int32 × fw_T)
  | 0, _, _, _ => none
  | n + 1, x3, x4, σ =>
    if x4 < 0 then
      fw_b2 (pJ6_bitCount_0f7a4 x3 σ) fun w6 τ5 =>
      some (w6, τ5)
    else
      if (x3 &&& ((1 : Int32) <<< (x4 &&& 31))) = 0 then
        pX7_dropFiltersAgainst_24 n x3 (x4 + (-1 : Int32)) σ
      else
        fw_b2 (pX0_drop 17 x4 σ) fun w9 τ8 =>
        pX7_dropFiltersAgainst_24 n x3 (x4 + (-1 : Int32)) τ8
set_option maxRecDepth 100000 in
set_option maxHeartbeats 4000000 in
theorem wX7_dropFiltersAgainst_24 {args : Array Value} {r : Int32} {σ' : fw_T} (X : fcX p m c cX7_dropFiltersAgainst 5 s args RX7 meth (some .int) D cI cO)  : ∀ (n : Nat), ∀ (x3 : Int32), ∀ (x4 : Int32), ∀ (σ : fw_T), pX7_dropFiltersAgainst_24 n x3 x4 σ = some (r, σ') → ∀ (H : Heap) (locs : List Loc) (ls : Array Slot), fcH D cI cO adr A s H locs σ → lv_has ls 5 [(0, .ref (adr 0)), (3, .int x3), (4, .int x4)] → W p l e rmX7_dropFiltersAgainst s m args below meth c H locs 0 0 (fw_Qi D 96 adr (fw_C cI cO adr) A below args s r σ') (F0 m 24 ls []) := by
  have hx := X.1.1
  have hb := X.1.2.1
  intro n
  induction n with
  | zero =>
    intro x3 x4 σ hf
    exact absurd hf (by simp [pX7_dropFiltersAgainst_24])
  | succ n ih =>
    intro x3 x4 σ hf H locs ls hH hl
    rw [pX7_dropFiltersAgainst_24] at hf
    refine lv_iload hx hb dX7_dropFiltersAgainst_24 (lv_at hl 2 rfl) ?_
    refine lv_if_lt (tgt := 57) hx hb dX7_dropFiltersAgainst_26 (by decide) (fun hc => ?_) (fun hc => ?_)
    · have hf := fw_pos hc hf
      refine lv_iload_n hx hb dX7_dropFiltersAgainst_57 rfl (lv_at hl 1 rfl) ?_
      obtain ⟨w6, τ5, g4, hf⟩ := fw_b2s hf
      refine fw_ci hH (fw_rS (As := [.int x3]) (rest := []) X hH (kJ6_bitCount_0f7a4  g4 _) qJ6_bitCount_0f7a4 tw_3_54 ⟨Nat.le_of_ble_eq_true rfl, Nat.le_of_ble_eq_true rfl⟩ rfl rfl rfl hl.1 rfl (Nat.le_of_ble_eq_true rfl) dX7_dropFiltersAgainst_58) (fun H locs hH => ?_)
      obtain ⟨rfl, rfl⟩ := fw_s2 hf
      exact fw_reti X hH dX7_dropFiltersAgainst_61
    · have hf := fw_neg hc hf
      refine lv_iload_n hx hb dX7_dropFiltersAgainst_29 rfl (lv_at hl 1 rfl) ?_
      refine lv_iconst (v := (1 : Int32)) hx hb dX7_dropFiltersAgainst_30 (by decide) ?_
      refine lv_iload hx hb dX7_dropFiltersAgainst_31 (lv_at hl 2 rfl) ?_
      refine lv_ishl hx hb dX7_dropFiltersAgainst_33 ?_
      refine lv_iand hx hb dX7_dropFiltersAgainst_34 ?_
      refine lv_if_eq (tgt := 51) hx hb dX7_dropFiltersAgainst_35 (by decide) (fun hc => ?_) (fun hc => ?_)
      · have hf := fw_pos hc hf
        refine lv_iinc (v := (x4 + (-1 : Int32))) (lv' := [(4, .int (x4 + (-1 : Int32))), (0, .ref (adr 0)), (3, .int x3)]) hx hb dX7_dropFiltersAgainst_51 hl (k := 2) rfl rfl (by decide) rfl (fun ls hl => ?_)
        refine lv_goto (tgt := 24) hx hb dX7_dropFiltersAgainst_54 (by decide) ?_
        exact ih x3 (x4 + (-1 : Int32)) σ hf _ _ _ hH (lv_sub hl [1, 2, 0] rfl)
      · have hf := fw_neg hc hf
        refine lv_aload_n hx hb dX7_dropFiltersAgainst_38 rfl (lv_at hl 0 rfl) ?_
        refine fw_get (id := 0) (k := 1) (v := .ref (adr 12)) X hH (by decide) (fc_0 (by decide)) rfl inX7 (by decide) rfl tw_1_178 dX7_dropFiltersAgainst_39 ?_
        refine fw_getN (id := 12) (k := 2) (v := .ref (adr 17)) X hH (by decide) (fc_12 (by decide)) rfl inX5 (by decide) rfl nw_1_92 dX7_dropFiltersAgainst_42 ?_
        refine lv_iload hx hb dX7_dropFiltersAgainst_45 (lv_at hl 2 rfl) ?_
        obtain ⟨w9, τ8, g7, hf⟩ := fw_b2s hf
        refine fw_ci hH (fw_rV (As := [.int x4]) (rest := []) (id := 17) X hH (kX0_drop (by unfold fw_FL; decide) g7 _) qX0_drop tw_2_61 ⟨Nat.le_of_ble_eq_true rfl, Nat.le_of_ble_eq_true rfl⟩ rfl rfl (by decide) (fc_15 (by decide)) rfl rfl hl.1 rfl (Nat.le_of_ble_eq_true rfl) dX7_dropFiltersAgainst_47) (fun H locs hH => ?_)
        refine lv_pop hx hb dX7_dropFiltersAgainst_50 rfl ?_
        refine lv_iinc (v := (x4 + (-1 : Int32))) (lv' := [(4, .int (x4 + (-1 : Int32))), (0, .ref (adr 0)), (3, .int x3)]) hx hb dX7_dropFiltersAgainst_51 hl (k := 2) rfl rfl (by decide) rfl (fun ls hl => ?_)
        refine lv_goto (tgt := 24) hx hb dX7_dropFiltersAgainst_54 (by decide) ?_
        exact ih x3 (x4 + (-1 : Int32)) τ8 hf _ _ _ hH (lv_sub hl [1, 2, 0] rfl)
def pX7_dropFiltersAgainst (x1 : Int32) (x2 : Int32) (σ : fw_T) : Option (Int32 × fw_T) :=
  fw_b2 (pX3_smallestRemoval x1 x2 σ) fun w3 τ2 =>
  if w3 = (-10001 : Int32) then
    some ((-10003 : Int32), τ2)
  else
    pX7_dropFiltersAgainst_24 400 w3 (5 : Int32) τ2
set_option maxRecDepth 100000 in
set_option maxHeartbeats 4000000 in
theorem kX7_dropFiltersAgainst {x1 : Int32} {x2 : Int32} {r : Int32} {σ σ' : fw_T} (hf : pX7_dropFiltersAgainst x1 x2 σ = some (r, σ')) : fw_Ci l yX7_dropFiltersAgainst (Cond.code yX7_dropFiltersAgainst cX7_dropFiltersAgainst 5 (some .int) :: lwT) rmX7_dropFiltersAgainst [.ref (adr 0), .int x1, .int x2] D 96 adr (fw_C cI cO adr) (fcT cI cO) nwC σ r σ' := by
  refine fw_start (Qc := (fun A => va_Qi (fun r' (_ : Unit) => r' = r) (fun _ t => va_P D vwCl (fw_ws 96 adr (fw_C cI cO adr σ')) t.heap) A)) (by decide) (by simp [lg_sl, Value.category]) rfl ?_
  intro p e s m below meth c A X hH ls hl
  have hx := X.1.1
  have hb := X.1.2.1
  have hl : lv_has ls 5 [(0, .ref (adr 0)), (1, .int x1), (2, .int x2)] := hl
  unfold pX7_dropFiltersAgainst at hf
  refine lv_aload_n hx hb dX7_dropFiltersAgainst_0 rfl (lv_at hl 0 rfl) ?_
  refine fw_get (id := 0) (k := 0) (v := .ref (adr 1)) X hH (by decide) (fc_0 (by decide)) rfl inX7 (by decide) rfl tw_1_177 dX7_dropFiltersAgainst_1 ?_
  refine lv_iload_n hx hb dX7_dropFiltersAgainst_4 rfl (lv_at hl 1 rfl) ?_
  refine lv_iload_n hx hb dX7_dropFiltersAgainst_5 rfl (lv_at hl 2 rfl) ?_
  obtain ⟨w3, τ2, g1, hf⟩ := fw_b2s hf
  refine fw_ci hH (fw_rV (As := [.int x1, .int x2]) (rest := []) (id := 1) X hH (kX3_smallestRemoval  g1 _) qX3_smallestRemoval tw_2_212 ⟨Nat.le_of_ble_eq_true rfl, Nat.le_of_ble_eq_true rfl⟩ rfl rfl (by decide) (fc_1 (by decide)) rfl rfl hl.1 rfl (Nat.le_of_ble_eq_true rfl) dX7_dropFiltersAgainst_6) (fun H locs hH => ?_)
  refine lv_istore_n (lv' := [(3, .int w3), (0, .ref (adr 0)), (1, .int x1), (2, .int x2)]) hx hb dX7_dropFiltersAgainst_9 rfl hl (by decide) rfl (fun ls hl => ?_)
  refine lv_iload_n hx hb dX7_dropFiltersAgainst_10 rfl (lv_at hl 0 rfl) ?_
  refine lv_sipush (v := (-10001 : Int32)) hx hb dX7_dropFiltersAgainst_11 (by decide) ?_
  refine lv_icmp_ne (tgt := 21) hx hb dX7_dropFiltersAgainst_14 (by decide) (fun hc => ?_) (fun hc => ?_)
  · have hf := fw_neg hc hf
    refine lv_iconst (v := (5 : Int32)) hx hb dX7_dropFiltersAgainst_21 (by decide) ?_
    refine lv_istore (lv' := [(4, .int (5 : Int32)), (3, .int w3), (0, .ref (adr 0)), (1, .int x1), (2, .int x2)]) hx hb dX7_dropFiltersAgainst_22 hl (by decide) rfl (fun ls hl => ?_)
    exact wX7_dropFiltersAgainst_24 X 400 w3 (5 : Int32) τ2 hf _ _ _ hH (lv_sub hl [2, 1, 0] rfl)
  · have hf := fw_pos hc hf
    refine lv_sipush (v := (-10003 : Int32)) hx hb dX7_dropFiltersAgainst_17 (by decide) ?_
    obtain ⟨rfl, rfl⟩ := fw_s2 hf
    exact fw_reti X hH dX7_dropFiltersAgainst_20
abbrev rmX7_loosen : Room := { frames := 6, cells := 0, slots := 0, locals := 137 }
theorem qX7_loosen : fw_QV RX7 yX7_loosen cX7_loosen 3 (some .int) 2 := ⟨⟨tw_3_47, tw_3_48, tw_1_1, tw_3_49⟩, by decide +kernel⟩
def pX7_loosen (x1 : Int32) (x2 : Int32) (σ : fw_T) : Option (Int32 × fw_T) :=
  (pX1_draft 12 σ).bind fun τ2 =>
  fw_b2 (pX7_isPair x1 x2 τ2) fun w5 τ4 =>
  if w5 = 0 then
    fw_b2 (pX7_settle (-10002 : Int32) τ4) fun w8 τ7 =>
    some (w8, τ7)
  else
    fw_b2 (pX7_dropFiltersAgainst x1 x2 τ4) fun w11 τ10 =>
    fw_b2 (pX7_settle w11 τ10) fun w14 τ13 =>
    some (w14, τ13)
set_option maxRecDepth 100000 in
set_option maxHeartbeats 4000000 in
theorem kX7_loosen {x1 : Int32} {x2 : Int32} {r : Int32} {σ σ' : fw_T} (hf : pX7_loosen x1 x2 σ = some (r, σ')) : fw_Ci l yX7_loosen (Cond.code yX7_loosen cX7_loosen 3 (some .int) :: lwT) rmX7_loosen [.ref (adr 0), .int x1, .int x2] D 96 adr (fw_C cI cO adr) (fcT cI cO) nwC σ r σ' := by
  refine fw_start (Qc := (fun A => va_Qi (fun r' (_ : Unit) => r' = r) (fun _ t => va_P D vwCl (fw_ws 96 adr (fw_C cI cO adr σ')) t.heap) A)) (by decide) (by simp [lg_sl, Value.category]) rfl ?_
  intro p e s m below meth c A X hH ls hl
  have hx := X.1.1
  have hb := X.1.2.1
  have hl : lv_has ls 3 [(0, .ref (adr 0)), (1, .int x1), (2, .int x2)] := hl
  unfold pX7_loosen at hf
  refine lv_aload_n hx hb dX7_loosen_0 rfl (lv_at hl 0 rfl) ?_
  refine fw_get (id := 0) (k := 2) (v := .ref (adr 2)) X hH (by decide) (fc_0 (by decide)) rfl inX7 (by decide) rfl tw_1_179 dX7_loosen_1 ?_
  refine lv_aload_n hx hb dX7_loosen_4 rfl (lv_at hl 0 rfl) ?_
  refine fw_get (id := 0) (k := 1) (v := .ref (adr 12)) X hH (by decide) (fc_0 (by decide)) rfl inX7 (by decide) rfl tw_1_178 dX7_loosen_5 ?_
  obtain ⟨τ2, g1, hf⟩ := fw_bd hf
  refine fw_cv hH (fw_rV (As := [.ref (adr 12)]) (rest := []) (id := 2) X hH (kX1_draft (by unfold fw_ST fw_PL fw_FL; decide) g1 _) qX1_draft tw_1_200 ⟨Nat.le_of_ble_eq_true rfl, Nat.le_of_ble_eq_true rfl⟩ rfl rfl (by decide) (fc_2 (by decide)) rfl rfl hl.1 rfl (Nat.le_of_ble_eq_true rfl) dX7_loosen_8) (fun H locs hH => ?_)
  refine lv_aload_n hx hb dX7_loosen_11 rfl (lv_at hl 0 rfl) ?_
  refine lv_iload_n hx hb dX7_loosen_12 rfl (lv_at hl 1 rfl) ?_
  refine lv_iload_n hx hb dX7_loosen_13 rfl (lv_at hl 2 rfl) ?_
  obtain ⟨w5, τ4, g3, hf⟩ := fw_b2s hf
  refine fw_ci hH (fw_rS (As := [.int x1, .int x2]) (rest := [.ref (adr 0)]) X hH (kX7_isPair  g3 _) qX7_isPair tw_2_166 ⟨Nat.le_of_ble_eq_true rfl, Nat.le_of_ble_eq_true rfl⟩ rfl rfl rfl hl.1 rfl (Nat.le_of_ble_eq_true rfl) dX7_loosen_14) (fun H locs hH => ?_)
  refine lv_if_eq (tgt := 29) hx hb dX7_loosen_17 (by decide) (fun hc => ?_) (fun hc => ?_)
  · have hf := fw_pos hc hf
    refine lv_sipush (v := (-10002 : Int32)) hx hb dX7_loosen_29 (by decide) ?_
    obtain ⟨w8, τ7, g6, hf⟩ := fw_b2s hf
    refine fw_ci hH (fw_rV (As := [.int (-10002 : Int32)]) (rest := []) (id := 0) X hH (kX7_settle  g6 _) qX7_settle tw_1_238 ⟨Nat.le_of_ble_eq_true rfl, Nat.le_of_ble_eq_true rfl⟩ rfl rfl (by decide) (fc_0 (by decide)) rfl rfl hl.1 rfl (Nat.le_of_ble_eq_true rfl) dX7_loosen_32) (fun H locs hH => ?_)
    obtain ⟨rfl, rfl⟩ := fw_s2 hf
    exact fw_reti X hH dX7_loosen_35
  · have hf := fw_neg hc hf
    refine lv_aload_n hx hb dX7_loosen_20 rfl (lv_at hl 0 rfl) ?_
    refine lv_iload_n hx hb dX7_loosen_21 rfl (lv_at hl 1 rfl) ?_
    refine lv_iload_n hx hb dX7_loosen_22 rfl (lv_at hl 2 rfl) ?_
    obtain ⟨w11, τ10, g9, hf⟩ := fw_b2s hf
    refine fw_ci hH (fw_rV (As := [.int x1, .int x2]) (rest := [.ref (adr 0)]) (id := 0) X hH (kX7_dropFiltersAgainst  g9 _) qX7_dropFiltersAgainst tw_3_50 ⟨Nat.le_of_ble_eq_true rfl, Nat.le_of_ble_eq_true rfl⟩ rfl rfl (by decide) (fc_0 (by decide)) rfl rfl hl.1 rfl (Nat.le_of_ble_eq_true rfl) dX7_loosen_23) (fun H locs hH => ?_)
    refine lv_goto (tgt := 32) hx hb dX7_loosen_26 (by decide) ?_
    obtain ⟨w14, τ13, g12, hf⟩ := fw_b2s hf
    refine fw_ci hH (fw_rV (As := [.int w11]) (rest := []) (id := 0) X hH (kX7_settle  g12 _) qX7_settle tw_1_238 ⟨Nat.le_of_ble_eq_true rfl, Nat.le_of_ble_eq_true rfl⟩ rfl rfl (by decide) (fc_0 (by decide)) rfl rfl hl.1 rfl (Nat.le_of_ble_eq_true rfl) dX7_loosen_32) (fun H locs hH => ?_)
    obtain ⟨rfl, rfl⟩ := fw_s2 hf
    exact fw_reti X hH dX7_loosen_35
abbrev rmX7_addWish : Room := { frames := 4, cells := 0, slots := 0, locals := 89 }
theorem qX7_addWish : fw_QV RX7 yX7_addWish cX7_addWish 3 (some .int) 2 := ⟨⟨tw_3_56, tw_3_57, tw_1_1, tw_3_58⟩, by decide +kernel⟩
def pX7_addWish (x1 : Int32) (x2 : Int32) (σ : fw_T) : Option (Int32 × fw_T) :=
  (pX1_draft 12 σ).bind fun τ2 =>
  fw_b2 (pX2_insert 22 x1 x2 τ2) fun w5 τ4 =>
  fw_b2 (pX7_settle w5 τ4) fun w8 τ7 =>
  some (w8, τ7)
set_option maxRecDepth 100000 in
set_option maxHeartbeats 4000000 in
theorem kX7_addWish {x1 : Int32} {x2 : Int32} {r : Int32} {σ σ' : fw_T} (hf : pX7_addWish x1 x2 σ = some (r, σ')) : fw_Ci l yX7_addWish (Cond.code yX7_addWish cX7_addWish 3 (some .int) :: lwT) rmX7_addWish [.ref (adr 0), .int x1, .int x2] D 96 adr (fw_C cI cO adr) (fcT cI cO) nwC σ r σ' := by
  refine fw_start (Qc := (fun A => va_Qi (fun r' (_ : Unit) => r' = r) (fun _ t => va_P D vwCl (fw_ws 96 adr (fw_C cI cO adr σ')) t.heap) A)) (by decide) (by simp [lg_sl, Value.category]) rfl ?_
  intro p e s m below meth c A X hH ls hl
  have hx := X.1.1
  have hb := X.1.2.1
  have hl : lv_has ls 3 [(0, .ref (adr 0)), (1, .int x1), (2, .int x2)] := hl
  unfold pX7_addWish at hf
  refine lv_aload_n hx hb dX7_addWish_0 rfl (lv_at hl 0 rfl) ?_
  refine fw_get (id := 0) (k := 2) (v := .ref (adr 2)) X hH (by decide) (fc_0 (by decide)) rfl inX7 (by decide) rfl tw_1_179 dX7_addWish_1 ?_
  refine lv_aload_n hx hb dX7_addWish_4 rfl (lv_at hl 0 rfl) ?_
  refine fw_get (id := 0) (k := 1) (v := .ref (adr 12)) X hH (by decide) (fc_0 (by decide)) rfl inX7 (by decide) rfl tw_1_178 dX7_addWish_5 ?_
  obtain ⟨τ2, g1, hf⟩ := fw_bd hf
  refine fw_cv hH (fw_rV (As := [.ref (adr 12)]) (rest := []) (id := 2) X hH (kX1_draft (by unfold fw_ST fw_PL fw_FL; decide) g1 _) qX1_draft tw_1_200 ⟨Nat.le_of_ble_eq_true rfl, Nat.le_of_ble_eq_true rfl⟩ rfl rfl (by decide) (fc_2 (by decide)) rfl rfl hl.1 rfl (Nat.le_of_ble_eq_true rfl) dX7_addWish_8) (fun H locs hH => ?_)
  refine lv_aload_n hx hb dX7_addWish_11 rfl (lv_at hl 0 rfl) ?_
  refine lv_aload_n hx hb dX7_addWish_12 rfl (lv_at hl 0 rfl) ?_
  refine fw_get (id := 0) (k := 1) (v := .ref (adr 12)) X hH (by decide) (fc_0 (by decide)) rfl inX7 (by decide) rfl tw_1_178 dX7_addWish_13 ?_
  refine fw_getN (id := 12) (k := 3) (v := .ref (adr 22)) X hH (by decide) (fc_12 (by decide)) rfl inX5 (by decide) rfl nw_1_95 dX7_addWish_16 ?_
  refine lv_iload_n hx hb dX7_addWish_19 rfl (lv_at hl 1 rfl) ?_
  refine lv_iload_n hx hb dX7_addWish_20 rfl (lv_at hl 2 rfl) ?_
  obtain ⟨w5, τ4, g3, hf⟩ := fw_b2s hf
  refine fw_ci hH (fw_rV (As := [.int x1, .int x2]) (rest := [.ref (adr 0)]) (id := 22) X hH (kX2_insert (by unfold fw_PL; decide) g3 _) qX2_insert tw_1_220 ⟨Nat.le_of_ble_eq_true rfl, Nat.le_of_ble_eq_true rfl⟩ rfl rfl (by decide) (fc_13 (by decide)) rfl rfl hl.1 rfl (Nat.le_of_ble_eq_true rfl) dX7_addWish_21) (fun H locs hH => ?_)
  obtain ⟨w8, τ7, g6, hf⟩ := fw_b2s hf
  refine fw_ci hH (fw_rV (As := [.int w5]) (rest := []) (id := 0) X hH (kX7_settle  g6 _) qX7_settle tw_1_238 ⟨Nat.le_of_ble_eq_true rfl, Nat.le_of_ble_eq_true rfl⟩ rfl rfl (by decide) (fc_0 (by decide)) rfl rfl hl.1 rfl (Nat.le_of_ble_eq_true rfl) dX7_addWish_24) (fun H locs hH => ?_)
  obtain ⟨rfl, rfl⟩ := fw_s2 hf
  exact fw_reti X hH dX7_addWish_27
abbrev rmX2_dropAll : Room := { frames := 0, cells := 0, slots := 0, locals := 0 }
theorem qX2_dropAll : fw_QV RX2 yX2_dropAll cX2_dropAll 2 (some .int) 0 := ⟨⟨tw_3_64, tw_3_65, tw_1_4, tw_3_66⟩, by decide +kernel⟩
def pX2_dropAll (h : Nat) (σ : fw_T) : Option (Int32 × fw_T) :=
  some ((fw_g σ h 2), (fw_u σ h 2 (0 : Int32)))
set_option maxRecDepth 100000 in
set_option maxHeartbeats 4000000 in
theorem kX2_dropAll {h : Nat} (hk : fw_PL h) {r : Int32} {σ σ' : fw_T} (hf : pX2_dropAll h σ = some (r, σ')) : fw_Ci l yX2_dropAll (Cond.code yX2_dropAll cX2_dropAll 2 (some .int) :: lwT) rmX2_dropAll [.ref (adr h)] D 96 adr (fw_C cI cO adr) (fcT cI cO) nwC σ r σ' := by
  refine fw_start (Qc := (fun A => va_Qi (fun r' (_ : Unit) => r' = r) (fun _ t => va_P D vwCl (fw_ws 96 adr (fw_C cI cO adr σ')) t.heap) A)) (by decide) (by simp [lg_sl, Value.category]) rfl ?_
  intro p e s m below meth c A X hH ls hl
  have hx := X.1.1
  have hb := X.1.2.1
  have hl : lv_has ls 2 [(0, .ref (adr h))] := hl
  unfold pX2_dropAll at hf
  refine lv_aload_n hx hb dX2_dropAll_0 rfl (lv_at hl 0 rfl) ?_
  refine fw_get (id := h) (k := 2) (v := .int (fw_g σ h 2)) X hH hk.2.1 (fc_13 hk.1) rfl inX2 (by decide) rfl tw_1_45 dX2_dropAll_1 ?_
  refine lv_istore_n (lv' := [(1, .int (fw_g σ h 2)), (0, .ref (adr h))]) hx hb dX2_dropAll_4 rfl hl (by decide) rfl (fun ls hl => ?_)
  refine lv_aload_n hx hb dX2_dropAll_5 rfl (lv_at hl 1 rfl) ?_
  refine lv_iconst (v := (0 : Int32)) hx hb dX2_dropAll_6 (by decide) ?_
  refine fw_put (id := h) (k := 2) (v := .int (0 : Int32)) (ty := .int) (σ' := (fw_u σ h 2 (0 : Int32))) X hH hk.2.1 (fc_13 hk.1) (fp_13_2 hk.1) (fun j h => fc_ne h) rfl inX2 tyX2 tyX2_ok nmX2 (by decide) (Nat.le_of_ble_eq_true rfl) rfl (by decide +kernel) rfl rfl tw_1_45 dX2_dropAll_7 (fun H locs hH => ?_)
  refine lv_iload_n hx hb dX2_dropAll_10 rfl (lv_at hl 0 rfl) ?_
  obtain ⟨rfl, rfl⟩ := fw_s2 hf
  exact fw_reti X hH dX2_dropAll_11
abbrev rmX7_clearWishes : Room := { frames := 4, cells := 0, slots := 0, locals := 89 }
theorem qX7_clearWishes : fw_QV RX7 yX7_clearWishes cX7_clearWishes 1 (some .int) 0 := ⟨⟨tw_3_60, tw_3_61, tw_1_1, tw_3_62⟩, by decide +kernel⟩
def pX7_clearWishes (σ : fw_T) : Option (Int32 × fw_T) :=
  (pX1_draft 12 σ).bind fun τ2 =>
  fw_b2 (pX2_dropAll 22 τ2) fun w5 τ4 =>
  fw_b2 (pX7_settle w5 τ4) fun w8 τ7 =>
  some (w8, τ7)
set_option maxRecDepth 100000 in
set_option maxHeartbeats 4000000 in
theorem kX7_clearWishes {r : Int32} {σ σ' : fw_T} (hf : pX7_clearWishes σ = some (r, σ')) : fw_Ci l yX7_clearWishes (Cond.code yX7_clearWishes cX7_clearWishes 1 (some .int) :: lwT) rmX7_clearWishes [.ref (adr 0)] D 96 adr (fw_C cI cO adr) (fcT cI cO) nwC σ r σ' := by
  refine fw_start (Qc := (fun A => va_Qi (fun r' (_ : Unit) => r' = r) (fun _ t => va_P D vwCl (fw_ws 96 adr (fw_C cI cO adr σ')) t.heap) A)) (by decide) (by simp [lg_sl, Value.category]) rfl ?_
  intro p e s m below meth c A X hH ls hl
  have hx := X.1.1
  have hb := X.1.2.1
  have hl : lv_has ls 1 [(0, .ref (adr 0))] := hl
  unfold pX7_clearWishes at hf
  refine lv_aload_n hx hb dX7_clearWishes_0 rfl (lv_at hl 0 rfl) ?_
  refine fw_get (id := 0) (k := 2) (v := .ref (adr 2)) X hH (by decide) (fc_0 (by decide)) rfl inX7 (by decide) rfl tw_1_179 dX7_clearWishes_1 ?_
  refine lv_aload_n hx hb dX7_clearWishes_4 rfl (lv_at hl 0 rfl) ?_
  refine fw_get (id := 0) (k := 1) (v := .ref (adr 12)) X hH (by decide) (fc_0 (by decide)) rfl inX7 (by decide) rfl tw_1_178 dX7_clearWishes_5 ?_
  obtain ⟨τ2, g1, hf⟩ := fw_bd hf
  refine fw_cv hH (fw_rV (As := [.ref (adr 12)]) (rest := []) (id := 2) X hH (kX1_draft (by unfold fw_ST fw_PL fw_FL; decide) g1 _) qX1_draft tw_1_200 ⟨Nat.le_of_ble_eq_true rfl, Nat.le_of_ble_eq_true rfl⟩ rfl rfl (by decide) (fc_2 (by decide)) rfl rfl hl.1 rfl (Nat.le_of_ble_eq_true rfl) dX7_clearWishes_8) (fun H locs hH => ?_)
  refine lv_aload_n hx hb dX7_clearWishes_11 rfl (lv_at hl 0 rfl) ?_
  refine lv_aload_n hx hb dX7_clearWishes_12 rfl (lv_at hl 0 rfl) ?_
  refine fw_get (id := 0) (k := 1) (v := .ref (adr 12)) X hH (by decide) (fc_0 (by decide)) rfl inX7 (by decide) rfl tw_1_178 dX7_clearWishes_13 ?_
  refine fw_getN (id := 12) (k := 3) (v := .ref (adr 22)) X hH (by decide) (fc_12 (by decide)) rfl inX5 (by decide) rfl nw_1_95 dX7_clearWishes_16 ?_
  obtain ⟨w5, τ4, g3, hf⟩ := fw_b2s hf
  refine fw_ci hH (fw_rV (As := []) (rest := [.ref (adr 0)]) (id := 22) X hH (kX2_dropAll (by unfold fw_PL; decide) g3 _) qX2_dropAll tw_3_63 ⟨Nat.le_of_ble_eq_true rfl, Nat.le_of_ble_eq_true rfl⟩ rfl rfl (by decide) (fc_13 (by decide)) rfl rfl hl.1 rfl (Nat.le_of_ble_eq_true rfl) dX7_clearWishes_19) (fun H locs hH => ?_)
  obtain ⟨w8, τ7, g6, hf⟩ := fw_b2s hf
  refine fw_ci hH (fw_rV (As := [.int w5]) (rest := []) (id := 0) X hH (kX7_settle  g6 _) qX7_settle tw_1_238 ⟨Nat.le_of_ble_eq_true rfl, Nat.le_of_ble_eq_true rfl⟩ rfl rfl (by decide) (fc_0 (by decide)) rfl rfl hl.1 rfl (Nat.le_of_ble_eq_true rfl) dX7_clearWishes_22) (fun H locs hH => ?_)
  obtain ⟨rfl, rfl⟩ := fw_s2 hf
  exact fw_reti X hH dX7_clearWishes_25
abbrev rmX3_countSatisfiedWishes : Room := { frames := 5, cells := 0, slots := 0, locals := 112 }
theorem qX3_countSatisfiedWishes : fw_QV RX3 yX3_countSatisfiedWishes cX3_countSatisfiedWishes 3 (some .int) 0 := ⟨⟨tw_3_72, tw_3_73, tw_1_2, tw_3_74⟩, by decide +kernel⟩
def pX3_countSatisfiedWishes_4 : Nat → Int32 → Int32 → fw_T → Option (Int32 × fw_T)
  | 0, _, _, _ => none
  | n + 1, x1, x2, σ =>
    if (fw_g σ 22 2) ≤ x2 then
      some (x1, σ)
    else
      fw_b2 (pX2_firstAt 22 x2 σ) fun w3 τ2 =>
      fw_b2 (pX2_secondAt 22 x2 τ2) fun w6 τ5 =>
      fw_b2 (pX3_countMatches w3 w6 τ5) fun w9 τ8 =>
      if w9 ≤ 0 then
        pX3_countSatisfiedWishes_4 n x1 (x2 + (1 : Int32)) τ8
      else
        pX3_countSatisfiedWishes_4 n (x1 + (1 : Int32)) (x2 + (1 : Int32)) τ8
set_option maxRecDepth 100000 in
set_option maxHeartbeats 4000000 in
theorem wX3_countSatisfiedWishes_4 {args : Array Value} {r : Int32} {σ' : fw_T} (X : fcX p m c cX3_countSatisfiedWishes 3 s args RX3 meth (some .int) D cI cO)  : ∀ (n : Nat), ∀ (x1 : Int32), ∀ (x2 : Int32), ∀ (σ : fw_T), pX3_countSatisfiedWishes_4 n x1 x2 σ = some (r, σ') → ∀ (H : Heap) (locs : List Loc) (ls : Array Slot), fcH D cI cO adr A s H locs σ → lv_has ls 3 [(0, .ref (adr 1)), (1, .int x1), (2, .int x2)] → W p l e rmX3_countSatisfiedWishes s m args below meth c H locs 0 0 (fw_Qi D 96 adr (fw_C cI cO adr) A below args s r σ') (F0 m 4 ls []) := by
  have hx := X.1.1
  have hb := X.1.2.1
  intro n
  induction n with
  | zero =>
    intro x1 x2 σ hf
    exact absurd hf (by simp [pX3_countSatisfiedWishes_4])
  | succ n ih =>
    intro x1 x2 σ hf H locs ls hH hl
    rw [pX3_countSatisfiedWishes_4] at hf
    refine lv_iload_n hx hb dX3_countSatisfiedWishes_4 rfl (lv_at hl 2 rfl) ?_
    refine lv_aload_n hx hb dX3_countSatisfiedWishes_5 rfl (lv_at hl 0 rfl) ?_
    refine fw_get (id := 1) (k := 0) (v := .ref (adr 12)) X hH (by decide) (fc_1 (by decide)) rfl inX3 (by decide) rfl tw_1_105 dX3_countSatisfiedWishes_6 ?_
    refine fw_getN (id := 12) (k := 3) (v := .ref (adr 22)) X hH (by decide) (fc_12 (by decide)) rfl inX5 (by decide) rfl nw_1_94 dX3_countSatisfiedWishes_9 ?_
    refine fw_getN (id := 22) (k := 2) (v := .int (fw_g σ 22 2)) X hH (by decide) (fc_13 (by decide)) rfl inX2 (by decide) rfl nw_1_46 dX3_countSatisfiedWishes_12 ?_
    refine lv_icmp_ge (tgt := 56) hx hb dX3_countSatisfiedWishes_15 (by decide) (fun hc => ?_) (fun hc => ?_)
    · have hf := fw_pos hc hf
      refine lv_iload_n hx hb dX3_countSatisfiedWishes_56 rfl (lv_at hl 1 rfl) ?_
      obtain ⟨rfl, rfl⟩ := fw_s2 hf
      exact fw_reti X hH dX3_countSatisfiedWishes_57
    · have hf := fw_neg hc hf
      refine lv_aload_n hx hb dX3_countSatisfiedWishes_18 rfl (lv_at hl 0 rfl) ?_
      refine lv_aload_n hx hb dX3_countSatisfiedWishes_19 rfl (lv_at hl 0 rfl) ?_
      refine fw_get (id := 1) (k := 0) (v := .ref (adr 12)) X hH (by decide) (fc_1 (by decide)) rfl inX3 (by decide) rfl tw_1_105 dX3_countSatisfiedWishes_20 ?_
      refine fw_getN (id := 12) (k := 3) (v := .ref (adr 22)) X hH (by decide) (fc_12 (by decide)) rfl inX5 (by decide) rfl nw_1_94 dX3_countSatisfiedWishes_23 ?_
      refine lv_iload_n hx hb dX3_countSatisfiedWishes_26 rfl (lv_at hl 2 rfl) ?_
      obtain ⟨w3, τ2, g1, hf⟩ := fw_b2s hf
      refine fw_ci hH (fw_rV (As := [.int x2]) (rest := [.ref (adr 1)]) (id := 22) X hH (kX2_firstAt (by unfold fw_PL; decide) g1 _) qX2_firstAt tw_2_106 ⟨Nat.le_of_ble_eq_true rfl, Nat.le_of_ble_eq_true rfl⟩ rfl rfl (by decide) (fc_13 (by decide)) rfl rfl hl.1 rfl (Nat.le_of_ble_eq_true rfl) dX3_countSatisfiedWishes_27) (fun H locs hH => ?_)
      refine lv_aload_n hx hb dX3_countSatisfiedWishes_30 rfl (lv_at hl 0 rfl) ?_
      refine fw_get (id := 1) (k := 0) (v := .ref (adr 12)) X hH (by decide) (fc_1 (by decide)) rfl inX3 (by decide) rfl tw_1_105 dX3_countSatisfiedWishes_31 ?_
      refine fw_getN (id := 12) (k := 3) (v := .ref (adr 22)) X hH (by decide) (fc_12 (by decide)) rfl inX5 (by decide) rfl nw_1_94 dX3_countSatisfiedWishes_34 ?_
      refine lv_iload_n hx hb dX3_countSatisfiedWishes_37 rfl (lv_at hl 2 rfl) ?_
      obtain ⟨w6, τ5, g4, hf⟩ := fw_b2s hf
      refine fw_ci hH (fw_rV (As := [.int x2]) (rest := [.int w3, .ref (adr 1)]) (id := 22) X hH (kX2_secondAt (by unfold fw_PL; decide) g4 _) qX2_secondAt tw_2_111 ⟨Nat.le_of_ble_eq_true rfl, Nat.le_of_ble_eq_true rfl⟩ rfl rfl (by decide) (fc_13 (by decide)) rfl rfl hl.1 rfl (Nat.le_of_ble_eq_true rfl) dX3_countSatisfiedWishes_38) (fun H locs hH => ?_)
      obtain ⟨w9, τ8, g7, hf⟩ := fw_b2s hf
      refine fw_ci hH (fw_rV (As := [.int w3, .int w6]) (rest := []) (id := 1) X hH (kX3_countMatches  g7 _) qX3_countMatches tw_3_75 ⟨Nat.le_of_ble_eq_true rfl, Nat.le_of_ble_eq_true rfl⟩ rfl rfl (by decide) (fc_1 (by decide)) rfl rfl hl.1 rfl (Nat.le_of_ble_eq_true rfl) dX3_countSatisfiedWishes_41) (fun H locs hH => ?_)
      refine lv_if_le (tgt := 50) hx hb dX3_countSatisfiedWishes_44 (by decide) (fun hc => ?_) (fun hc => ?_)
      · have hf := fw_pos hc hf
        refine lv_iinc (v := (x2 + (1 : Int32))) (lv' := [(2, .int (x2 + (1 : Int32))), (0, .ref (adr 1)), (1, .int x1)]) hx hb dX3_countSatisfiedWishes_50 hl (k := 2) rfl rfl (by decide) rfl (fun ls hl => ?_)
        refine lv_goto (tgt := 4) hx hb dX3_countSatisfiedWishes_53 (by decide) ?_
        exact ih x1 (x2 + (1 : Int32)) τ8 hf _ _ _ hH (lv_sub hl [1, 2, 0] rfl)
      · have hf := fw_neg hc hf
        refine lv_iinc (v := (x1 + (1 : Int32))) (lv' := [(1, .int (x1 + (1 : Int32))), (0, .ref (adr 1)), (2, .int x2)]) hx hb dX3_countSatisfiedWishes_47 hl (k := 1) rfl rfl (by decide) rfl (fun ls hl => ?_)
        refine lv_iinc (v := (x2 + (1 : Int32))) (lv' := [(2, .int (x2 + (1 : Int32))), (1, .int (x1 + (1 : Int32))), (0, .ref (adr 1))]) hx hb dX3_countSatisfiedWishes_50 hl (k := 2) rfl rfl (by decide) rfl (fun ls hl => ?_)
        refine lv_goto (tgt := 4) hx hb dX3_countSatisfiedWishes_53 (by decide) ?_
        exact ih (x1 + (1 : Int32)) (x2 + (1 : Int32)) τ8 hf _ _ _ hH (lv_sub hl [2, 1, 0] rfl)
def pX3_countSatisfiedWishes (σ : fw_T) : Option (Int32 × fw_T) :=
  pX3_countSatisfiedWishes_4 400 (0 : Int32) (0 : Int32) σ
set_option maxRecDepth 100000 in
set_option maxHeartbeats 4000000 in
theorem kX3_countSatisfiedWishes {r : Int32} {σ σ' : fw_T} (hf : pX3_countSatisfiedWishes σ = some (r, σ')) : fw_Ci l yX3_countSatisfiedWishes (Cond.code yX3_countSatisfiedWishes cX3_countSatisfiedWishes 3 (some .int) :: lwT) rmX3_countSatisfiedWishes [.ref (adr 1)] D 96 adr (fw_C cI cO adr) (fcT cI cO) nwC σ r σ' := by
  refine fw_start (Qc := (fun A => va_Qi (fun r' (_ : Unit) => r' = r) (fun _ t => va_P D vwCl (fw_ws 96 adr (fw_C cI cO adr σ')) t.heap) A)) (by decide) (by simp [lg_sl, Value.category]) rfl ?_
  intro p e s m below meth c A X hH ls hl
  have hx := X.1.1
  have hb := X.1.2.1
  have hl : lv_has ls 3 [(0, .ref (adr 1))] := hl
  unfold pX3_countSatisfiedWishes at hf
  refine lv_iconst (v := (0 : Int32)) hx hb dX3_countSatisfiedWishes_0 (by decide) ?_
  refine lv_istore_n (lv' := [(1, .int (0 : Int32)), (0, .ref (adr 1))]) hx hb dX3_countSatisfiedWishes_1 rfl hl (by decide) rfl (fun ls hl => ?_)
  refine lv_iconst (v := (0 : Int32)) hx hb dX3_countSatisfiedWishes_2 (by decide) ?_
  refine lv_istore_n (lv' := [(2, .int (0 : Int32)), (1, .int (0 : Int32)), (0, .ref (adr 1))]) hx hb dX3_countSatisfiedWishes_3 rfl hl (by decide) rfl (fun ls hl => ?_)
  exact wX3_countSatisfiedWishes_4 X 400 (0 : Int32) (0 : Int32) σ hf _ _ _ hH (lv_sub hl [2, 1, 0] rfl)
abbrev rmX7_satisfiedWishes : Room := { frames := 6, cells := 0, slots := 0, locals := 134 }
theorem qX7_satisfiedWishes : fw_QV RX7 yX7_satisfiedWishes cX7_satisfiedWishes 1 (some .int) 0 := ⟨⟨tw_3_68, tw_3_69, tw_1_1, tw_3_70⟩, by decide +kernel⟩
def pX7_satisfiedWishes (σ : fw_T) : Option (Int32 × fw_T) :=
  fw_b2 (pX3_countSatisfiedWishes σ) fun w3 τ2 =>
  some (w3, τ2)
set_option maxRecDepth 100000 in
set_option maxHeartbeats 4000000 in
theorem kX7_satisfiedWishes {r : Int32} {σ σ' : fw_T} (hf : pX7_satisfiedWishes σ = some (r, σ')) : fw_Ci l yX7_satisfiedWishes (Cond.code yX7_satisfiedWishes cX7_satisfiedWishes 1 (some .int) :: lwT) rmX7_satisfiedWishes [.ref (adr 0)] D 96 adr (fw_C cI cO adr) (fcT cI cO) nwC σ r σ' := by
  refine fw_start (Qc := (fun A => va_Qi (fun r' (_ : Unit) => r' = r) (fun _ t => va_P D vwCl (fw_ws 96 adr (fw_C cI cO adr σ')) t.heap) A)) (by decide) (by simp [lg_sl, Value.category]) rfl ?_
  intro p e s m below meth c A X hH ls hl
  have hx := X.1.1
  have hb := X.1.2.1
  have hl : lv_has ls 1 [(0, .ref (adr 0))] := hl
  unfold pX7_satisfiedWishes at hf
  refine lv_aload_n hx hb dX7_satisfiedWishes_0 rfl (lv_at hl 0 rfl) ?_
  refine fw_get (id := 0) (k := 0) (v := .ref (adr 1)) X hH (by decide) (fc_0 (by decide)) rfl inX7 (by decide) rfl tw_1_177 dX7_satisfiedWishes_1 ?_
  obtain ⟨w3, τ2, g1, hf⟩ := fw_b2s hf
  refine fw_ci hH (fw_rV (As := []) (rest := []) (id := 1) X hH (kX3_countSatisfiedWishes  g1 _) qX3_countSatisfiedWishes tw_3_71 ⟨Nat.le_of_ble_eq_true rfl, Nat.le_of_ble_eq_true rfl⟩ rfl rfl (by decide) (fc_1 (by decide)) rfl rfl hl.1 rfl (Nat.le_of_ble_eq_true rfl) dX7_satisfiedWishes_4) (fun H locs hH => ?_)
  obtain ⟨rfl, rfl⟩ := fw_s2 hf
  exact fw_reti X hH dX7_satisfiedWishes_7
abbrev rmX3_listWishRejecters : Room := { frames := 4, cells := 0, slots := 0, locals := 87 }
theorem qX3_listWishRejecters : fw_QV RX3 yX3_listWishRejecters cX3_listWishRejecters 6 none 0 := ⟨⟨tw_3_86, tv_X3_listWishRejecters, tw_1_2, tw_3_87⟩, by decide +kernel⟩
def pX3_listWishRejecters_56 (K2 : Int32 → fw_T → Option (fw_T)) : Nat → Int32 → Int32 → Int32 → Int32 → Int32 → fw_T → Option (fw_T)
  | 0, _, _, _, _, _, _ => none
  | n + 1, x1, x2, x3, x4, x5, σ =>
    if (10 : Int32) ≤ x5 then
      K2 (x1 + (1 : Int32)) σ
    else
      fw_b2 (pX7_isIn x4 x5 σ) fun w12 τ11 =>
      if w12 = 0 then
        (fw_wr τ11 11 40 (((10 : Int32) * x1) + x5) (-10001 : Int32)).bind fun τ13 =>
        pX3_listWishRejecters_56 K2 n x1 x2 x3 x4 (x5 + (1 : Int32)) τ13
      else
        fw_b2 (pX0_rejecters 17 x2 x5 x3 τ11) fun w17 τ16 =>
        (fw_wr τ16 11 40 (((10 : Int32) * x1) + x5) w17).bind fun τ18 =>
        pX3_listWishRejecters_56 K2 n x1 x2 x3 x4 (x5 + (1 : Int32)) τ18
set_option maxRecDepth 100000 in
set_option maxHeartbeats 4000000 in
theorem wX3_listWishRejecters_56 {args : Array Value} {σ' : fw_T} {K2 : Int32 → fw_T → Option (fw_T)} (X : fcX p m c cX3_listWishRejecters 6 s args RX3 meth none D cI cO) (hK2 : ∀ (x1 : Int32), ∀ (σ : fw_T), K2 x1 σ = some σ' → ∀ (H : Heap) (locs : List Loc) (ls : Array Slot), fcH D cI cO adr A s H locs σ → lv_has ls 6 [(0, .ref (adr 1)), (1, .int x1)] → W p l e rmX3_listWishRejecters s m args below meth c H locs 0 0 (fw_Qv D 96 adr (fw_C cI cO adr) A below args s σ') (F0 m 2 ls [])) : ∀ (n : Nat), ∀ (x1 : Int32), ∀ (x2 : Int32), ∀ (x3 : Int32), ∀ (x4 : Int32), ∀ (x5 : Int32), ∀ (σ : fw_T), pX3_listWishRejecters_56 K2 n x1 x2 x3 x4 x5 σ = some σ' → ∀ (H : Heap) (locs : List Loc) (ls : Array Slot), fcH D cI cO adr A s H locs σ → lv_has ls 6 [(0, .ref (adr 1)), (1, .int x1), (2, .int x2), (3, .int x3), (4, .int x4), (5, .int x5)] → W p l e rmX3_listWishRejecters s m args below meth c H locs 0 0 (fw_Qv D 96 adr (fw_C cI cO adr) A below args s σ') (F0 m 56 ls []) := by
  have hx := X.1.1
  have hb := X.1.2.1
  intro n
  induction n with
  | zero =>
    intro x1 x2 x3 x4 x5 σ hf
    exact absurd hf (by simp [pX3_listWishRejecters_56])
  | succ n ih =>
    intro x1 x2 x3 x4 x5 σ hf H locs ls hH hl
    rw [pX3_listWishRejecters_56] at hf
    refine lv_iload hx hb dX3_listWishRejecters_56 (lv_at hl 5 rfl) ?_
    refine lv_bipush (v := (10 : Int32)) hx hb dX3_listWishRejecters_58 (by decide) ?_
    refine lv_icmp_ge (tgt := 111) hx hb dX3_listWishRejecters_60 (by decide) (fun hc => ?_) (fun hc => ?_)
    · have hf := fw_pos hc hf
      refine lv_iinc (v := (x1 + (1 : Int32))) (lv' := [(1, .int (x1 + (1 : Int32))), (0, .ref (adr 1)), (2, .int x2), (3, .int x3), (4, .int x4), (5, .int x5)]) hx hb dX3_listWishRejecters_111 hl (k := 1) rfl rfl (by decide) rfl (fun ls hl => ?_)
      refine lv_goto (tgt := 2) hx hb dX3_listWishRejecters_114 (by decide) ?_
      exact hK2 (x1 + (1 : Int32)) σ hf _ _ _ hH (lv_sub hl [1, 0] rfl)
    · have hf := fw_neg hc hf
      refine lv_aload_n hx hb dX3_listWishRejecters_63 rfl (lv_at hl 0 rfl) ?_
      refine fw_get (id := 1) (k := 2) (v := .ref (adr 11)) X hH (by decide) (fc_1 (by decide)) rfl inX3 (by decide) rfl tw_1_109 dX3_listWishRejecters_64 ?_
      refine lv_bipush (v := (10 : Int32)) hx hb dX3_listWishRejecters_67 (by decide) ?_
      refine lv_iload_n hx hb dX3_listWishRejecters_69 rfl (lv_at hl 1 rfl) ?_
      refine lv_imul hx hb dX3_listWishRejecters_70 ?_
      refine lv_iload hx hb dX3_listWishRejecters_71 (lv_at hl 5 rfl) ?_
      refine lv_iadd hx hb dX3_listWishRejecters_73 ?_
      refine lv_iload hx hb dX3_listWishRejecters_74 (lv_at hl 4 rfl) ?_
      refine lv_iload hx hb dX3_listWishRejecters_76 (lv_at hl 5 rfl) ?_
      obtain ⟨w12, τ11, g10, hf⟩ := fw_b2s hf
      refine fw_ci hH (fw_rN (As := [.int x4, .int x5]) (rest := [.int (((10 : Int32) * x1) + x5), .ref (adr 11)]) X hH (kX7_isIn  g10 _) qX7_isIn nw_2_185 ⟨Nat.le_of_ble_eq_true rfl, Nat.le_of_ble_eq_true rfl⟩ rfl rfl rfl hl.1 rfl (Nat.le_of_ble_eq_true rfl) dX3_listWishRejecters_78) (fun H locs hH => ?_)
      refine lv_if_eq (tgt := 101) hx hb dX3_listWishRejecters_81 (by decide) (fun hc => ?_) (fun hc => ?_)
      · have hf := fw_pos hc hf
        refine lv_sipush (v := (-10001 : Int32)) hx hb dX3_listWishRejecters_101 (by decide) ?_
        obtain ⟨τ13, g14, hf⟩ := fw_bd hf
        refine fw_iast (id := 11) (n := 40) X hH (by decide) (fun σ => fc_11 (by decide)) (fun k x j h => fc_ne h) rfl g14 dX3_listWishRejecters_104 (fun H locs hH => ?_)
        refine lv_iinc (v := (x5 + (1 : Int32))) (lv' := [(5, .int (x5 + (1 : Int32))), (0, .ref (adr 1)), (1, .int x1), (2, .int x2), (3, .int x3), (4, .int x4)]) hx hb dX3_listWishRejecters_105 hl (k := 5) rfl rfl (by decide) rfl (fun ls hl => ?_)
        refine lv_goto (tgt := 56) hx hb dX3_listWishRejecters_108 (by decide) ?_
        exact ih x1 x2 x3 x4 (x5 + (1 : Int32)) τ13 hf _ _ _ hH (lv_sub hl [1, 2, 3, 4, 5, 0] rfl)
      · have hf := fw_neg hc hf
        refine lv_aload_n hx hb dX3_listWishRejecters_84 rfl (lv_at hl 0 rfl) ?_
        refine fw_get (id := 1) (k := 0) (v := .ref (adr 12)) X hH (by decide) (fc_1 (by decide)) rfl inX3 (by decide) rfl tw_1_105 dX3_listWishRejecters_85 ?_
        refine fw_getN (id := 12) (k := 2) (v := .ref (adr 17)) X hH (by decide) (fc_12 (by decide)) rfl inX5 (by decide) rfl nw_1_91 dX3_listWishRejecters_88 ?_
        refine lv_iload_n hx hb dX3_listWishRejecters_91 rfl (lv_at hl 2 rfl) ?_
        refine lv_iload hx hb dX3_listWishRejecters_92 (lv_at hl 5 rfl) ?_
        refine lv_iload_n hx hb dX3_listWishRejecters_94 rfl (lv_at hl 3 rfl) ?_
        obtain ⟨w17, τ16, g15, hf⟩ := fw_b2s hf
        refine fw_ci hH (fw_rV (As := [.int x2, .int x5, .int x3]) (rest := [.int (((10 : Int32) * x1) + x5), .ref (adr 11)]) (id := 17) X hH (kX0_rejecters (by unfold fw_FL; decide) g15 _) qX0_rejecters tw_2_149 ⟨Nat.le_of_ble_eq_true rfl, Nat.le_of_ble_eq_true rfl⟩ rfl rfl (by decide) (fc_15 (by decide)) rfl rfl hl.1 rfl (Nat.le_of_ble_eq_true rfl) dX3_listWishRejecters_95) (fun H locs hH => ?_)
        refine lv_goto (tgt := 104) hx hb dX3_listWishRejecters_98 (by decide) ?_
        obtain ⟨τ18, g19, hf⟩ := fw_bd hf
        refine fw_iast (id := 11) (n := 40) X hH (by decide) (fun σ => fc_11 (by decide)) (fun k x j h => fc_ne h) rfl g19 dX3_listWishRejecters_104 (fun H locs hH => ?_)
        refine lv_iinc (v := (x5 + (1 : Int32))) (lv' := [(5, .int (x5 + (1 : Int32))), (0, .ref (adr 1)), (1, .int x1), (2, .int x2), (3, .int x3), (4, .int x4)]) hx hb dX3_listWishRejecters_105 hl (k := 5) rfl rfl (by decide) rfl (fun ls hl => ?_)
        refine lv_goto (tgt := 56) hx hb dX3_listWishRejecters_108 (by decide) ?_
        exact ih x1 x2 x3 x4 (x5 + (1 : Int32)) τ18 hf _ _ _ hH (lv_sub hl [1, 2, 3, 4, 5, 0] rfl)
def pX3_listWishRejecters_2 : Nat → Int32 → fw_T → Option (fw_T)
  | 0, _, _ => none
  | n + 1, x1, σ =>
    if (fw_g σ 22 2) ≤ x1 then
      some σ
    else
      if (4 : Int32) ≤ x1 then
        some σ
      else
        fw_b2 (pX2_firstAt 22 x1 σ) fun w3 τ2 =>
        fw_b2 (pX2_secondAt 22 x1 τ2) fun w6 τ5 =>
        fw_b2 (pX3_joinedBs w3 w6 τ5) fun w9 τ8 =>
        pX3_listWishRejecters_56 (fun a0 σ => pX3_listWishRejecters_2 n a0 σ) 400 x1 w3 w6 w9 (0 : Int32) τ8
set_option maxRecDepth 100000 in
set_option maxHeartbeats 4000000 in
theorem wX3_listWishRejecters_2 {args : Array Value} {σ' : fw_T} (X : fcX p m c cX3_listWishRejecters 6 s args RX3 meth none D cI cO)  : ∀ (n : Nat), ∀ (x1 : Int32), ∀ (σ : fw_T), pX3_listWishRejecters_2 n x1 σ = some σ' → ∀ (H : Heap) (locs : List Loc) (ls : Array Slot), fcH D cI cO adr A s H locs σ → lv_has ls 6 [(0, .ref (adr 1)), (1, .int x1)] → W p l e rmX3_listWishRejecters s m args below meth c H locs 0 0 (fw_Qv D 96 adr (fw_C cI cO adr) A below args s σ') (F0 m 2 ls []) := by
  have hx := X.1.1
  have hb := X.1.2.1
  intro n
  induction n with
  | zero =>
    intro x1 σ hf
    exact absurd hf (by simp [pX3_listWishRejecters_2])
  | succ n ih =>
    intro x1 σ hf H locs ls hH hl
    rw [pX3_listWishRejecters_2] at hf
    refine lv_iload_n hx hb dX3_listWishRejecters_2 rfl (lv_at hl 1 rfl) ?_
    refine lv_aload_n hx hb dX3_listWishRejecters_3 rfl (lv_at hl 0 rfl) ?_
    refine fw_get (id := 1) (k := 0) (v := .ref (adr 12)) X hH (by decide) (fc_1 (by decide)) rfl inX3 (by decide) rfl tw_1_105 dX3_listWishRejecters_4 ?_
    refine fw_getN (id := 12) (k := 3) (v := .ref (adr 22)) X hH (by decide) (fc_12 (by decide)) rfl inX5 (by decide) rfl nw_1_94 dX3_listWishRejecters_7 ?_
    refine fw_getN (id := 22) (k := 2) (v := .int (fw_g σ 22 2)) X hH (by decide) (fc_13 (by decide)) rfl inX2 (by decide) rfl nw_1_46 dX3_listWishRejecters_10 ?_
    refine lv_icmp_ge (tgt := 117) hx hb dX3_listWishRejecters_13 (by decide) (fun hc => ?_) (fun hc => ?_)
    · have hf := fw_pos hc hf
      obtain rfl := Option.some.inj hf
      exact fw_retv X hH dX3_listWishRejecters_117
    · have hf := fw_neg hc hf
      refine lv_iload_n hx hb dX3_listWishRejecters_16 rfl (lv_at hl 1 rfl) ?_
      refine lv_iconst (v := (4 : Int32)) hx hb dX3_listWishRejecters_17 (by decide) ?_
      refine lv_icmp_ge (tgt := 117) hx hb dX3_listWishRejecters_18 (by decide) (fun hc => ?_) (fun hc => ?_)
      · have hf := fw_pos hc hf
        obtain rfl := Option.some.inj hf
        exact fw_retv X hH dX3_listWishRejecters_117
      · have hf := fw_neg hc hf
        refine lv_aload_n hx hb dX3_listWishRejecters_21 rfl (lv_at hl 0 rfl) ?_
        refine fw_get (id := 1) (k := 0) (v := .ref (adr 12)) X hH (by decide) (fc_1 (by decide)) rfl inX3 (by decide) rfl tw_1_105 dX3_listWishRejecters_22 ?_
        refine fw_getN (id := 12) (k := 3) (v := .ref (adr 22)) X hH (by decide) (fc_12 (by decide)) rfl inX5 (by decide) rfl nw_1_94 dX3_listWishRejecters_25 ?_
        refine lv_iload_n hx hb dX3_listWishRejecters_28 rfl (lv_at hl 1 rfl) ?_
        obtain ⟨w3, τ2, g1, hf⟩ := fw_b2s hf
        refine fw_ci hH (fw_rV (As := [.int x1]) (rest := []) (id := 22) X hH (kX2_firstAt (by unfold fw_PL; decide) g1 _) qX2_firstAt tw_2_106 ⟨Nat.le_of_ble_eq_true rfl, Nat.le_of_ble_eq_true rfl⟩ rfl rfl (by decide) (fc_13 (by decide)) rfl rfl hl.1 rfl (Nat.le_of_ble_eq_true rfl) dX3_listWishRejecters_29) (fun H locs hH => ?_)
        refine lv_istore_n (lv' := [(2, .int w3), (0, .ref (adr 1)), (1, .int x1)]) hx hb dX3_listWishRejecters_32 rfl hl (by decide) rfl (fun ls hl => ?_)
        refine lv_aload_n hx hb dX3_listWishRejecters_33 rfl (lv_at hl 1 rfl) ?_
        refine fw_get (id := 1) (k := 0) (v := .ref (adr 12)) X hH (by decide) (fc_1 (by decide)) rfl inX3 (by decide) rfl tw_1_105 dX3_listWishRejecters_34 ?_
        refine fw_getN (id := 12) (k := 3) (v := .ref (adr 22)) X hH (by decide) (fc_12 (by decide)) rfl inX5 (by decide) rfl nw_1_94 dX3_listWishRejecters_37 ?_
        refine lv_iload_n hx hb dX3_listWishRejecters_40 rfl (lv_at hl 2 rfl) ?_
        obtain ⟨w6, τ5, g4, hf⟩ := fw_b2s hf
        refine fw_ci hH (fw_rV (As := [.int x1]) (rest := []) (id := 22) X hH (kX2_secondAt (by unfold fw_PL; decide) g4 _) qX2_secondAt tw_2_111 ⟨Nat.le_of_ble_eq_true rfl, Nat.le_of_ble_eq_true rfl⟩ rfl rfl (by decide) (fc_13 (by decide)) rfl rfl hl.1 rfl (Nat.le_of_ble_eq_true rfl) dX3_listWishRejecters_41) (fun H locs hH => ?_)
        refine lv_istore_n (lv' := [(3, .int w6), (2, .int w3), (0, .ref (adr 1)), (1, .int x1)]) hx hb dX3_listWishRejecters_44 rfl hl (by decide) rfl (fun ls hl => ?_)
        refine lv_aload_n hx hb dX3_listWishRejecters_45 rfl (lv_at hl 2 rfl) ?_
        refine lv_iload_n hx hb dX3_listWishRejecters_46 rfl (lv_at hl 1 rfl) ?_
        refine lv_iload_n hx hb dX3_listWishRejecters_47 rfl (lv_at hl 0 rfl) ?_
        obtain ⟨w9, τ8, g7, hf⟩ := fw_b2s hf
        refine fw_ci hH (fw_rV (As := [.int w3, .int w6]) (rest := []) (id := 1) X hH (kX3_joinedBs  g7 _) qX3_joinedBs tw_2_171 ⟨Nat.le_of_ble_eq_true rfl, Nat.le_of_ble_eq_true rfl⟩ rfl rfl (by decide) (fc_1 (by decide)) rfl rfl hl.1 rfl (Nat.le_of_ble_eq_true rfl) dX3_listWishRejecters_48) (fun H locs hH => ?_)
        refine lv_istore (lv' := [(4, .int w9), (3, .int w6), (2, .int w3), (0, .ref (adr 1)), (1, .int x1)]) hx hb dX3_listWishRejecters_51 hl (by decide) rfl (fun ls hl => ?_)
        refine lv_iconst (v := (0 : Int32)) hx hb dX3_listWishRejecters_53 (by decide) ?_
        refine lv_istore (lv' := [(5, .int (0 : Int32)), (4, .int w9), (3, .int w6), (2, .int w3), (0, .ref (adr 1)), (1, .int x1)]) hx hb dX3_listWishRejecters_54 hl (by decide) rfl (fun ls hl => ?_)
        exact wX3_listWishRejecters_56 X ih 400 x1 w3 w6 w9 (0 : Int32) τ8 hf _ _ _ hH (lv_sub hl [4, 5, 3, 2, 1, 0] rfl)
def pX3_listWishRejecters (σ : fw_T) : Option (fw_T) :=
  pX3_listWishRejecters_2 400 (0 : Int32) σ
set_option maxRecDepth 100000 in
set_option maxHeartbeats 4000000 in
theorem kX3_listWishRejecters {σ σ' : fw_T} (hf : pX3_listWishRejecters σ = some σ') : fw_Cv l yX3_listWishRejecters (Cond.code yX3_listWishRejecters cX3_listWishRejecters 6 none :: lwT) rmX3_listWishRejecters [.ref (adr 1)] D 96 adr (fw_C cI cO adr) (fcT cI cO) nwC σ σ' := by
  refine fw_start (Qc := (fun A => va_Qv (fun (_ : Unit) => True) (fun _ t => va_P D vwCl (fw_ws 96 adr (fw_C cI cO adr σ')) t.heap) A)) (by decide) (by simp [lg_sl, Value.category]) rfl ?_
  intro p e s m below meth c A X hH ls hl
  have hx := X.1.1
  have hb := X.1.2.1
  have hl : lv_has ls 6 [(0, .ref (adr 1))] := hl
  unfold pX3_listWishRejecters at hf
  refine lv_iconst (v := (0 : Int32)) hx hb dX3_listWishRejecters_0 (by decide) ?_
  refine lv_istore_n (lv' := [(1, .int (0 : Int32)), (0, .ref (adr 1))]) hx hb dX3_listWishRejecters_1 rfl hl (by decide) rfl (fun ls hl => ?_)
  exact wX3_listWishRejecters_2 X 400 (0 : Int32) σ hf _ _ _ hH (lv_sub hl [1, 0] rfl)
abbrev rmX3_grantsWish : Room := { frames := 0, cells := 0, slots := 0, locals := 0 }
theorem qX3_grantsWish : fw_QV RX3 yX3_grantsWish cX3_grantsWish 5 (some .boolean) 2 := ⟨⟨tw_3_95, tv_X3_grantsWish, tw_1_2, tw_3_96⟩, by decide +kernel⟩
def pX3_grantsWish_2 : Nat → Int32 → Int32 → Int32 → fw_T → Option (Int32 × fw_T)
  | 0, _, _, _, _ => none
  | n + 1, x1, x2, x3, σ =>
    if (10 : Int32) ≤ x3 then
      fw_rz (0 : Int32) σ
    else
      (fw_rd σ 11 40 (((10 : Int32) * x1) + x3)).bind fun w1 =>
      if w1 = (-10001 : Int32) then
        pX3_grantsWish_2 n x1 x2 (x3 + (1 : Int32)) σ
      else
        if (w1 &&& (x2 ^^^ (-1 : Int32))) = 0 then
          fw_rz (1 : Int32) σ
        else
          pX3_grantsWish_2 n x1 x2 (x3 + (1 : Int32)) σ
set_option maxRecDepth 100000 in
set_option maxHeartbeats 4000000 in
theorem wX3_grantsWish_2 {args : Array Value} {r : Int32} {σ' : fw_T} (X : fcX p m c cX3_grantsWish 5 s args RX3 meth (some .boolean) D cI cO)  : ∀ (n : Nat), ∀ (x1 : Int32), ∀ (x2 : Int32), ∀ (x3 : Int32), ∀ (σ : fw_T), pX3_grantsWish_2 n x1 x2 x3 σ = some (r, σ') → ∀ (H : Heap) (locs : List Loc) (ls : Array Slot), fcH D cI cO adr A s H locs σ → lv_has ls 5 [(0, .ref (adr 1)), (1, .int x1), (2, .int x2), (3, .int x3)] → W p l e rmX3_grantsWish s m args below meth c H locs 0 0 (fw_Qi D 96 adr (fw_C cI cO adr) A below args s r σ') (F0 m 2 ls []) := by
  have hx := X.1.1
  have hb := X.1.2.1
  intro n
  induction n with
  | zero =>
    intro x1 x2 x3 σ hf
    exact absurd hf (by simp [pX3_grantsWish_2])
  | succ n ih =>
    intro x1 x2 x3 σ hf H locs ls hH hl
    rw [pX3_grantsWish_2] at hf
    refine lv_iload_n hx hb dX3_grantsWish_2 rfl (lv_at hl 3 rfl) ?_
    refine lv_bipush (v := (10 : Int32)) hx hb dX3_grantsWish_3 (by decide) ?_
    refine lv_icmp_ge (tgt := 46) hx hb dX3_grantsWish_5 (by decide) (fun hc => ?_) (fun hc => ?_)
    · have hf := fw_pos hc hf
      refine lv_iconst (v := (0 : Int32)) hx hb dX3_grantsWish_46 (by decide) ?_
      obtain ⟨rfl, rfl, hz⟩ := fw_rzs hf
      exact fw_retz X hH hz dX3_grantsWish_47
    · have hf := fw_neg hc hf
      refine lv_aload_n hx hb dX3_grantsWish_8 rfl (lv_at hl 0 rfl) ?_
      refine fw_get (id := 1) (k := 2) (v := .ref (adr 11)) X hH (by decide) (fc_1 (by decide)) rfl inX3 (by decide) rfl tw_1_109 dX3_grantsWish_9 ?_
      refine lv_bipush (v := (10 : Int32)) hx hb dX3_grantsWish_12 (by decide) ?_
      refine lv_iload_n hx hb dX3_grantsWish_14 rfl (lv_at hl 1 rfl) ?_
      refine lv_imul hx hb dX3_grantsWish_15 ?_
      refine lv_iload_n hx hb dX3_grantsWish_16 rfl (lv_at hl 3 rfl) ?_
      refine lv_iadd hx hb dX3_grantsWish_17 ?_
      obtain ⟨w1, g2, hf⟩ := fw_bd hf
      refine fw_iald (id := 11) (n := 40) X hH (by decide) (fc_11 (by decide)) rfl g2 dX3_grantsWish_18 ?_
      refine lv_istore (lv' := [(4, .int w1), (0, .ref (adr 1)), (1, .int x1), (2, .int x2), (3, .int x3)]) hx hb dX3_grantsWish_19 hl (by decide) rfl (fun ls hl => ?_)
      refine lv_iload hx hb dX3_grantsWish_21 (lv_at hl 0 rfl) ?_
      refine lv_sipush (v := (-10001 : Int32)) hx hb dX3_grantsWish_23 (by decide) ?_
      refine lv_icmp_eq (tgt := 40) hx hb dX3_grantsWish_26 (by decide) (fun hc => ?_) (fun hc => ?_)
      · have hf := fw_pos hc hf
        refine lv_iinc (v := (x3 + (1 : Int32))) (lv' := [(3, .int (x3 + (1 : Int32))), (4, .int w1), (0, .ref (adr 1)), (1, .int x1), (2, .int x2)]) hx hb dX3_grantsWish_40 hl (k := 4) rfl rfl (by decide) rfl (fun ls hl => ?_)
        refine lv_goto (tgt := 2) hx hb dX3_grantsWish_43 (by decide) ?_
        exact ih x1 x2 (x3 + (1 : Int32)) σ hf _ _ _ hH (lv_sub hl [2, 3, 4, 0] rfl)
      · have hf := fw_neg hc hf
        refine lv_iload hx hb dX3_grantsWish_29 (lv_at hl 0 rfl) ?_
        refine lv_iload_n hx hb dX3_grantsWish_31 rfl (lv_at hl 3 rfl) ?_
        refine lv_iconst (v := (-1 : Int32)) hx hb dX3_grantsWish_32 (by decide) ?_
        refine lv_ixor hx hb dX3_grantsWish_33 ?_
        refine lv_iand hx hb dX3_grantsWish_34 ?_
        refine lv_if_ne (tgt := 40) hx hb dX3_grantsWish_35 (by decide) (fun hc => ?_) (fun hc => ?_)
        · have hf := fw_neg hc hf
          refine lv_iinc (v := (x3 + (1 : Int32))) (lv' := [(3, .int (x3 + (1 : Int32))), (4, .int w1), (0, .ref (adr 1)), (1, .int x1), (2, .int x2)]) hx hb dX3_grantsWish_40 hl (k := 4) rfl rfl (by decide) rfl (fun ls hl => ?_)
          refine lv_goto (tgt := 2) hx hb dX3_grantsWish_43 (by decide) ?_
          exact ih x1 x2 (x3 + (1 : Int32)) σ hf _ _ _ hH (lv_sub hl [2, 3, 4, 0] rfl)
        · have hf := fw_pos hc hf
          refine lv_iconst (v := (1 : Int32)) hx hb dX3_grantsWish_38 (by decide) ?_
          obtain ⟨rfl, rfl, hz⟩ := fw_rzs hf
          exact fw_retz X hH hz dX3_grantsWish_39
def pX3_grantsWish (x1 : Int32) (x2 : Int32) (σ : fw_T) : Option (Int32 × fw_T) :=
  pX3_grantsWish_2 400 x1 x2 (0 : Int32) σ
set_option maxRecDepth 100000 in
set_option maxHeartbeats 4000000 in
theorem kX3_grantsWish {x1 : Int32} {x2 : Int32} {r : Int32} {σ σ' : fw_T} (hf : pX3_grantsWish x1 x2 σ = some (r, σ')) : fw_Ci l yX3_grantsWish (Cond.code yX3_grantsWish cX3_grantsWish 5 (some .boolean) :: lwT) rmX3_grantsWish [.ref (adr 1), .int x1, .int x2] D 96 adr (fw_C cI cO adr) (fcT cI cO) nwC σ r σ' := by
  refine fw_start (Qc := (fun A => va_Qi (fun r' (_ : Unit) => r' = r) (fun _ t => va_P D vwCl (fw_ws 96 adr (fw_C cI cO adr σ')) t.heap) A)) (by decide) (by simp [lg_sl, Value.category]) rfl ?_
  intro p e s m below meth c A X hH ls hl
  have hx := X.1.1
  have hb := X.1.2.1
  have hl : lv_has ls 5 [(0, .ref (adr 1)), (1, .int x1), (2, .int x2)] := hl
  unfold pX3_grantsWish at hf
  refine lv_iconst (v := (0 : Int32)) hx hb dX3_grantsWish_0 (by decide) ?_
  refine lv_istore_n (lv' := [(3, .int (0 : Int32)), (0, .ref (adr 1)), (1, .int x1), (2, .int x2)]) hx hb dX3_grantsWish_1 rfl hl (by decide) rfl (fun ls hl => ?_)
  exact wX3_grantsWish_2 X 400 x1 x2 (0 : Int32) σ hf _ _ _ hH (lv_sub hl [1, 2, 3, 0] rfl)
abbrev rmX3_grantsWishes : Room := { frames := 1, cells := 0, slots := 0, locals := 24 }
theorem qX3_grantsWishes : fw_QV RX3 yX3_grantsWishes cX3_grantsWishes 3 (some .boolean) 1 := ⟨⟨tw_3_91, tv_X3_grantsWishes, tw_1_2, tw_3_92⟩, by decide +kernel⟩
def pX3_grantsWishes_2 : Nat → Int32 → Int32 → fw_T → Option (Int32 × fw_T)
  | 0, _, _, _ => none
  | n + 1, x1, x2, σ =>
    if (fw_g σ 22 2) ≤ x2 then
      fw_rz (1 : Int32) σ
    else
      if (4 : Int32) ≤ x2 then
        fw_rz (1 : Int32) σ
      else
        fw_b2 (pX3_grantsWish x2 x1 σ) fun w3 τ2 =>
        if w3 = 0 then
          fw_rz (0 : Int32) τ2
        else
          pX3_grantsWishes_2 n x1 (x2 + (1 : Int32)) τ2
set_option maxRecDepth 100000 in
set_option maxHeartbeats 4000000 in
theorem wX3_grantsWishes_2 {args : Array Value} {r : Int32} {σ' : fw_T} (X : fcX p m c cX3_grantsWishes 3 s args RX3 meth (some .boolean) D cI cO)  : ∀ (n : Nat), ∀ (x1 : Int32), ∀ (x2 : Int32), ∀ (σ : fw_T), pX3_grantsWishes_2 n x1 x2 σ = some (r, σ') → ∀ (H : Heap) (locs : List Loc) (ls : Array Slot), fcH D cI cO adr A s H locs σ → lv_has ls 3 [(0, .ref (adr 1)), (1, .int x1), (2, .int x2)] → W p l e rmX3_grantsWishes s m args below meth c H locs 0 0 (fw_Qi D 96 adr (fw_C cI cO adr) A below args s r σ') (F0 m 2 ls []) := by
  have hx := X.1.1
  have hb := X.1.2.1
  intro n
  induction n with
  | zero =>
    intro x1 x2 σ hf
    exact absurd hf (by simp [pX3_grantsWishes_2])
  | succ n ih =>
    intro x1 x2 σ hf H locs ls hH hl
    rw [pX3_grantsWishes_2] at hf
    refine lv_iload_n hx hb dX3_grantsWishes_2 rfl (lv_at hl 2 rfl) ?_
    refine lv_aload_n hx hb dX3_grantsWishes_3 rfl (lv_at hl 0 rfl) ?_
    refine fw_get (id := 1) (k := 0) (v := .ref (adr 12)) X hH (by decide) (fc_1 (by decide)) rfl inX3 (by decide) rfl tw_1_105 dX3_grantsWishes_4 ?_
    refine fw_getN (id := 12) (k := 3) (v := .ref (adr 22)) X hH (by decide) (fc_12 (by decide)) rfl inX5 (by decide) rfl nw_1_94 dX3_grantsWishes_7 ?_
    refine fw_getN (id := 22) (k := 2) (v := .int (fw_g σ 22 2)) X hH (by decide) (fc_13 (by decide)) rfl inX2 (by decide) rfl nw_1_46 dX3_grantsWishes_10 ?_
    refine lv_icmp_ge (tgt := 38) hx hb dX3_grantsWishes_13 (by decide) (fun hc => ?_) (fun hc => ?_)
    · have hf := fw_pos hc hf
      refine lv_iconst (v := (1 : Int32)) hx hb dX3_grantsWishes_38 (by decide) ?_
      obtain ⟨rfl, rfl, hz⟩ := fw_rzs hf
      exact fw_retz X hH hz dX3_grantsWishes_39
    · have hf := fw_neg hc hf
      refine lv_iload_n hx hb dX3_grantsWishes_16 rfl (lv_at hl 2 rfl) ?_
      refine lv_iconst (v := (4 : Int32)) hx hb dX3_grantsWishes_17 (by decide) ?_
      refine lv_icmp_ge (tgt := 38) hx hb dX3_grantsWishes_18 (by decide) (fun hc => ?_) (fun hc => ?_)
      · have hf := fw_pos hc hf
        refine lv_iconst (v := (1 : Int32)) hx hb dX3_grantsWishes_38 (by decide) ?_
        obtain ⟨rfl, rfl, hz⟩ := fw_rzs hf
        exact fw_retz X hH hz dX3_grantsWishes_39
      · have hf := fw_neg hc hf
        refine lv_aload_n hx hb dX3_grantsWishes_21 rfl (lv_at hl 0 rfl) ?_
        refine lv_iload_n hx hb dX3_grantsWishes_22 rfl (lv_at hl 2 rfl) ?_
        refine lv_iload_n hx hb dX3_grantsWishes_23 rfl (lv_at hl 1 rfl) ?_
        obtain ⟨w3, τ2, g1, hf⟩ := fw_b2s hf
        refine fw_ci hH (fw_rV (As := [.int x2, .int x1]) (rest := []) (id := 1) X hH (kX3_grantsWish  g1 _) qX3_grantsWish tw_3_93 ⟨Nat.le_of_ble_eq_true rfl, Nat.le_of_ble_eq_true rfl⟩ rfl rfl (by decide) (fc_1 (by decide)) rfl rfl hl.1 rfl (Nat.le_of_ble_eq_true rfl) dX3_grantsWishes_24) (fun H locs hH => ?_)
        refine lv_if_ne (tgt := 32) hx hb dX3_grantsWishes_27 (by decide) (fun hc => ?_) (fun hc => ?_)
        · have hf := fw_neg hc hf
          refine lv_iinc (v := (x2 + (1 : Int32))) (lv' := [(2, .int (x2 + (1 : Int32))), (0, .ref (adr 1)), (1, .int x1)]) hx hb dX3_grantsWishes_32 hl (k := 2) rfl rfl (by decide) rfl (fun ls hl => ?_)
          refine lv_goto (tgt := 2) hx hb dX3_grantsWishes_35 (by decide) ?_
          exact ih x1 (x2 + (1 : Int32)) τ2 hf _ _ _ hH (lv_sub hl [1, 2, 0] rfl)
        · have hf := fw_pos hc hf
          refine lv_iconst (v := (0 : Int32)) hx hb dX3_grantsWishes_30 (by decide) ?_
          obtain ⟨rfl, rfl, hz⟩ := fw_rzs hf
          exact fw_retz X hH hz dX3_grantsWishes_31
def pX3_grantsWishes (x1 : Int32) (σ : fw_T) : Option (Int32 × fw_T) :=
  pX3_grantsWishes_2 400 x1 (0 : Int32) σ
set_option maxRecDepth 100000 in
set_option maxHeartbeats 4000000 in
theorem kX3_grantsWishes {x1 : Int32} {r : Int32} {σ σ' : fw_T} (hf : pX3_grantsWishes x1 σ = some (r, σ')) : fw_Ci l yX3_grantsWishes (Cond.code yX3_grantsWishes cX3_grantsWishes 3 (some .boolean) :: lwT) rmX3_grantsWishes [.ref (adr 1), .int x1] D 96 adr (fw_C cI cO adr) (fcT cI cO) nwC σ r σ' := by
  refine fw_start (Qc := (fun A => va_Qi (fun r' (_ : Unit) => r' = r) (fun _ t => va_P D vwCl (fw_ws 96 adr (fw_C cI cO adr σ')) t.heap) A)) (by decide) (by simp [lg_sl, Value.category]) rfl ?_
  intro p e s m below meth c A X hH ls hl
  have hx := X.1.1
  have hb := X.1.2.1
  have hl : lv_has ls 3 [(0, .ref (adr 1)), (1, .int x1)] := hl
  unfold pX3_grantsWishes at hf
  refine lv_iconst (v := (0 : Int32)) hx hb dX3_grantsWishes_0 (by decide) ?_
  refine lv_istore_n (lv' := [(2, .int (0 : Int32)), (0, .ref (adr 1)), (1, .int x1)]) hx hb dX3_grantsWishes_1 rfl hl (by decide) rfl (fun ls hl => ?_)
  exact wX3_grantsWishes_2 X 400 x1 (0 : Int32) σ hf _ _ _ hH (lv_sub hl [1, 2, 0] rfl)
abbrev rmX3_smallestRemovalForWishes : Room := { frames := 5, cells := 0, slots := 0, locals := 112 }
theorem qX3_smallestRemovalForWishes : fw_QV RX3 yX3_smallestRemovalForWishes cX3_smallestRemovalForWishes 4 (some .int) 0 := ⟨⟨tw_3_81, tw_3_82, tw_1_2, tw_3_83⟩, by decide +kernel⟩
def pX3_smallestRemovalForWishes_48 (K28 : Int32 → Int32 → Int32 → fw_T → Option (Int32 × fw_T)) (x1 : Int32) (x2 : Int32) (x3 : Int32) (σ : fw_T) : Option (Int32 × fw_T) :=
  fw_b2 (pX3_grantsWishes x3 σ) fun w5 τ4 =>
  if w5 = 0 then
    K28 x1 x2 (x3 + (1 : Int32)) τ4
  else
    K28 x3 x2 (x3 + (1 : Int32)) τ4
set_option maxRecDepth 100000 in
set_option maxHeartbeats 4000000 in
theorem wX3_smallestRemovalForWishes_48 {args : Array Value} {r : Int32} {σ' : fw_T} {K28 : Int32 → Int32 → Int32 → fw_T → Option (Int32 × fw_T)} (X : fcX p m c cX3_smallestRemovalForWishes 4 s args RX3 meth (some .int) D cI cO) (hK28 : ∀ (x1 : Int32), ∀ (x2 : Int32), ∀ (x3 : Int32), ∀ (σ : fw_T), K28 x1 x2 x3 σ = some (r, σ') → ∀ (H : Heap) (locs : List Loc) (ls : Array Slot), fcH D cI cO adr A s H locs σ → lv_has ls 4 [(0, .ref (adr 1)), (1, .int x1), (2, .int x2), (3, .int x3)] → W p l e rmX3_smallestRemovalForWishes s m args below meth c H locs 0 0 (fw_Qi D 96 adr (fw_C cI cO adr) A below args s r σ') (F0 m 28 ls [])) : ∀ (x1 : Int32), ∀ (x2 : Int32), ∀ (x3 : Int32), ∀ (σ : fw_T), pX3_smallestRemovalForWishes_48 K28 x1 x2 x3 σ = some (r, σ') → ∀ (H : Heap) (locs : List Loc) (ls : Array Slot), fcH D cI cO adr A s H locs σ → lv_has ls 4 [(0, .ref (adr 1)), (1, .int x1), (2, .int x2), (3, .int x3)] → W p l e rmX3_smallestRemovalForWishes s m args below meth c H locs 0 0 (fw_Qi D 96 adr (fw_C cI cO adr) A below args s r σ') (F0 m 48 ls []) := by
  have hx := X.1.1
  have hb := X.1.2.1
  intro x1 x2 x3 σ hf H locs ls hH hl
  unfold pX3_smallestRemovalForWishes_48 at hf
  refine lv_aload_n hx hb dX3_smallestRemovalForWishes_48 rfl (lv_at hl 0 rfl) ?_
  refine lv_iload_n hx hb dX3_smallestRemovalForWishes_49 rfl (lv_at hl 3 rfl) ?_
  obtain ⟨w5, τ4, g3, hf⟩ := fw_b2s hf
  refine fw_ci hH (fw_rV (As := [.int x3]) (rest := []) (id := 1) X hH (kX3_grantsWishes  g3 _) qX3_grantsWishes tw_3_89 ⟨Nat.le_of_ble_eq_true rfl, Nat.le_of_ble_eq_true rfl⟩ rfl rfl (by decide) (fc_1 (by decide)) rfl rfl hl.1 rfl (Nat.le_of_ble_eq_true rfl) dX3_smallestRemovalForWishes_50) (fun H locs hH => ?_)
  refine lv_if_eq (tgt := 58) hx hb dX3_smallestRemovalForWishes_53 (by decide) (fun hc => ?_) (fun hc => ?_)
  · have hf := fw_pos hc hf
    refine lv_iinc (v := (x3 + (1 : Int32))) (lv' := [(3, .int (x3 + (1 : Int32))), (0, .ref (adr 1)), (1, .int x1), (2, .int x2)]) hx hb dX3_smallestRemovalForWishes_58 hl (k := 3) rfl rfl (by decide) rfl (fun ls hl => ?_)
    refine lv_goto (tgt := 28) hx hb dX3_smallestRemovalForWishes_61 (by decide) ?_
    exact hK28 x1 x2 (x3 + (1 : Int32)) τ4 hf _ _ _ hH (lv_sub hl [1, 2, 3, 0] rfl)
  · have hf := fw_neg hc hf
    refine lv_iload_n hx hb dX3_smallestRemovalForWishes_56 rfl (lv_at hl 3 rfl) ?_
    refine lv_istore_n (lv' := [(1, .int x3), (0, .ref (adr 1)), (2, .int x2), (3, .int x3)]) hx hb dX3_smallestRemovalForWishes_57 rfl hl (by decide) rfl (fun ls hl => ?_)
    refine lv_iinc (v := (x3 + (1 : Int32))) (lv' := [(3, .int (x3 + (1 : Int32))), (1, .int x3), (0, .ref (adr 1)), (2, .int x2)]) hx hb dX3_smallestRemovalForWishes_58 hl (k := 3) rfl rfl (by decide) rfl (fun ls hl => ?_)
    refine lv_goto (tgt := 28) hx hb dX3_smallestRemovalForWishes_61 (by decide) ?_
    exact hK28 x3 x2 (x3 + (1 : Int32)) τ4 hf _ _ _ hH (lv_sub hl [2, 1, 3, 0] rfl)
def pX3_smallestRemovalForWishes_28 : Nat → Int32 → Int32 → Int32 → fw_T → Option (Int32 × fw_T)
  | 0, _, _, _, _ => none
  | n + 1, x1, x2, x3, σ =>
    if x2 ≤ x3 then
      some (x1, σ)
    else
      if x1 = (-10001 : Int32) then
        pX3_smallestRemovalForWishes_48 (fun a0 a1 a2 σ => pX3_smallestRemovalForWishes_28 n a0 a1 a2 σ) x1 x2 x3 σ
      else
        fw_b2 (pX3_isSmallerSet x3 x1 σ) fun w8 τ7 =>
        if w8 = 0 then
          pX3_smallestRemovalForWishes_28 n x1 x2 (x3 + (1 : Int32)) τ7
        else
          pX3_smallestRemovalForWishes_48 (fun a0 a1 a2 σ => pX3_smallestRemovalForWishes_28 n a0 a1 a2 σ) x1 x2 x3 τ7
set_option maxRecDepth 100000 in
set_option maxHeartbeats 4000000 in
theorem wX3_smallestRemovalForWishes_28 {args : Array Value} {r : Int32} {σ' : fw_T} (X : fcX p m c cX3_smallestRemovalForWishes 4 s args RX3 meth (some .int) D cI cO)  : ∀ (n : Nat), ∀ (x1 : Int32), ∀ (x2 : Int32), ∀ (x3 : Int32), ∀ (σ : fw_T), pX3_smallestRemovalForWishes_28 n x1 x2 x3 σ = some (r, σ') → ∀ (H : Heap) (locs : List Loc) (ls : Array Slot), fcH D cI cO adr A s H locs σ → lv_has ls 4 [(0, .ref (adr 1)), (1, .int x1), (2, .int x2), (3, .int x3)] → W p l e rmX3_smallestRemovalForWishes s m args below meth c H locs 0 0 (fw_Qi D 96 adr (fw_C cI cO adr) A below args s r σ') (F0 m 28 ls []) := by
  have hx := X.1.1
  have hb := X.1.2.1
  intro n
  induction n with
  | zero =>
    intro x1 x2 x3 σ hf
    exact absurd hf (by simp [pX3_smallestRemovalForWishes_28])
  | succ n ih =>
    intro x1 x2 x3 σ hf H locs ls hH hl
    rw [pX3_smallestRemovalForWishes_28] at hf
    refine lv_iload_n hx hb dX3_smallestRemovalForWishes_28 rfl (lv_at hl 3 rfl) ?_
    refine lv_iload_n hx hb dX3_smallestRemovalForWishes_29 rfl (lv_at hl 2 rfl) ?_
    refine lv_icmp_ge (tgt := 64) hx hb dX3_smallestRemovalForWishes_30 (by decide) (fun hc => ?_) (fun hc => ?_)
    · have hf := fw_pos hc hf
      refine lv_iload_n hx hb dX3_smallestRemovalForWishes_64 rfl (lv_at hl 1 rfl) ?_
      obtain ⟨rfl, rfl⟩ := fw_s2 hf
      exact fw_reti X hH dX3_smallestRemovalForWishes_65
    · have hf := fw_neg hc hf
      refine lv_iload_n hx hb dX3_smallestRemovalForWishes_33 rfl (lv_at hl 1 rfl) ?_
      refine lv_sipush (v := (-10001 : Int32)) hx hb dX3_smallestRemovalForWishes_34 (by decide) ?_
      refine lv_icmp_eq (tgt := 48) hx hb dX3_smallestRemovalForWishes_37 (by decide) (fun hc => ?_) (fun hc => ?_)
      · have hf := fw_pos hc hf
        exact wX3_smallestRemovalForWishes_48 X ih x1 x2 x3 σ hf _ _ _ hH (lv_sub hl [0, 1, 2, 3] rfl)
      · have hf := fw_neg hc hf
        refine lv_iload_n hx hb dX3_smallestRemovalForWishes_40 rfl (lv_at hl 3 rfl) ?_
        refine lv_iload_n hx hb dX3_smallestRemovalForWishes_41 rfl (lv_at hl 1 rfl) ?_
        obtain ⟨w8, τ7, g6, hf⟩ := fw_b2s hf
        refine fw_ci hH (fw_rS (As := [.int x3, .int x1]) (rest := []) X hH (kX3_isSmallerSet  g6 _) qX3_isSmallerSet tw_2_216 ⟨Nat.le_of_ble_eq_true rfl, Nat.le_of_ble_eq_true rfl⟩ rfl rfl rfl hl.1 rfl (Nat.le_of_ble_eq_true rfl) dX3_smallestRemovalForWishes_42) (fun H locs hH => ?_)
        refine lv_if_eq (tgt := 58) hx hb dX3_smallestRemovalForWishes_45 (by decide) (fun hc => ?_) (fun hc => ?_)
        · have hf := fw_pos hc hf
          refine lv_iinc (v := (x3 + (1 : Int32))) (lv' := [(3, .int (x3 + (1 : Int32))), (0, .ref (adr 1)), (1, .int x1), (2, .int x2)]) hx hb dX3_smallestRemovalForWishes_58 hl (k := 3) rfl rfl (by decide) rfl (fun ls hl => ?_)
          refine lv_goto (tgt := 28) hx hb dX3_smallestRemovalForWishes_61 (by decide) ?_
          exact ih x1 x2 (x3 + (1 : Int32)) τ7 hf _ _ _ hH (lv_sub hl [1, 2, 3, 0] rfl)
        · have hf := fw_neg hc hf
          exact wX3_smallestRemovalForWishes_48 X ih x1 x2 x3 τ7 hf _ _ _ hH (lv_sub hl [0, 1, 2, 3] rfl)
def pX3_smallestRemovalForWishes (σ : fw_T) : Option (Int32 × fw_T) :=
  (pX3_listWishRejecters σ).bind fun τ2 =>
  pX3_smallestRemovalForWishes_28 400 (-10001 : Int32) ((1 : Int32) <<< ((if (6 : Int32) < (fw_g τ2 17 4) then (6 : Int32) else (fw_g τ2 17 4)) &&& 31)) (0 : Int32) τ2
set_option maxRecDepth 100000 in
set_option maxHeartbeats 4000000 in
theorem kX3_smallestRemovalForWishes {r : Int32} {σ σ' : fw_T} (hf : pX3_smallestRemovalForWishes σ = some (r, σ')) : fw_Ci l yX3_smallestRemovalForWishes (Cond.code yX3_smallestRemovalForWishes cX3_smallestRemovalForWishes 4 (some .int) :: lwT) rmX3_smallestRemovalForWishes [.ref (adr 1)] D 96 adr (fw_C cI cO adr) (fcT cI cO) nwC σ r σ' := by
  refine fw_start (Qc := (fun A => va_Qi (fun r' (_ : Unit) => r' = r) (fun _ t => va_P D vwCl (fw_ws 96 adr (fw_C cI cO adr σ')) t.heap) A)) (by decide) (by simp [lg_sl, Value.category]) rfl ?_
  intro p e s m below meth c A X hH ls hl
  have hx := X.1.1
  have hb := X.1.2.1
  have hl : lv_has ls 4 [(0, .ref (adr 1))] := hl
  unfold pX3_smallestRemovalForWishes at hf
  refine lv_aload_n hx hb dX3_smallestRemovalForWishes_0 rfl (lv_at hl 0 rfl) ?_
  obtain ⟨τ2, g1, hf⟩ := fw_bd hf
  refine fw_cv hH (fw_rV (As := []) (rest := []) (id := 1) X hH (kX3_listWishRejecters  g1 _) qX3_listWishRejecters tw_3_84 ⟨Nat.le_of_ble_eq_true rfl, Nat.le_of_ble_eq_true rfl⟩ rfl rfl (by decide) (fc_1 (by decide)) rfl rfl hl.1 rfl (Nat.le_of_ble_eq_true rfl) dX3_smallestRemovalForWishes_1) (fun H locs hH => ?_)
  refine lv_sipush (v := (-10001 : Int32)) hx hb dX3_smallestRemovalForWishes_4 (by decide) ?_
  refine lv_istore_n (lv' := [(1, .int (-10001 : Int32)), (0, .ref (adr 1))]) hx hb dX3_smallestRemovalForWishes_7 rfl hl (by decide) rfl (fun ls hl => ?_)
  refine lv_iconst (v := (1 : Int32)) hx hb dX3_smallestRemovalForWishes_8 (by decide) ?_
  refine lv_aload_n hx hb dX3_smallestRemovalForWishes_9 rfl (lv_at hl 1 rfl) ?_
  refine fw_get (id := 1) (k := 0) (v := .ref (adr 12)) X hH (by decide) (fc_1 (by decide)) rfl inX3 (by decide) rfl tw_1_105 dX3_smallestRemovalForWishes_10 ?_
  refine fw_getN (id := 12) (k := 2) (v := .ref (adr 17)) X hH (by decide) (fc_12 (by decide)) rfl inX5 (by decide) rfl nw_1_91 dX3_smallestRemovalForWishes_13 ?_
  refine fw_getN (id := 17) (k := 4) (v := .int (fw_g τ2 17 4)) X hH (by decide) (fc_15 (by decide)) rfl inX0 (by decide) rfl nw_1_72 dX3_smallestRemovalForWishes_16 ?_
  refine lv_bipush (v := (6 : Int32)) hx hb dX3_smallestRemovalForWishes_19 (by decide) ?_
  refine va_mmin hx hb (X.1.2.2.1.trans hl.1.symm) X.1.2.2.2.1 (X.1.2.2.2.2 _ tw_3_88) (X.1.2.2.2.2 _ tw_1_41) (X.1.2.2.2.2 _ tw_1_5) (X.1.2.2.2.2 _ tw_1_42) (Nat.le_of_ble_eq_true rfl) (Nat.le_of_ble_eq_true rfl) (Nat.zero_le _) (Nat.zero_le _) dX3_smallestRemovalForWishes_21 ?_
  refine lv_ishl hx hb dX3_smallestRemovalForWishes_24 ?_
  refine lv_istore_n (lv' := [(2, .int ((1 : Int32) <<< ((if (6 : Int32) < (fw_g τ2 17 4) then (6 : Int32) else (fw_g τ2 17 4)) &&& 31))), (1, .int (-10001 : Int32)), (0, .ref (adr 1))]) hx hb dX3_smallestRemovalForWishes_25 rfl hl (by decide) rfl (fun ls hl => ?_)
  refine lv_iconst (v := (0 : Int32)) hx hb dX3_smallestRemovalForWishes_26 (by decide) ?_
  refine lv_istore_n (lv' := [(3, .int (0 : Int32)), (2, .int ((1 : Int32) <<< ((if (6 : Int32) < (fw_g τ2 17 4) then (6 : Int32) else (fw_g τ2 17 4)) &&& 31))), (1, .int (-10001 : Int32)), (0, .ref (adr 1))]) hx hb dX3_smallestRemovalForWishes_27 rfl hl (by decide) rfl (fun ls hl => ?_)
  exact wX3_smallestRemovalForWishes_28 X 400 (-10001 : Int32) ((1 : Int32) <<< ((if (6 : Int32) < (fw_g τ2 17 4) then (6 : Int32) else (fw_g τ2 17 4)) &&& 31)) (0 : Int32) τ2 hf _ _ _ hH (lv_sub hl [3, 2, 1, 0] rfl)
abbrev rmX7_filtersToRemoveForWishes : Room := { frames := 6, cells := 0, slots := 0, locals := 135 }
theorem qX7_filtersToRemoveForWishes : fw_QV RX7 yX7_filtersToRemoveForWishes cX7_filtersToRemoveForWishes 1 (some .int) 0 := ⟨⟨tw_3_77, tw_3_78, tw_1_1, tw_3_79⟩, by decide +kernel⟩
def pX7_filtersToRemoveForWishes (σ : fw_T) : Option (Int32 × fw_T) :=
  fw_b2 (pX3_smallestRemovalForWishes σ) fun w3 τ2 =>
  some (w3, τ2)
set_option maxRecDepth 100000 in
set_option maxHeartbeats 4000000 in
theorem kX7_filtersToRemoveForWishes {r : Int32} {σ σ' : fw_T} (hf : pX7_filtersToRemoveForWishes σ = some (r, σ')) : fw_Ci l yX7_filtersToRemoveForWishes (Cond.code yX7_filtersToRemoveForWishes cX7_filtersToRemoveForWishes 1 (some .int) :: lwT) rmX7_filtersToRemoveForWishes [.ref (adr 0)] D 96 adr (fw_C cI cO adr) (fcT cI cO) nwC σ r σ' := by
  refine fw_start (Qc := (fun A => va_Qi (fun r' (_ : Unit) => r' = r) (fun _ t => va_P D vwCl (fw_ws 96 adr (fw_C cI cO adr σ')) t.heap) A)) (by decide) (by simp [lg_sl, Value.category]) rfl ?_
  intro p e s m below meth c A X hH ls hl
  have hx := X.1.1
  have hb := X.1.2.1
  have hl : lv_has ls 1 [(0, .ref (adr 0))] := hl
  unfold pX7_filtersToRemoveForWishes at hf
  refine lv_aload_n hx hb dX7_filtersToRemoveForWishes_0 rfl (lv_at hl 0 rfl) ?_
  refine fw_get (id := 0) (k := 0) (v := .ref (adr 1)) X hH (by decide) (fc_0 (by decide)) rfl inX7 (by decide) rfl tw_1_177 dX7_filtersToRemoveForWishes_1 ?_
  obtain ⟨w3, τ2, g1, hf⟩ := fw_b2s hf
  refine fw_ci hH (fw_rV (As := []) (rest := []) (id := 1) X hH (kX3_smallestRemovalForWishes  g1 _) qX3_smallestRemovalForWishes tw_3_80 ⟨Nat.le_of_ble_eq_true rfl, Nat.le_of_ble_eq_true rfl⟩ rfl rfl (by decide) (fc_1 (by decide)) rfl rfl hl.1 rfl (Nat.le_of_ble_eq_true rfl) dX7_filtersToRemoveForWishes_4) (fun H locs hH => ?_)
  obtain ⟨rfl, rfl⟩ := fw_s2 hf
  exact fw_reti X hH dX7_filtersToRemoveForWishes_7
abbrev rmX6_put : Room := { frames := 0, cells := 0, slots := 0, locals := 0 }
theorem qX6_put : fw_QV RX6 yX6_put cX6_put 2 (some .int) 1 := ⟨⟨tw_3_102, tw_3_103, tw_1_9, tw_3_104⟩, by decide +kernel⟩
def pX6_put (x1 : Int32) (σ : fw_T) : Option (Int32 × fw_T) :=
  if x1 < 0 then
    some ((-10002 : Int32), σ)
  else
    if x1 ≤ (127 : Int32) then
      if (fw_g σ 7 1) < (120 : Int32) then
        (fw_wr σ 8 120 (fw_g σ 7 1) x1).bind fun τ1 =>
        some ((fw_g (fw_u τ1 7 1 ((fw_g τ1 7 1) + (1 : Int32))) 7 1), (fw_u τ1 7 1 ((fw_g τ1 7 1) + (1 : Int32))))
      else
        some ((-10004 : Int32), σ)
    else
      some ((-10002 : Int32), σ)
set_option maxRecDepth 100000 in
set_option maxHeartbeats 4000000 in
theorem kX6_put {x1 : Int32} {r : Int32} {σ σ' : fw_T} (hf : pX6_put x1 σ = some (r, σ')) : fw_Ci l yX6_put (Cond.code yX6_put cX6_put 2 (some .int) :: lwT) rmX6_put [.ref (adr 7), .int x1] D 96 adr (fw_C cI cO adr) (fcT cI cO) nwC σ r σ' := by
  refine fw_start (Qc := (fun A => va_Qi (fun r' (_ : Unit) => r' = r) (fun _ t => va_P D vwCl (fw_ws 96 adr (fw_C cI cO adr σ')) t.heap) A)) (by decide) (by simp [lg_sl, Value.category]) rfl ?_
  intro p e s m below meth c A X hH ls hl
  have hx := X.1.1
  have hb := X.1.2.1
  have hl : lv_has ls 2 [(0, .ref (adr 7)), (1, .int x1)] := hl
  unfold pX6_put at hf
  refine lv_iload_n hx hb dX6_put_0 rfl (lv_at hl 1 rfl) ?_
  refine lv_if_lt (tgt := 10) hx hb dX6_put_1 (by decide) (fun hc => ?_) (fun hc => ?_)
  · have hf := fw_pos hc hf
    refine lv_sipush (v := (-10002 : Int32)) hx hb dX6_put_10 (by decide) ?_
    obtain ⟨rfl, rfl⟩ := fw_s2 hf
    exact fw_reti X hH dX6_put_13
  · have hf := fw_neg hc hf
    refine lv_iload_n hx hb dX6_put_4 rfl (lv_at hl 1 rfl) ?_
    refine lv_bipush (v := (127 : Int32)) hx hb dX6_put_5 (by decide) ?_
    refine lv_icmp_le (tgt := 14) hx hb dX6_put_7 (by decide) (fun hc => ?_) (fun hc => ?_)
    · have hf := fw_pos hc hf
      refine lv_aload_n hx hb dX6_put_14 rfl (lv_at hl 0 rfl) ?_
      refine fw_get (id := 7) (k := 1) (v := .int (fw_g σ 7 1)) X hH (by decide) (fc_7 (by decide)) rfl inX6 (by decide) rfl tw_1_150 dX6_put_15 ?_
      refine lv_bipush (v := (120 : Int32)) hx hb dX6_put_18 (by decide) ?_
      refine lv_icmp_lt (tgt := 27) hx hb dX6_put_20 (by decide) (fun hc => ?_) (fun hc => ?_)
      · have hf := fw_pos hc hf
        refine lv_aload_n hx hb dX6_put_27 rfl (lv_at hl 0 rfl) ?_
        refine fw_get (id := 7) (k := 0) (v := .ref (adr 8)) X hH (by decide) (fc_7 (by decide)) rfl inX6 (by decide) rfl tw_1_149 dX6_put_28 ?_
        refine lv_aload_n hx hb dX6_put_31 rfl (lv_at hl 0 rfl) ?_
        refine fw_get (id := 7) (k := 1) (v := .int (fw_g σ 7 1)) X hH (by decide) (fc_7 (by decide)) rfl inX6 (by decide) rfl tw_1_150 dX6_put_32 ?_
        refine lv_iload_n hx hb dX6_put_35 rfl (lv_at hl 1 rfl) ?_
        obtain ⟨τ1, g2, hf⟩ := fw_bd hf
        refine fw_iast (id := 8) (n := 120) X hH (by decide) (fun σ => fc_8 (by decide)) (fun k x j h => fc_ne h) rfl g2 dX6_put_36 (fun H locs hH => ?_)
        refine lv_aload_n hx hb dX6_put_37 rfl (lv_at hl 0 rfl) ?_
        refine lv_dup hx hb dX6_put_38 rfl ?_
        refine fw_get (id := 7) (k := 1) (v := .int (fw_g τ1 7 1)) X hH (by decide) (fc_7 (by decide)) rfl inX6 (by decide) rfl tw_1_150 dX6_put_39 ?_
        refine lv_iconst (v := (1 : Int32)) hx hb dX6_put_42 (by decide) ?_
        refine lv_iadd hx hb dX6_put_43 ?_
        refine fw_put (id := 7) (k := 1) (v := .int ((fw_g τ1 7 1) + (1 : Int32))) (ty := .int) (σ' := (fw_u τ1 7 1 ((fw_g τ1 7 1) + (1 : Int32)))) X hH (by decide) (fc_7 (by decide)) (fp_7_1 (by decide)) (fun j h => fc_ne h) rfl inX6 tyX6 tyX6_ok nmX6 (by decide) (Nat.le_of_ble_eq_true rfl) rfl (by decide +kernel) rfl rfl tw_1_150 dX6_put_44 (fun H locs hH => ?_)
        refine lv_aload_n hx hb dX6_put_47 rfl (lv_at hl 0 rfl) ?_
        refine fw_get (id := 7) (k := 1) (v := .int (fw_g (fw_u τ1 7 1 ((fw_g τ1 7 1) + (1 : Int32))) 7 1)) X hH (by decide) (fc_7 (by decide)) rfl inX6 (by decide) rfl tw_1_150 dX6_put_48 ?_
        obtain ⟨rfl, rfl⟩ := fw_s2 hf
        exact fw_reti X hH dX6_put_51
      · have hf := fw_neg hc hf
        refine lv_sipush (v := (-10004 : Int32)) hx hb dX6_put_23 (by decide) ?_
        obtain ⟨rfl, rfl⟩ := fw_s2 hf
        exact fw_reti X hH dX6_put_26
    · have hf := fw_neg hc hf
      refine lv_sipush (v := (-10002 : Int32)) hx hb dX6_put_10 (by decide) ?_
      obtain ⟨rfl, rfl⟩ := fw_s2 hf
      exact fw_reti X hH dX6_put_13
abbrev rmX7_append : Room := { frames := 2, cells := 0, slots := 0, locals := 41 }
theorem qX7_append : fw_QV RX7 yX7_append cX7_append 2 (some .int) 1 := ⟨⟨tw_3_98, tw_3_99, tw_1_1, tw_3_100⟩, by decide +kernel⟩
def pX7_append (x1 : Int32) (σ : fw_T) : Option (Int32 × fw_T) :=
  fw_b2 (pX6_put x1 σ) fun w3 τ2 =>
  fw_b2 (pX7_report w3 τ2) fun w6 τ5 =>
  some (w6, τ5)
set_option maxRecDepth 100000 in
set_option maxHeartbeats 4000000 in
theorem kX7_append {x1 : Int32} {r : Int32} {σ σ' : fw_T} (hf : pX7_append x1 σ = some (r, σ')) : fw_Ci l yX7_append (Cond.code yX7_append cX7_append 2 (some .int) :: lwT) rmX7_append [.ref (adr 0), .int x1] D 96 adr (fw_C cI cO adr) (fcT cI cO) nwC σ r σ' := by
  refine fw_start (Qc := (fun A => va_Qi (fun r' (_ : Unit) => r' = r) (fun _ t => va_P D vwCl (fw_ws 96 adr (fw_C cI cO adr σ')) t.heap) A)) (by decide) (by simp [lg_sl, Value.category]) rfl ?_
  intro p e s m below meth c A X hH ls hl
  have hx := X.1.1
  have hb := X.1.2.1
  have hl : lv_has ls 2 [(0, .ref (adr 0)), (1, .int x1)] := hl
  unfold pX7_append at hf
  refine lv_aload_n hx hb dX7_append_0 rfl (lv_at hl 0 rfl) ?_
  refine lv_aload_n hx hb dX7_append_1 rfl (lv_at hl 0 rfl) ?_
  refine fw_get (id := 0) (k := 4) (v := .ref (adr 7)) X hH (by decide) (fc_0 (by decide)) rfl inX7 (by decide) rfl tw_1_181 dX7_append_2 ?_
  refine lv_iload_n hx hb dX7_append_5 rfl (lv_at hl 1 rfl) ?_
  obtain ⟨w3, τ2, g1, hf⟩ := fw_b2s hf
  refine fw_ci hH (fw_rV (As := [.int x1]) (rest := [.ref (adr 0)]) (id := 7) X hH (kX6_put  g1 _) qX6_put tw_3_101 ⟨Nat.le_of_ble_eq_true rfl, Nat.le_of_ble_eq_true rfl⟩ rfl rfl (by decide) (fc_7 (by decide)) rfl rfl hl.1 rfl (Nat.le_of_ble_eq_true rfl) dX7_append_6) (fun H locs hH => ?_)
  obtain ⟨w6, τ5, g4, hf⟩ := fw_b2s hf
  refine fw_ci hH (fw_rV (As := [.int w3]) (rest := []) (id := 0) X hH (kX7_report  g4 _) qX7_report tw_2_10 ⟨Nat.le_of_ble_eq_true rfl, Nat.le_of_ble_eq_true rfl⟩ rfl rfl (by decide) (fc_0 (by decide)) rfl rfl hl.1 rfl (Nat.le_of_ble_eq_true rfl) dX7_append_9) (fun H locs hH => ?_)
  obtain ⟨rfl, rfl⟩ := fw_s2 hf
  exact fw_reti X hH dX7_append_12
end
