section
variable {p : Program} {l : Launch} {e : Env} {s : State} {m : MethodId} {below : List Frame} {meth : Method} {c : Code} {D : va_G} {cI cO cB : ClassId} {adr : Nat → Nat} {A : Nat → Prop}
abbrev rmX8_addWish : Room := { frames := 2, cells := 0, slots := 0, locals := 43 }
theorem qX8_addWish : fw_QV RX8 yX8_addWish cX8_addWish 3 (some .int) 2 := ⟨⟨tw_4_221, tw_4_222, tw_1_10, tw_4_223⟩, by decide +kernel⟩
def pX8_addWish (x1 : Int32) (x2 : Int32) (σ : fw_T) : Option (Int32 × fw_T) :=
  fw_b2 (pX8_isDigitPair x1 x2 σ) fun w3 τ2 =>
  if w3 = 0 then
    fw_b2 (pX8_fail (-10002 : Int32) τ2) fun w23 τ22 =>
    some (w23, τ22)
  else
    fw_b2 (pX8_placeOf (47 : Int32) (((10 : Int32) * x1) + x2) τ2) fun w6 τ5 =>
    if w6 = (-10001 : Int32) then
      (fw_rd τ5 1 52 (47 : Int32)).bind fun w7 =>
      if w7 = (4 : Int32) then
        fw_b2 (pX8_fail (-10004 : Int32) τ5) fun w17 τ16 =>
        some (w17, τ16)
      else
        (pX8_note τ5).bind fun τ10 =>
        (pX8_putBehind (47 : Int32) (((10 : Int32) * x1) + x2) τ10).bind fun τ12 =>
        (fw_rd τ12 1 52 (47 : Int32)).bind fun w13 =>
        some (w13, τ12)
    else
      fw_b2 (pX8_fail (-10003 : Int32) τ5) fun w20 τ19 =>
      some (w20, τ19)
set_option maxRecDepth 100000 in
set_option maxHeartbeats 4000000 in
theorem kX8_addWish {x1 : Int32} {x2 : Int32} {r : Int32} {σ σ' : fw_T} (hf : pX8_addWish x1 x2 σ = some (r, σ')) : fw_Ci l yX8_addWish (Cond.code yX8_addWish cX8_addWish 3 (some .int) :: lwT) rmX8_addWish [.ref (adr 0), .int x1, .int x2] D 7 adr (fw_M cI cB adr) (fmT cI cB) [] σ r σ' := by
  refine fw_start (Qc := (fun A => va_Qi (fun r' (_ : Unit) => r' = r) (fun _ t => va_P D vwCl (fw_ws 7 adr (fw_M cI cB adr σ')) t.heap) A)) (by decide) (by simp [lg_sl, Value.category]) rfl ?_
  intro p e s m below meth c A X hH ls hl
  have hx := X.1.1
  have hb := X.1.2.1
  have hl : lv_has ls 3 [(0, .ref (adr 0)), (1, .int x1), (2, .int x2)] := hl
  unfold pX8_addWish at hf
  refine lv_iload_n hx hb dX8_addWish_0 rfl (lv_at hl 1 rfl) ?_
  refine lv_iload_n hx hb dX8_addWish_1 rfl (lv_at hl 2 rfl) ?_
  obtain ⟨w3, τ2, g1, hf⟩ := fw_b2s hf
  refine fw_ci hH (fw_rS (As := [.int x1, .int x2]) (rest := []) X hH (kX8_isDigitPair  g1 _) qX8_isDigitPair tw_4_14 ⟨Nat.le_of_ble_eq_true rfl, Nat.le_of_ble_eq_true rfl⟩ rfl rfl rfl hl.1 rfl (Nat.le_of_ble_eq_true rfl) dX8_addWish_2) (fun H locs hH => ?_)
  refine lv_if_ne (tgt := 16) hx hb dX8_addWish_5 (by decide) (fun hc => ?_) (fun hc => ?_)
  · have hf := fw_neg hc hf
    refine lv_aload_n hx hb dX8_addWish_16 rfl (lv_at hl 0 rfl) ?_
    refine lv_bipush (v := (47 : Int32)) hx hb dX8_addWish_17 (by decide) ?_
    refine lv_bipush (v := (10 : Int32)) hx hb dX8_addWish_19 (by decide) ?_
    refine lv_iload_n hx hb dX8_addWish_21 rfl (lv_at hl 1 rfl) ?_
    refine lv_imul hx hb dX8_addWish_22 ?_
    refine lv_iload_n hx hb dX8_addWish_23 rfl (lv_at hl 2 rfl) ?_
    refine lv_iadd hx hb dX8_addWish_24 ?_
    obtain ⟨w6, τ5, g4, hf⟩ := fw_b2s hf
    refine fw_ci hH (fw_rV (As := [.int (47 : Int32), .int (((10 : Int32) * x1) + x2)]) (rest := []) (id := 0) X hH (kX8_placeOf  g4 _) qX8_placeOf tw_4_24 ⟨Nat.le_of_ble_eq_true rfl, Nat.le_of_ble_eq_true rfl⟩ rfl rfl (by decide) rfl rfl rfl hl.1 rfl (Nat.le_of_ble_eq_true rfl) dX8_addWish_25) (fun H locs hH => ?_)
    refine lv_sipush (v := (-10001 : Int32)) hx hb dX8_addWish_28 (by decide) ?_
    refine lv_icmp_eq (tgt := 42) hx hb dX8_addWish_31 (by decide) (fun hc => ?_) (fun hc => ?_)
    · have hf := fw_pos hc hf
      refine lv_aload_n hx hb dX8_addWish_42 rfl (lv_at hl 0 rfl) ?_
      refine fw_get (id := 0) (k := 0) (v := .ref (adr 1)) X hH (by decide) rfl rfl inX8 (by decide) rfl tw_3_202 dX8_addWish_43 ?_
      refine lv_bipush (v := (47 : Int32)) hx hb dX8_addWish_46 (by decide) ?_
      obtain ⟨w7, g8, hf⟩ := fw_bd hf
      refine fw_iald (id := 1) (n := 52) X hH (by decide) rfl rfl g8 dX8_addWish_48 ?_
      refine lv_iconst (v := (4 : Int32)) hx hb dX8_addWish_49 (by decide) ?_
      refine lv_icmp_ne (tgt := 61) hx hb dX8_addWish_50 (by decide) (fun hc => ?_) (fun hc => ?_)
      · have hf := fw_neg hc hf
        refine lv_aload_n hx hb dX8_addWish_61 rfl (lv_at hl 0 rfl) ?_
        obtain ⟨τ10, g9, hf⟩ := fw_bd hf
        refine fw_cv hH (fw_rV (As := []) (rest := []) (id := 0) X hH (kX8_note  g9 _) qX8_note tw_4_28 ⟨Nat.le_of_ble_eq_true rfl, Nat.le_of_ble_eq_true rfl⟩ rfl rfl (by decide) rfl rfl rfl hl.1 rfl (Nat.le_of_ble_eq_true rfl) dX8_addWish_62) (fun H locs hH => ?_)
        refine lv_aload_n hx hb dX8_addWish_65 rfl (lv_at hl 0 rfl) ?_
        refine lv_bipush (v := (47 : Int32)) hx hb dX8_addWish_66 (by decide) ?_
        refine lv_bipush (v := (10 : Int32)) hx hb dX8_addWish_68 (by decide) ?_
        refine lv_iload_n hx hb dX8_addWish_70 rfl (lv_at hl 1 rfl) ?_
        refine lv_imul hx hb dX8_addWish_71 ?_
        refine lv_iload_n hx hb dX8_addWish_72 rfl (lv_at hl 2 rfl) ?_
        refine lv_iadd hx hb dX8_addWish_73 ?_
        obtain ⟨τ12, g11, hf⟩ := fw_bd hf
        refine fw_cv hH (fw_rV (As := [.int (47 : Int32), .int (((10 : Int32) * x1) + x2)]) (rest := []) (id := 0) X hH (kX8_putBehind  g11 _) qX8_putBehind tw_4_32 ⟨Nat.le_of_ble_eq_true rfl, Nat.le_of_ble_eq_true rfl⟩ rfl rfl (by decide) rfl rfl rfl hl.1 rfl (Nat.le_of_ble_eq_true rfl) dX8_addWish_74) (fun H locs hH => ?_)
        refine lv_aload_n hx hb dX8_addWish_77 rfl (lv_at hl 0 rfl) ?_
        refine fw_get (id := 0) (k := 0) (v := .ref (adr 1)) X hH (by decide) rfl rfl inX8 (by decide) rfl tw_3_202 dX8_addWish_78 ?_
        refine lv_bipush (v := (47 : Int32)) hx hb dX8_addWish_81 (by decide) ?_
        obtain ⟨w13, g14, hf⟩ := fw_bd hf
        refine fw_iald (id := 1) (n := 52) X hH (by decide) rfl rfl g14 dX8_addWish_83 ?_
        obtain ⟨rfl, rfl⟩ := fw_s2 hf
        exact fw_reti X hH dX8_addWish_84
      · have hf := fw_pos hc hf
        refine lv_aload_n hx hb dX8_addWish_53 rfl (lv_at hl 0 rfl) ?_
        refine lv_sipush (v := (-10004 : Int32)) hx hb dX8_addWish_54 (by decide) ?_
        obtain ⟨w17, τ16, g15, hf⟩ := fw_b2s hf
        refine fw_ci hH (fw_rV (As := [.int (-10004 : Int32)]) (rest := []) (id := 0) X hH (kX8_fail  g15 _) qX8_fail tw_4_20 ⟨Nat.le_of_ble_eq_true rfl, Nat.le_of_ble_eq_true rfl⟩ rfl rfl (by decide) rfl rfl rfl hl.1 rfl (Nat.le_of_ble_eq_true rfl) dX8_addWish_57) (fun H locs hH => ?_)
        obtain ⟨rfl, rfl⟩ := fw_s2 hf
        exact fw_reti X hH dX8_addWish_60
    · have hf := fw_neg hc hf
      refine lv_aload_n hx hb dX8_addWish_34 rfl (lv_at hl 0 rfl) ?_
      refine lv_sipush (v := (-10003 : Int32)) hx hb dX8_addWish_35 (by decide) ?_
      obtain ⟨w20, τ19, g18, hf⟩ := fw_b2s hf
      refine fw_ci hH (fw_rV (As := [.int (-10003 : Int32)]) (rest := []) (id := 0) X hH (kX8_fail  g18 _) qX8_fail tw_4_20 ⟨Nat.le_of_ble_eq_true rfl, Nat.le_of_ble_eq_true rfl⟩ rfl rfl (by decide) rfl rfl rfl hl.1 rfl (Nat.le_of_ble_eq_true rfl) dX8_addWish_38) (fun H locs hH => ?_)
      obtain ⟨rfl, rfl⟩ := fw_s2 hf
      exact fw_reti X hH dX8_addWish_41
  · have hf := fw_pos hc hf
    refine lv_aload_n hx hb dX8_addWish_8 rfl (lv_at hl 0 rfl) ?_
    refine lv_sipush (v := (-10002 : Int32)) hx hb dX8_addWish_9 (by decide) ?_
    obtain ⟨w23, τ22, g21, hf⟩ := fw_b2s hf
    refine fw_ci hH (fw_rV (As := [.int (-10002 : Int32)]) (rest := []) (id := 0) X hH (kX8_fail  g21 _) qX8_fail tw_4_20 ⟨Nat.le_of_ble_eq_true rfl, Nat.le_of_ble_eq_true rfl⟩ rfl rfl (by decide) rfl rfl rfl hl.1 rfl (Nat.le_of_ble_eq_true rfl) dX8_addWish_12) (fun H locs hH => ?_)
    obtain ⟨rfl, rfl⟩ := fw_s2 hf
    exact fw_reti X hH dX8_addWish_15
abbrev rmX8_clearWishes : Room := { frames := 1, cells := 0, slots := 0, locals := 21 }
theorem qX8_clearWishes : fw_QV RX8 yX8_clearWishes cX8_clearWishes 2 (some .int) 0 := ⟨⟨tw_4_225, tw_4_226, tw_1_10, tw_4_227⟩, by decide +kernel⟩
def pX8_clearWishes (σ : fw_T) : Option (Int32 × fw_T) :=
  (pX8_note σ).bind fun τ2 =>
  (fw_rd τ2 1 52 (47 : Int32)).bind fun w3 =>
  (fw_wr τ2 1 52 (47 : Int32) (0 : Int32)).bind fun τ5 =>
  some (w3, τ5)
set_option maxRecDepth 100000 in
set_option maxHeartbeats 4000000 in
theorem kX8_clearWishes {r : Int32} {σ σ' : fw_T} (hf : pX8_clearWishes σ = some (r, σ')) : fw_Ci l yX8_clearWishes (Cond.code yX8_clearWishes cX8_clearWishes 2 (some .int) :: lwT) rmX8_clearWishes [.ref (adr 0)] D 7 adr (fw_M cI cB adr) (fmT cI cB) [] σ r σ' := by
  refine fw_start (Qc := (fun A => va_Qi (fun r' (_ : Unit) => r' = r) (fun _ t => va_P D vwCl (fw_ws 7 adr (fw_M cI cB adr σ')) t.heap) A)) (by decide) (by simp [lg_sl, Value.category]) rfl ?_
  intro p e s m below meth c A X hH ls hl
  have hx := X.1.1
  have hb := X.1.2.1
  have hl : lv_has ls 2 [(0, .ref (adr 0))] := hl
  unfold pX8_clearWishes at hf
  refine lv_aload_n hx hb dX8_clearWishes_0 rfl (lv_at hl 0 rfl) ?_
  obtain ⟨τ2, g1, hf⟩ := fw_bd hf
  refine fw_cv hH (fw_rV (As := []) (rest := []) (id := 0) X hH (kX8_note  g1 _) qX8_note tw_4_28 ⟨Nat.le_of_ble_eq_true rfl, Nat.le_of_ble_eq_true rfl⟩ rfl rfl (by decide) rfl rfl rfl hl.1 rfl (Nat.le_of_ble_eq_true rfl) dX8_clearWishes_1) (fun H locs hH => ?_)
  refine lv_aload_n hx hb dX8_clearWishes_4 rfl (lv_at hl 0 rfl) ?_
  refine fw_get (id := 0) (k := 0) (v := .ref (adr 1)) X hH (by decide) rfl rfl inX8 (by decide) rfl tw_3_202 dX8_clearWishes_5 ?_
  refine lv_bipush (v := (47 : Int32)) hx hb dX8_clearWishes_8 (by decide) ?_
  obtain ⟨w3, g4, hf⟩ := fw_bd hf
  refine fw_iald (id := 1) (n := 52) X hH (by decide) rfl rfl g4 dX8_clearWishes_10 ?_
  refine lv_istore_n (lv' := [(1, .int w3), (0, .ref (adr 0))]) hx hb dX8_clearWishes_11 rfl hl (by decide) rfl (fun ls hl => ?_)
  refine lv_aload_n hx hb dX8_clearWishes_12 rfl (lv_at hl 1 rfl) ?_
  refine fw_get (id := 0) (k := 0) (v := .ref (adr 1)) X hH (by decide) rfl rfl inX8 (by decide) rfl tw_3_202 dX8_clearWishes_13 ?_
  refine lv_bipush (v := (47 : Int32)) hx hb dX8_clearWishes_16 (by decide) ?_
  refine lv_iconst (v := (0 : Int32)) hx hb dX8_clearWishes_18 (by decide) ?_
  obtain ⟨τ5, g6, hf⟩ := fw_bd hf
  refine fw_iast (id := 1) (n := 52) X hH (by decide) (fun σ => rfl) (fun k x j h => fm_ne h) rfl g6 dX8_clearWishes_19 (fun H locs hH => ?_)
  refine lv_iload_n hx hb dX8_clearWishes_20 rfl (lv_at hl 0 rfl) ?_
  obtain ⟨rfl, rfl⟩ := fw_s2 hf
  exact fw_reti X hH dX8_clearWishes_21
abbrev rmX8_satisfied : Room := { frames := 5, cells := 0, slots := 0, locals := 124 }
theorem qX8_satisfied : fw_QV RX8 yX8_satisfied cX8_satisfied 4 (some .int) 1 := ⟨⟨tw_4_234, tv_X8_satisfied, tw_1_10, tw_4_235⟩, by decide +kernel⟩
def pX8_satisfied_4 : Nat → Int32 → Int32 → Int32 → fw_T → Option (Int32 × fw_T)
  | 0, _, _, _, _ => none
  | n + 1, x1, x2, x3, σ =>
    (fw_rd σ 1 52 (47 : Int32)).bind fun w1 =>
    if w1 ≤ x3 then
      some (x2, σ)
    else
      (fw_rd σ 1 52 ((48 : Int32) + x3)).bind fun w3 =>
      (fw_rd σ 1 52 ((48 : Int32) + x3)).bind fun w5 =>
      fw_b2 (pX8_matches (w3 / (10 : Int32)) (w5 - w5 / (10 : Int32) * (10 : Int32)) x1 σ) fun w9 τ8 =>
      if w9 ≤ 0 then
        pX8_satisfied_4 n x1 (x2 + (0 : Int32)) (x3 + (1 : Int32)) τ8
      else
        pX8_satisfied_4 n x1 (x2 + (1 : Int32)) (x3 + (1 : Int32)) τ8
set_option maxRecDepth 100000 in
set_option maxHeartbeats 4000000 in
theorem wX8_satisfied_4 {args : Array Value} {r : Int32} {σ' : fw_T} (X : fmX p m c cX8_satisfied 4 s args RX8 meth (some .int) D cI cB)  : ∀ (n : Nat), ∀ (x1 : Int32), ∀ (x2 : Int32), ∀ (x3 : Int32), ∀ (σ : fw_T), pX8_satisfied_4 n x1 x2 x3 σ = some (r, σ') → ∀ (H : Heap) (locs : List Loc) (ls : Array Slot), fmH D cI cB adr A s H locs σ → lv_has ls 4 [(0, .ref (adr 0)), (1, .int x1), (2, .int x2), (3, .int x3)] → W p l e rmX8_satisfied s m args below meth c H locs 0 0 (fw_Qi D 7 adr (fw_M cI cB adr) A below args s r σ') (F0 m 4 ls []) := by
  have hx := X.1.1
  have hb := X.1.2.1
  intro n
  induction n with
  | zero =>
    intro x1 x2 x3 σ hf
    exact absurd hf (by simp [pX8_satisfied_4])
  | succ n ih =>
    intro x1 x2 x3 σ hf H locs ls hH hl
    rw [pX8_satisfied_4] at hf
    refine lv_iload_n hx hb dX8_satisfied_4 rfl (lv_at hl 3 rfl) ?_
    refine lv_aload_n hx hb dX8_satisfied_5 rfl (lv_at hl 0 rfl) ?_
    refine fw_get (id := 0) (k := 0) (v := .ref (adr 1)) X hH (by decide) rfl rfl inX8 (by decide) rfl tw_3_202 dX8_satisfied_6 ?_
    refine lv_bipush (v := (47 : Int32)) hx hb dX8_satisfied_9 (by decide) ?_
    obtain ⟨w1, g2, hf⟩ := fw_bd hf
    refine fw_iald (id := 1) (n := 52) X hH (by decide) rfl rfl g2 dX8_satisfied_11 ?_
    refine lv_icmp_ge (tgt := 61) hx hb dX8_satisfied_12 (by decide) (fun hc => ?_) (fun hc => ?_)
    · have hf := fw_pos hc hf
      refine lv_iload_n hx hb dX8_satisfied_61 rfl (lv_at hl 2 rfl) ?_
      obtain ⟨rfl, rfl⟩ := fw_s2 hf
      exact fw_reti X hH dX8_satisfied_62
    · have hf := fw_neg hc hf
      refine lv_iload_n hx hb dX8_satisfied_15 rfl (lv_at hl 2 rfl) ?_
      refine lv_aload_n hx hb dX8_satisfied_16 rfl (lv_at hl 0 rfl) ?_
      refine lv_aload_n hx hb dX8_satisfied_17 rfl (lv_at hl 0 rfl) ?_
      refine fw_get (id := 0) (k := 0) (v := .ref (adr 1)) X hH (by decide) rfl rfl inX8 (by decide) rfl tw_3_202 dX8_satisfied_18 ?_
      refine lv_bipush (v := (48 : Int32)) hx hb dX8_satisfied_21 (by decide) ?_
      refine lv_iload_n hx hb dX8_satisfied_23 rfl (lv_at hl 3 rfl) ?_
      refine lv_iadd hx hb dX8_satisfied_24 ?_
      obtain ⟨w3, g4, hf⟩ := fw_bd hf
      refine fw_iald (id := 1) (n := 52) X hH (by decide) rfl rfl g4 dX8_satisfied_25 ?_
      refine lv_bipush (v := (10 : Int32)) hx hb dX8_satisfied_26 (by decide) ?_
      refine lv_idiv hx hb dX8_satisfied_28 (by decide) ?_
      refine lv_aload_n hx hb dX8_satisfied_29 rfl (lv_at hl 0 rfl) ?_
      refine fw_get (id := 0) (k := 0) (v := .ref (adr 1)) X hH (by decide) rfl rfl inX8 (by decide) rfl tw_3_202 dX8_satisfied_30 ?_
      refine lv_bipush (v := (48 : Int32)) hx hb dX8_satisfied_33 (by decide) ?_
      refine lv_iload_n hx hb dX8_satisfied_35 rfl (lv_at hl 3 rfl) ?_
      refine lv_iadd hx hb dX8_satisfied_36 ?_
      obtain ⟨w5, g6, hf⟩ := fw_bd hf
      refine fw_iald (id := 1) (n := 52) X hH (by decide) rfl rfl g6 dX8_satisfied_37 ?_
      refine lv_bipush (v := (10 : Int32)) hx hb dX8_satisfied_38 (by decide) ?_
      refine lv_irem hx hb dX8_satisfied_40 (by decide) ?_
      refine lv_iload_n hx hb dX8_satisfied_41 rfl (lv_at hl 1 rfl) ?_
      obtain ⟨w9, τ8, g7, hf⟩ := fw_b2s hf
      refine fw_ci hH (fw_rV (As := [.int (w3 / (10 : Int32)), .int (w5 - w5 / (10 : Int32) * (10 : Int32)), .int x1]) (rest := [.int x2]) (id := 0) X hH (kX8_matches  g7 _) qX8_matches tw_4_129 ⟨Nat.le_of_ble_eq_true rfl, Nat.le_of_ble_eq_true rfl⟩ rfl rfl (by decide) rfl rfl rfl hl.1 rfl (Nat.le_of_ble_eq_true rfl) dX8_satisfied_42) (fun H locs hH => ?_)
      refine lv_if_le (tgt := 52) hx hb dX8_satisfied_45 (by decide) (fun hc => ?_) (fun hc => ?_)
      · have hf := fw_pos hc hf
        refine lv_iconst (v := (0 : Int32)) hx hb dX8_satisfied_52 (by decide) ?_
        refine lv_iadd hx hb dX8_satisfied_53 ?_
        refine lv_istore_n (lv' := [(2, .int (x2 + (0 : Int32))), (0, .ref (adr 0)), (1, .int x1), (3, .int x3)]) hx hb dX8_satisfied_54 rfl hl (by decide) rfl (fun ls hl => ?_)
        refine lv_iinc (v := (x3 + (1 : Int32))) (lv' := [(3, .int (x3 + (1 : Int32))), (2, .int (x2 + (0 : Int32))), (0, .ref (adr 0)), (1, .int x1)]) hx hb dX8_satisfied_55 hl (k := 3) rfl rfl (by decide) rfl (fun ls hl => ?_)
        refine lv_goto (tgt := 4) hx hb dX8_satisfied_58 (by decide) ?_
        exact ih x1 (x2 + (0 : Int32)) (x3 + (1 : Int32)) τ8 hf _ _ _ hH (lv_sub hl [2, 3, 1, 0] rfl)
      · have hf := fw_neg hc hf
        refine lv_iconst (v := (1 : Int32)) hx hb dX8_satisfied_48 (by decide) ?_
        refine lv_goto (tgt := 53) hx hb dX8_satisfied_49 (by decide) ?_
        refine lv_iadd hx hb dX8_satisfied_53 ?_
        refine lv_istore_n (lv' := [(2, .int (x2 + (1 : Int32))), (0, .ref (adr 0)), (1, .int x1), (3, .int x3)]) hx hb dX8_satisfied_54 rfl hl (by decide) rfl (fun ls hl => ?_)
        refine lv_iinc (v := (x3 + (1 : Int32))) (lv' := [(3, .int (x3 + (1 : Int32))), (2, .int (x2 + (1 : Int32))), (0, .ref (adr 0)), (1, .int x1)]) hx hb dX8_satisfied_55 hl (k := 3) rfl rfl (by decide) rfl (fun ls hl => ?_)
        refine lv_goto (tgt := 4) hx hb dX8_satisfied_58 (by decide) ?_
        exact ih x1 (x2 + (1 : Int32)) (x3 + (1 : Int32)) τ8 hf _ _ _ hH (lv_sub hl [2, 3, 1, 0] rfl)
def pX8_satisfied (x1 : Int32) (σ : fw_T) : Option (Int32 × fw_T) :=
  pX8_satisfied_4 400 x1 (0 : Int32) (0 : Int32) σ
set_option maxRecDepth 100000 in
set_option maxHeartbeats 4000000 in
theorem kX8_satisfied {x1 : Int32} {r : Int32} {σ σ' : fw_T} (hf : pX8_satisfied x1 σ = some (r, σ')) : fw_Ci l yX8_satisfied (Cond.code yX8_satisfied cX8_satisfied 4 (some .int) :: lwT) rmX8_satisfied [.ref (adr 0), .int x1] D 7 adr (fw_M cI cB adr) (fmT cI cB) [] σ r σ' := by
  refine fw_start (Qc := (fun A => va_Qi (fun r' (_ : Unit) => r' = r) (fun _ t => va_P D vwCl (fw_ws 7 adr (fw_M cI cB adr σ')) t.heap) A)) (by decide) (by simp [lg_sl, Value.category]) rfl ?_
  intro p e s m below meth c A X hH ls hl
  have hx := X.1.1
  have hb := X.1.2.1
  have hl : lv_has ls 4 [(0, .ref (adr 0)), (1, .int x1)] := hl
  unfold pX8_satisfied at hf
  refine lv_iconst (v := (0 : Int32)) hx hb dX8_satisfied_0 (by decide) ?_
  refine lv_istore_n (lv' := [(2, .int (0 : Int32)), (0, .ref (adr 0)), (1, .int x1)]) hx hb dX8_satisfied_1 rfl hl (by decide) rfl (fun ls hl => ?_)
  refine lv_iconst (v := (0 : Int32)) hx hb dX8_satisfied_2 (by decide) ?_
  refine lv_istore_n (lv' := [(3, .int (0 : Int32)), (2, .int (0 : Int32)), (0, .ref (adr 0)), (1, .int x1)]) hx hb dX8_satisfied_3 rfl hl (by decide) rfl (fun ls hl => ?_)
  exact wX8_satisfied_4 X 400 x1 (0 : Int32) (0 : Int32) σ hf _ _ _ hH (lv_sub hl [2, 3, 1, 0] rfl)
abbrev rmX8_satisfiedWishes : Room := { frames := 6, cells := 0, slots := 0, locals := 147 }
theorem qX8_satisfiedWishes : fw_QV RX8 yX8_satisfiedWishes cX8_satisfiedWishes 1 (some .int) 0 := ⟨⟨tw_4_229, tw_4_230, tw_1_10, tw_4_231⟩, by decide +kernel⟩
def pX8_satisfiedWishes (σ : fw_T) : Option (Int32 × fw_T) :=
  fw_b2 (pX8_satisfied (0 : Int32) σ) fun w3 τ2 =>
  some (w3, τ2)
set_option maxRecDepth 100000 in
set_option maxHeartbeats 4000000 in
theorem kX8_satisfiedWishes {r : Int32} {σ σ' : fw_T} (hf : pX8_satisfiedWishes σ = some (r, σ')) : fw_Ci l yX8_satisfiedWishes (Cond.code yX8_satisfiedWishes cX8_satisfiedWishes 1 (some .int) :: lwT) rmX8_satisfiedWishes [.ref (adr 0)] D 7 adr (fw_M cI cB adr) (fmT cI cB) [] σ r σ' := by
  refine fw_start (Qc := (fun A => va_Qi (fun r' (_ : Unit) => r' = r) (fun _ t => va_P D vwCl (fw_ws 7 adr (fw_M cI cB adr σ')) t.heap) A)) (by decide) (by simp [lg_sl, Value.category]) rfl ?_
  intro p e s m below meth c A X hH ls hl
  have hx := X.1.1
  have hb := X.1.2.1
  have hl : lv_has ls 1 [(0, .ref (adr 0))] := hl
  unfold pX8_satisfiedWishes at hf
  refine lv_aload_n hx hb dX8_satisfiedWishes_0 rfl (lv_at hl 0 rfl) ?_
  refine lv_iconst (v := (0 : Int32)) hx hb dX8_satisfiedWishes_1 (by decide) ?_
  obtain ⟨w3, τ2, g1, hf⟩ := fw_b2s hf
  refine fw_ci hH (fw_rV (As := [.int (0 : Int32)]) (rest := []) (id := 0) X hH (kX8_satisfied  g1 _) qX8_satisfied tw_4_232 ⟨Nat.le_of_ble_eq_true rfl, Nat.le_of_ble_eq_true rfl⟩ rfl rfl (by decide) rfl rfl rfl hl.1 rfl (Nat.le_of_ble_eq_true rfl) dX8_satisfiedWishes_2) (fun H locs hH => ?_)
  obtain ⟨rfl, rfl⟩ := fw_s2 hf
  exact fw_reti X hH dX8_satisfiedWishes_5
abbrev rmX8_removalForWishes : Room := { frames := 6, cells := 0, slots := 0, locals := 147 }
theorem qX8_removalForWishes : fw_QV RX8 yX8_removalForWishes cX8_removalForWishes 4 (some .int) 0 := ⟨⟨tw_5_2, tv_X8_removalForWishes, tw_1_10, tw_5_3⟩, by decide +kernel⟩
def pX8_removalForWishes_43 (K16 : Int32 → Int32 → fw_T → Option (Int32 × fw_T)) (x1 : Int32) (x2 : Int32) (y0 : Int32) (σ : fw_T) : Option (Int32 × fw_T) :=
  if y0 = 0 then
    K16 x1 (x2 + (-1 : Int32)) σ
  else
    fw_b2 (pX8_satisfied x2 σ) fun w5 τ4 =>
    (fw_rd τ4 1 52 (47 : Int32)).bind fun w6 =>
    if w5 = w6 then
      K16 x2 (x2 + (-1 : Int32)) τ4
    else
      K16 x1 (x2 + (-1 : Int32)) τ4
set_option maxRecDepth 100000 in
set_option maxHeartbeats 4000000 in
theorem wX8_removalForWishes_43 {args : Array Value} {r : Int32} {σ' : fw_T} {K16 : Int32 → Int32 → fw_T → Option (Int32 × fw_T)} (X : fmX p m c cX8_removalForWishes 4 s args RX8 meth (some .int) D cI cB) (hK16 : ∀ (x1 : Int32), ∀ (x2 : Int32), ∀ (σ : fw_T), K16 x1 x2 σ = some (r, σ') → ∀ (H : Heap) (locs : List Loc) (ls : Array Slot), fmH D cI cB adr A s H locs σ → lv_has ls 4 [(0, .ref (adr 0)), (1, .int x1), (2, .int x2)] → W p l e rmX8_removalForWishes s m args below meth c H locs 0 0 (fw_Qi D 7 adr (fw_M cI cB adr) A below args s r σ') (F0 m 16 ls [])) : ∀ (x1 : Int32), ∀ (x2 : Int32), ∀ (y0 : Int32), ∀ (σ : fw_T), pX8_removalForWishes_43 K16 x1 x2 y0 σ = some (r, σ') → ∀ (H : Heap) (locs : List Loc) (ls : Array Slot), fmH D cI cB adr A s H locs σ → lv_has ls 4 [(0, .ref (adr 0)), (1, .int x1), (2, .int x2)] → W p l e rmX8_removalForWishes s m args below meth c H locs 0 0 (fw_Qi D 7 adr (fw_M cI cB adr) A below args s r σ') (F0 m 43 ls [.int y0]) := by
  have hx := X.1.1
  have hb := X.1.2.1
  intro x1 x2 y0 σ hf H locs ls hH hl
  unfold pX8_removalForWishes_43 at hf
  refine lv_istore_n (lv' := [(3, .int y0), (0, .ref (adr 0)), (1, .int x1), (2, .int x2)]) hx hb dX8_removalForWishes_43 rfl hl (by decide) rfl (fun ls hl => ?_)
  refine lv_iload_n hx hb dX8_removalForWishes_44 rfl (lv_at hl 0 rfl) ?_
  refine lv_if_eq (tgt := 67) hx hb dX8_removalForWishes_45 (by decide) (fun hc => ?_) (fun hc => ?_)
  · have hf := fw_pos hc hf
    refine lv_iload_n hx hb dX8_removalForWishes_67 rfl (lv_at hl 2 rfl) ?_
    refine lv_istore_n (lv' := [(1, .int x1), (3, .int y0), (0, .ref (adr 0)), (2, .int x2)]) hx hb dX8_removalForWishes_68 rfl hl (by decide) rfl (fun ls hl => ?_)
    refine lv_iinc (v := (x2 + (-1 : Int32))) (lv' := [(2, .int (x2 + (-1 : Int32))), (1, .int x1), (3, .int y0), (0, .ref (adr 0))]) hx hb dX8_removalForWishes_69 hl (k := 3) rfl rfl (by decide) rfl (fun ls hl => ?_)
    refine lv_goto (tgt := 16) hx hb dX8_removalForWishes_72 (by decide) ?_
    exact hK16 x1 (x2 + (-1 : Int32)) σ hf _ _ _ hH (lv_sub hl [3, 1, 0] rfl)
  · have hf := fw_neg hc hf
    refine lv_aload_n hx hb dX8_removalForWishes_48 rfl (lv_at hl 1 rfl) ?_
    refine lv_iload_n hx hb dX8_removalForWishes_49 rfl (lv_at hl 3 rfl) ?_
    obtain ⟨w5, τ4, g3, hf⟩ := fw_b2s hf
    refine fw_ci hH (fw_rV (As := [.int x2]) (rest := []) (id := 0) X hH (kX8_satisfied  g3 _) qX8_satisfied tw_4_232 ⟨Nat.le_of_ble_eq_true rfl, Nat.le_of_ble_eq_true rfl⟩ rfl rfl (by decide) rfl rfl rfl hl.1 rfl (Nat.le_of_ble_eq_true rfl) dX8_removalForWishes_50) (fun H locs hH => ?_)
    refine lv_aload_n hx hb dX8_removalForWishes_53 rfl (lv_at hl 1 rfl) ?_
    refine fw_get (id := 0) (k := 0) (v := .ref (adr 1)) X hH (by decide) rfl rfl inX8 (by decide) rfl tw_3_202 dX8_removalForWishes_54 ?_
    refine lv_bipush (v := (47 : Int32)) hx hb dX8_removalForWishes_57 (by decide) ?_
    obtain ⟨w6, g7, hf⟩ := fw_bd hf
    refine fw_iald (id := 1) (n := 52) X hH (by decide) rfl rfl g7 dX8_removalForWishes_59 ?_
    refine lv_icmp_ne (tgt := 67) hx hb dX8_removalForWishes_60 (by decide) (fun hc => ?_) (fun hc => ?_)
    · have hf := fw_neg hc hf
      refine lv_iload_n hx hb dX8_removalForWishes_67 rfl (lv_at hl 2 rfl) ?_
      refine lv_istore_n (lv' := [(1, .int x1), (3, .int y0), (0, .ref (adr 0)), (2, .int x2)]) hx hb dX8_removalForWishes_68 rfl hl (by decide) rfl (fun ls hl => ?_)
      refine lv_iinc (v := (x2 + (-1 : Int32))) (lv' := [(2, .int (x2 + (-1 : Int32))), (1, .int x1), (3, .int y0), (0, .ref (adr 0))]) hx hb dX8_removalForWishes_69 hl (k := 3) rfl rfl (by decide) rfl (fun ls hl => ?_)
      refine lv_goto (tgt := 16) hx hb dX8_removalForWishes_72 (by decide) ?_
      exact hK16 x1 (x2 + (-1 : Int32)) τ4 hf _ _ _ hH (lv_sub hl [3, 1, 0] rfl)
    · have hf := fw_pos hc hf
      refine lv_iload_n hx hb dX8_removalForWishes_63 rfl (lv_at hl 3 rfl) ?_
      refine lv_goto (tgt := 68) hx hb dX8_removalForWishes_64 (by decide) ?_
      refine lv_istore_n (lv' := [(1, .int x2), (3, .int y0), (0, .ref (adr 0)), (2, .int x2)]) hx hb dX8_removalForWishes_68 rfl hl (by decide) rfl (fun ls hl => ?_)
      refine lv_iinc (v := (x2 + (-1 : Int32))) (lv' := [(2, .int (x2 + (-1 : Int32))), (1, .int x2), (3, .int y0), (0, .ref (adr 0))]) hx hb dX8_removalForWishes_69 hl (k := 3) rfl rfl (by decide) rfl (fun ls hl => ?_)
      refine lv_goto (tgt := 16) hx hb dX8_removalForWishes_72 (by decide) ?_
      exact hK16 x2 (x2 + (-1 : Int32)) τ4 hf _ _ _ hH (lv_sub hl [3, 1, 0] rfl)
def pX8_removalForWishes_16 : Nat → Int32 → Int32 → fw_T → Option (Int32 × fw_T)
  | 0, _, _, _ => none
  | n + 1, x1, x2, σ =>
    if x2 < 0 then
      some (x1, σ)
    else
      if x1 = (-10001 : Int32) then
        pX8_removalForWishes_43 (fun a0 a1 σ => pX8_removalForWishes_16 n a0 a1 σ) x1 x2 (1 : Int32) σ
      else
        fw_b2 (pX8_ones x2 σ) fun w10 τ9 =>
        fw_b2 (pX8_ones x1 τ9) fun w13 τ12 =>
        if w13 < w10 then
          pX8_removalForWishes_43 (fun a0 a1 σ => pX8_removalForWishes_16 n a0 a1 σ) x1 x2 (0 : Int32) τ12
        else
          pX8_removalForWishes_43 (fun a0 a1 σ => pX8_removalForWishes_16 n a0 a1 σ) x1 x2 (1 : Int32) τ12
set_option maxRecDepth 100000 in
set_option maxHeartbeats 4000000 in
theorem wX8_removalForWishes_16 {args : Array Value} {r : Int32} {σ' : fw_T} (X : fmX p m c cX8_removalForWishes 4 s args RX8 meth (some .int) D cI cB)  : ∀ (n : Nat), ∀ (x1 : Int32), ∀ (x2 : Int32), ∀ (σ : fw_T), pX8_removalForWishes_16 n x1 x2 σ = some (r, σ') → ∀ (H : Heap) (locs : List Loc) (ls : Array Slot), fmH D cI cB adr A s H locs σ → lv_has ls 4 [(0, .ref (adr 0)), (1, .int x1), (2, .int x2)] → W p l e rmX8_removalForWishes s m args below meth c H locs 0 0 (fw_Qi D 7 adr (fw_M cI cB adr) A below args s r σ') (F0 m 16 ls []) := by
  have hx := X.1.1
  have hb := X.1.2.1
  intro n
  induction n with
  | zero =>
    intro x1 x2 σ hf
    exact absurd hf (by simp [pX8_removalForWishes_16])
  | succ n ih =>
    intro x1 x2 σ hf H locs ls hH hl
    rw [pX8_removalForWishes_16] at hf
    refine lv_iload_n hx hb dX8_removalForWishes_16 rfl (lv_at hl 2 rfl) ?_
    refine lv_if_lt (tgt := 75) hx hb dX8_removalForWishes_17 (by decide) (fun hc => ?_) (fun hc => ?_)
    · have hf := fw_pos hc hf
      refine lv_iload_n hx hb dX8_removalForWishes_75 rfl (lv_at hl 1 rfl) ?_
      obtain ⟨rfl, rfl⟩ := fw_s2 hf
      exact fw_reti X hH dX8_removalForWishes_76
    · have hf := fw_neg hc hf
      refine lv_iload_n hx hb dX8_removalForWishes_20 rfl (lv_at hl 1 rfl) ?_
      refine lv_sipush (v := (-10001 : Int32)) hx hb dX8_removalForWishes_21 (by decide) ?_
      refine lv_icmp_eq (tgt := 38) hx hb dX8_removalForWishes_24 (by decide) (fun hc => ?_) (fun hc => ?_)
      · have hf := fw_pos hc hf
        refine lv_iconst (v := (1 : Int32)) hx hb dX8_removalForWishes_38 (by decide) ?_
        refine lv_goto (tgt := 43) hx hb dX8_removalForWishes_39 (by decide) ?_
        exact wX8_removalForWishes_43 X ih x1 x2 (1 : Int32) σ hf _ _ _ hH (lv_sub hl [0, 1, 2] rfl)
      · have hf := fw_neg hc hf
        refine lv_iload_n hx hb dX8_removalForWishes_27 rfl (lv_at hl 2 rfl) ?_
        obtain ⟨w10, τ9, g8, hf⟩ := fw_b2s hf
        refine fw_ci hH (fw_rS (As := [.int x2]) (rest := []) X hH (kX8_ones  g8 _) qX8_ones tw_4_181 ⟨Nat.le_of_ble_eq_true rfl, Nat.le_of_ble_eq_true rfl⟩ rfl rfl rfl hl.1 rfl (Nat.le_of_ble_eq_true rfl) dX8_removalForWishes_28) (fun H locs hH => ?_)
        refine lv_iload_n hx hb dX8_removalForWishes_31 rfl (lv_at hl 1 rfl) ?_
        obtain ⟨w13, τ12, g11, hf⟩ := fw_b2s hf
        refine fw_ci hH (fw_rS (As := [.int x1]) (rest := [.int w10]) X hH (kX8_ones  g11 _) qX8_ones tw_4_181 ⟨Nat.le_of_ble_eq_true rfl, Nat.le_of_ble_eq_true rfl⟩ rfl rfl rfl hl.1 rfl (Nat.le_of_ble_eq_true rfl) dX8_removalForWishes_32) (fun H locs hH => ?_)
        refine lv_icmp_gt (tgt := 42) hx hb dX8_removalForWishes_35 (by decide) (fun hc => ?_) (fun hc => ?_)
        · have hf := fw_pos hc hf
          refine lv_iconst (v := (0 : Int32)) hx hb dX8_removalForWishes_42 (by decide) ?_
          exact wX8_removalForWishes_43 X ih x1 x2 (0 : Int32) τ12 hf _ _ _ hH (lv_sub hl [0, 1, 2] rfl)
        · have hf := fw_neg hc hf
          refine lv_iconst (v := (1 : Int32)) hx hb dX8_removalForWishes_38 (by decide) ?_
          refine lv_goto (tgt := 43) hx hb dX8_removalForWishes_39 (by decide) ?_
          exact wX8_removalForWishes_43 X ih x1 x2 (1 : Int32) τ12 hf _ _ _ hH (lv_sub hl [0, 1, 2] rfl)
def pX8_removalForWishes (σ : fw_T) : Option (Int32 × fw_T) :=
  (fw_rd σ 1 52 (22 : Int32)).bind fun w1 =>
  pX8_removalForWishes_16 400 (-10001 : Int32) (((1 : Int32) <<< (w1 &&& 31)) - (1 : Int32)) σ
set_option maxRecDepth 100000 in
set_option maxHeartbeats 4000000 in
theorem kX8_removalForWishes {r : Int32} {σ σ' : fw_T} (hf : pX8_removalForWishes σ = some (r, σ')) : fw_Ci l yX8_removalForWishes (Cond.code yX8_removalForWishes cX8_removalForWishes 4 (some .int) :: lwT) rmX8_removalForWishes [.ref (adr 0)] D 7 adr (fw_M cI cB adr) (fmT cI cB) [] σ r σ' := by
  refine fw_start (Qc := (fun A => va_Qi (fun r' (_ : Unit) => r' = r) (fun _ t => va_P D vwCl (fw_ws 7 adr (fw_M cI cB adr σ')) t.heap) A)) (by decide) (by simp [lg_sl, Value.category]) rfl ?_
  intro p e s m below meth c A X hH ls hl
  have hx := X.1.1
  have hb := X.1.2.1
  have hl : lv_has ls 4 [(0, .ref (adr 0))] := hl
  unfold pX8_removalForWishes at hf
  refine lv_sipush (v := (-10001 : Int32)) hx hb dX8_removalForWishes_0 (by decide) ?_
  refine lv_istore_n (lv' := [(1, .int (-10001 : Int32)), (0, .ref (adr 0))]) hx hb dX8_removalForWishes_3 rfl hl (by decide) rfl (fun ls hl => ?_)
  refine lv_iconst (v := (1 : Int32)) hx hb dX8_removalForWishes_4 (by decide) ?_
  refine lv_aload_n hx hb dX8_removalForWishes_5 rfl (lv_at hl 1 rfl) ?_
  refine fw_get (id := 0) (k := 0) (v := .ref (adr 1)) X hH (by decide) rfl rfl inX8 (by decide) rfl tw_3_202 dX8_removalForWishes_6 ?_
  refine lv_bipush (v := (22 : Int32)) hx hb dX8_removalForWishes_9 (by decide) ?_
  obtain ⟨w1, g2, hf⟩ := fw_bd hf
  refine fw_iald (id := 1) (n := 52) X hH (by decide) rfl rfl g2 dX8_removalForWishes_11 ?_
  refine lv_ishl hx hb dX8_removalForWishes_12 ?_
  refine lv_iconst (v := (1 : Int32)) hx hb dX8_removalForWishes_13 (by decide) ?_
  refine lv_isub hx hb dX8_removalForWishes_14 ?_
  refine lv_istore_n (lv' := [(2, .int (((1 : Int32) <<< (w1 &&& 31)) - (1 : Int32))), (1, .int (-10001 : Int32)), (0, .ref (adr 0))]) hx hb dX8_removalForWishes_15 rfl hl (by decide) rfl (fun ls hl => ?_)
  exact wX8_removalForWishes_16 X 400 (-10001 : Int32) (((1 : Int32) <<< (w1 &&& 31)) - (1 : Int32)) σ hf _ _ _ hH (lv_sub hl [2, 1, 0] rfl)
abbrev rmX8_filtersToRemoveForWishes : Room := { frames := 7, cells := 0, slots := 0, locals := 170 }
theorem qX8_filtersToRemoveForWishes : fw_QV RX8 yX8_filtersToRemoveForWishes cX8_filtersToRemoveForWishes 1 (some .int) 0 := ⟨⟨tw_4_237, tw_4_238, tw_1_10, tw_4_239⟩, by decide +kernel⟩
def pX8_filtersToRemoveForWishes (σ : fw_T) : Option (Int32 × fw_T) :=
  fw_b2 (pX8_removalForWishes σ) fun w3 τ2 =>
  some (w3, τ2)
set_option maxRecDepth 100000 in
set_option maxHeartbeats 4000000 in
theorem kX8_filtersToRemoveForWishes {r : Int32} {σ σ' : fw_T} (hf : pX8_filtersToRemoveForWishes σ = some (r, σ')) : fw_Ci l yX8_filtersToRemoveForWishes (Cond.code yX8_filtersToRemoveForWishes cX8_filtersToRemoveForWishes 1 (some .int) :: lwT) rmX8_filtersToRemoveForWishes [.ref (adr 0)] D 7 adr (fw_M cI cB adr) (fmT cI cB) [] σ r σ' := by
  refine fw_start (Qc := (fun A => va_Qi (fun r' (_ : Unit) => r' = r) (fun _ t => va_P D vwCl (fw_ws 7 adr (fw_M cI cB adr σ')) t.heap) A)) (by decide) (by simp [lg_sl, Value.category]) rfl ?_
  intro p e s m below meth c A X hH ls hl
  have hx := X.1.1
  have hb := X.1.2.1
  have hl : lv_has ls 1 [(0, .ref (adr 0))] := hl
  unfold pX8_filtersToRemoveForWishes at hf
  refine lv_aload_n hx hb dX8_filtersToRemoveForWishes_0 rfl (lv_at hl 0 rfl) ?_
  obtain ⟨w3, τ2, g1, hf⟩ := fw_b2s hf
  refine fw_ci hH (fw_rV (As := []) (rest := []) (id := 0) X hH (kX8_removalForWishes  g1 _) qX8_removalForWishes tw_5_0 ⟨Nat.le_of_ble_eq_true rfl, Nat.le_of_ble_eq_true rfl⟩ rfl rfl (by decide) rfl rfl rfl hl.1 rfl (Nat.le_of_ble_eq_true rfl) dX8_filtersToRemoveForWishes_1) (fun H locs hH => ?_)
  obtain ⟨rfl, rfl⟩ := fw_s2 hf
  exact fw_reti X hH dX8_filtersToRemoveForWishes_4
abbrev rmX8_append : Room := { frames := 1, cells := 0, slots := 0, locals := 22 }
theorem qX8_append : fw_QV RX8 yX8_append cX8_append 2 (some .int) 1 := ⟨⟨tw_5_5, tw_5_6, tw_1_10, tw_5_7⟩, by decide +kernel⟩
def pX8_append (x1 : Int32) (σ : fw_T) : Option (Int32 × fw_T) :=
  fw_b2 (pX8_in x1 (0 : Int32) (127 : Int32) σ) fun w3 τ2 =>
  if w3 = 0 then
    fw_b2 (pX8_fail (-10002 : Int32) τ2) fun w11 τ10 =>
    some (w11, τ10)
  else
    if (fw_g τ2 0 7) = (120 : Int32) then
      fw_b2 (pX8_fail (-10004 : Int32) τ2) fun w8 τ7 =>
      some (w8, τ7)
    else
      (fw_wr τ2 5 120 (fw_g τ2 0 7) (vp_nar .byte (x1.toInt8.toInt32))).bind fun τ4 =>
      some ((fw_g (fw_u τ4 0 7 ((fw_g τ4 0 7) + (1 : Int32))) 0 7), (fw_u τ4 0 7 ((fw_g τ4 0 7) + (1 : Int32))))
set_option maxRecDepth 100000 in
set_option maxHeartbeats 4000000 in
theorem kX8_append {x1 : Int32} {r : Int32} {σ σ' : fw_T} (hf : pX8_append x1 σ = some (r, σ')) : fw_Ci l yX8_append (Cond.code yX8_append cX8_append 2 (some .int) :: lwT) rmX8_append [.ref (adr 0), .int x1] D 7 adr (fw_M cI cB adr) (fmT cI cB) [] σ r σ' := by
  refine fw_start (Qc := (fun A => va_Qi (fun r' (_ : Unit) => r' = r) (fun _ t => va_P D vwCl (fw_ws 7 adr (fw_M cI cB adr σ')) t.heap) A)) (by decide) (by simp [lg_sl, Value.category]) rfl ?_
  intro p e s m below meth c A X hH ls hl
  have hx := X.1.1
  have hb := X.1.2.1
  have hl : lv_has ls 2 [(0, .ref (adr 0)), (1, .int x1)] := hl
  unfold pX8_append at hf
  refine lv_iload_n hx hb dX8_append_0 rfl (lv_at hl 1 rfl) ?_
  refine lv_iconst (v := (0 : Int32)) hx hb dX8_append_1 (by decide) ?_
  refine lv_bipush (v := (127 : Int32)) hx hb dX8_append_2 (by decide) ?_
  obtain ⟨w3, τ2, g1, hf⟩ := fw_b2s hf
  refine fw_ci hH (fw_rS (As := [.int x1, .int (0 : Int32), .int (127 : Int32)]) (rest := []) X hH (kX8_in  g1 _) qX8_in tw_4_17 ⟨Nat.le_of_ble_eq_true rfl, Nat.le_of_ble_eq_true rfl⟩ rfl rfl rfl hl.1 rfl (Nat.le_of_ble_eq_true rfl) dX8_append_4) (fun H locs hH => ?_)
  refine lv_if_ne (tgt := 18) hx hb dX8_append_7 (by decide) (fun hc => ?_) (fun hc => ?_)
  · have hf := fw_neg hc hf
    refine lv_aload_n hx hb dX8_append_18 rfl (lv_at hl 0 rfl) ?_
    refine fw_get (id := 0) (k := 7) (v := .int (fw_g τ2 0 7)) X hH (by decide) rfl rfl inX8 (by decide) rfl tw_3_209 dX8_append_19 ?_
    refine lv_bipush (v := (120 : Int32)) hx hb dX8_append_22 (by decide) ?_
    refine lv_icmp_ne (tgt := 35) hx hb dX8_append_24 (by decide) (fun hc => ?_) (fun hc => ?_)
    · have hf := fw_neg hc hf
      refine lv_aload_n hx hb dX8_append_35 rfl (lv_at hl 0 rfl) ?_
      refine fw_get (id := 0) (k := 6) (v := .ref (adr 5)) X hH (by decide) rfl rfl inX8 (by decide) rfl tw_3_208 dX8_append_36 ?_
      refine lv_aload_n hx hb dX8_append_39 rfl (lv_at hl 0 rfl) ?_
      refine fw_get (id := 0) (k := 7) (v := .int (fw_g τ2 0 7)) X hH (by decide) rfl rfl inX8 (by decide) rfl tw_3_209 dX8_append_40 ?_
      refine lv_iload_n hx hb dX8_append_43 rfl (lv_at hl 1 rfl) ?_
      refine lv_i2b (v := (x1.toInt8.toInt32)) hx hb dX8_append_44 rfl ?_
      obtain ⟨τ4, g5, hf⟩ := fw_bd hf
      refine fw_bast (id := 5) (n := 120) X hH (by decide) (fun σ => rfl) (fun k x j h => fm_ne h) rfl g5 dX8_append_45 (fun H locs hH => ?_)
      refine lv_aload_n hx hb dX8_append_46 rfl (lv_at hl 0 rfl) ?_
      refine lv_dup hx hb dX8_append_47 rfl ?_
      refine fw_get (id := 0) (k := 7) (v := .int (fw_g τ4 0 7)) X hH (by decide) rfl rfl inX8 (by decide) rfl tw_3_209 dX8_append_48 ?_
      refine lv_iconst (v := (1 : Int32)) hx hb dX8_append_51 (by decide) ?_
      refine lv_iadd hx hb dX8_append_52 ?_
      refine fw_put (id := 0) (k := 7) (v := .int ((fw_g τ4 0 7) + (1 : Int32))) (ty := .int) (σ' := (fw_u τ4 0 7 ((fw_g τ4 0 7) + (1 : Int32)))) X hH (by decide) rfl fpm_7 (fun j h => fm_ne h) rfl inX8 tyX8 tyX8_ok nmX8 (by decide) (Nat.le_of_ble_eq_true rfl) rfl (by decide +kernel) rfl rfl tw_3_209 dX8_append_53 (fun H locs hH => ?_)
      refine lv_aload_n hx hb dX8_append_56 rfl (lv_at hl 0 rfl) ?_
      refine fw_get (id := 0) (k := 7) (v := .int (fw_g (fw_u τ4 0 7 ((fw_g τ4 0 7) + (1 : Int32))) 0 7)) X hH (by decide) rfl rfl inX8 (by decide) rfl tw_3_209 dX8_append_57 ?_
      obtain ⟨rfl, rfl⟩ := fw_s2 hf
      exact fw_reti X hH dX8_append_60
    · have hf := fw_pos hc hf
      refine lv_aload_n hx hb dX8_append_27 rfl (lv_at hl 0 rfl) ?_
      refine lv_sipush (v := (-10004 : Int32)) hx hb dX8_append_28 (by decide) ?_
      obtain ⟨w8, τ7, g6, hf⟩ := fw_b2s hf
      refine fw_ci hH (fw_rV (As := [.int (-10004 : Int32)]) (rest := []) (id := 0) X hH (kX8_fail  g6 _) qX8_fail tw_4_20 ⟨Nat.le_of_ble_eq_true rfl, Nat.le_of_ble_eq_true rfl⟩ rfl rfl (by decide) rfl rfl rfl hl.1 rfl (Nat.le_of_ble_eq_true rfl) dX8_append_31) (fun H locs hH => ?_)
      obtain ⟨rfl, rfl⟩ := fw_s2 hf
      exact fw_reti X hH dX8_append_34
  · have hf := fw_pos hc hf
    refine lv_aload_n hx hb dX8_append_10 rfl (lv_at hl 0 rfl) ?_
    refine lv_sipush (v := (-10002 : Int32)) hx hb dX8_append_11 (by decide) ?_
    obtain ⟨w11, τ10, g9, hf⟩ := fw_b2s hf
    refine fw_ci hH (fw_rV (As := [.int (-10002 : Int32)]) (rest := []) (id := 0) X hH (kX8_fail  g9 _) qX8_fail tw_4_20 ⟨Nat.le_of_ble_eq_true rfl, Nat.le_of_ble_eq_true rfl⟩ rfl rfl (by decide) rfl rfl rfl hl.1 rfl (Nat.le_of_ble_eq_true rfl) dX8_append_14) (fun H locs hH => ?_)
    obtain ⟨rfl, rfl⟩ := fw_s2 hf
    exact fw_reti X hH dX8_append_17
abbrev rmX8_clearText : Room := { frames := 0, cells := 0, slots := 0, locals := 0 }
theorem qX8_clearText : fw_QV RX8 yX8_clearText cX8_clearText 2 (some .int) 0 := ⟨⟨tw_5_9, tw_5_10, tw_1_10, tw_5_11⟩, by decide +kernel⟩
def pX8_clearText (σ : fw_T) : Option (Int32 × fw_T) :=
  some ((fw_g σ 0 7), (fw_u σ 0 7 (0 : Int32)))
set_option maxRecDepth 100000 in
set_option maxHeartbeats 4000000 in
theorem kX8_clearText {r : Int32} {σ σ' : fw_T} (hf : pX8_clearText σ = some (r, σ')) : fw_Ci l yX8_clearText (Cond.code yX8_clearText cX8_clearText 2 (some .int) :: lwT) rmX8_clearText [.ref (adr 0)] D 7 adr (fw_M cI cB adr) (fmT cI cB) [] σ r σ' := by
  refine fw_start (Qc := (fun A => va_Qi (fun r' (_ : Unit) => r' = r) (fun _ t => va_P D vwCl (fw_ws 7 adr (fw_M cI cB adr σ')) t.heap) A)) (by decide) (by simp [lg_sl, Value.category]) rfl ?_
  intro p e s m below meth c A X hH ls hl
  have hx := X.1.1
  have hb := X.1.2.1
  have hl : lv_has ls 2 [(0, .ref (adr 0))] := hl
  unfold pX8_clearText at hf
  refine lv_aload_n hx hb dX8_clearText_0 rfl (lv_at hl 0 rfl) ?_
  refine fw_get (id := 0) (k := 7) (v := .int (fw_g σ 0 7)) X hH (by decide) rfl rfl inX8 (by decide) rfl tw_3_209 dX8_clearText_1 ?_
  refine lv_istore_n (lv' := [(1, .int (fw_g σ 0 7)), (0, .ref (adr 0))]) hx hb dX8_clearText_4 rfl hl (by decide) rfl (fun ls hl => ?_)
  refine lv_aload_n hx hb dX8_clearText_5 rfl (lv_at hl 1 rfl) ?_
  refine lv_iconst (v := (0 : Int32)) hx hb dX8_clearText_6 (by decide) ?_
  refine fw_put (id := 0) (k := 7) (v := .int (0 : Int32)) (ty := .int) (σ' := (fw_u σ 0 7 (0 : Int32))) X hH (by decide) rfl fpm_7 (fun j h => fm_ne h) rfl inX8 tyX8 tyX8_ok nmX8 (by decide) (Nat.le_of_ble_eq_true rfl) rfl (by decide +kernel) rfl rfl tw_3_209 dX8_clearText_7 (fun H locs hH => ?_)
  refine lv_iload_n hx hb dX8_clearText_10 rfl (lv_at hl 0 rfl) ?_
  obtain ⟨rfl, rfl⟩ := fw_s2 hf
  exact fw_reti X hH dX8_clearText_11
abbrev rmX8_here : Room := { frames := 0, cells := 0, slots := 0, locals := 0 }
theorem qX8_here : fw_QV RX8 yX8_here cX8_here 1 (some .int) 0 := ⟨⟨tw_5_26, tv_X8_here, tw_1_10, tw_5_27⟩, by decide +kernel⟩
def pX8_here (σ : fw_T) : Option (Int32 × fw_T) :=
  if (fw_g σ 0 7) ≤ (fw_g σ 0 11) then
    some ((-1 : Int32), σ)
  else
    (fw_rd σ 5 120 (fw_g σ 0 11)).bind fun w1 =>
    some (w1, σ)
set_option maxRecDepth 100000 in
set_option maxHeartbeats 4000000 in
theorem kX8_here {r : Int32} {σ σ' : fw_T} (hf : pX8_here σ = some (r, σ')) : fw_Ci l yX8_here (Cond.code yX8_here cX8_here 1 (some .int) :: lwT) rmX8_here [.ref (adr 0)] D 7 adr (fw_M cI cB adr) (fmT cI cB) [] σ r σ' := by
  refine fw_start (Qc := (fun A => va_Qi (fun r' (_ : Unit) => r' = r) (fun _ t => va_P D vwCl (fw_ws 7 adr (fw_M cI cB adr σ')) t.heap) A)) (by decide) (by simp [lg_sl, Value.category]) rfl ?_
  intro p e s m below meth c A X hH ls hl
  have hx := X.1.1
  have hb := X.1.2.1
  have hl : lv_has ls 1 [(0, .ref (adr 0))] := hl
  unfold pX8_here at hf
  refine lv_aload_n hx hb dX8_here_0 rfl (lv_at hl 0 rfl) ?_
  refine fw_get (id := 0) (k := 11) (v := .int (fw_g σ 0 11)) X hH (by decide) rfl rfl inX8 (by decide) rfl tw_3_213 dX8_here_1 ?_
  refine lv_aload_n hx hb dX8_here_4 rfl (lv_at hl 0 rfl) ?_
  refine fw_get (id := 0) (k := 7) (v := .int (fw_g σ 0 7)) X hH (by decide) rfl rfl inX8 (by decide) rfl tw_3_209 dX8_here_5 ?_
  refine lv_icmp_ge (tgt := 23) hx hb dX8_here_8 (by decide) (fun hc => ?_) (fun hc => ?_)
  · have hf := fw_pos hc hf
    refine lv_iconst (v := (-1 : Int32)) hx hb dX8_here_23 (by decide) ?_
    obtain ⟨rfl, rfl⟩ := fw_s2 hf
    exact fw_reti X hH dX8_here_24
  · have hf := fw_neg hc hf
    refine lv_aload_n hx hb dX8_here_11 rfl (lv_at hl 0 rfl) ?_
    refine fw_get (id := 0) (k := 6) (v := .ref (adr 5)) X hH (by decide) rfl rfl inX8 (by decide) rfl tw_3_208 dX8_here_12 ?_
    refine lv_aload_n hx hb dX8_here_15 rfl (lv_at hl 0 rfl) ?_
    refine fw_get (id := 0) (k := 11) (v := .int (fw_g σ 0 11)) X hH (by decide) rfl rfl inX8 (by decide) rfl tw_3_213 dX8_here_16 ?_
    obtain ⟨w1, g2, hf⟩ := fw_bd hf
    refine fw_bald (id := 5) (n := 120) X hH (by decide) rfl rfl g2 dX8_here_19 ?_
    refine lv_goto (tgt := 24) hx hb dX8_here_20 (by decide) ?_
    obtain ⟨rfl, rfl⟩ := fw_s2 hf
    exact fw_reti X hH dX8_here_24
abbrev rmX8_skip : Room := { frames := 1, cells := 0, slots := 0, locals := 20 }
theorem qX8_skip : fw_QV RX8 yX8_skip cX8_skip 1 none 0 := ⟨⟨tw_5_22, tv_X8_skip, tw_1_10, tw_5_23⟩, by decide +kernel⟩
def pX8_skip_0 : Nat → fw_T → Option (fw_T)
  | 0, _ => none
  | n + 1, σ =>
    fw_b2 (pX8_here σ) fun w3 τ2 =>
    if w3 = (32 : Int32) then
      pX8_skip_0 n (fw_u τ2 0 11 ((fw_g τ2 0 11) + (1 : Int32)))
    else
      some τ2
set_option maxRecDepth 100000 in
set_option maxHeartbeats 4000000 in
theorem wX8_skip_0 {args : Array Value} {σ' : fw_T} (X : fmX p m c cX8_skip 1 s args RX8 meth none D cI cB)  : ∀ (n : Nat), ∀ (σ : fw_T), pX8_skip_0 n σ = some σ' → ∀ (H : Heap) (locs : List Loc) (ls : Array Slot), fmH D cI cB adr A s H locs σ → lv_has ls 1 [(0, .ref (adr 0))] → W p l e rmX8_skip s m args below meth c H locs 0 0 (fw_Qv D 7 adr (fw_M cI cB adr) A below args s σ') (F0 m 0 ls []) := by
  have hx := X.1.1
  have hb := X.1.2.1
  intro n
  induction n with
  | zero =>
    intro σ hf
    exact absurd hf (by simp [pX8_skip_0])
  | succ n ih =>
    intro σ hf H locs ls hH hl
    rw [pX8_skip_0] at hf
    refine lv_aload_n hx hb dX8_skip_0 rfl (lv_at hl 0 rfl) ?_
    obtain ⟨w3, τ2, g1, hf⟩ := fw_b2s hf
    refine fw_ci hH (fw_rV (As := []) (rest := []) (id := 0) X hH (kX8_here  g1 _) qX8_here tw_5_24 ⟨Nat.le_of_ble_eq_true rfl, Nat.le_of_ble_eq_true rfl⟩ rfl rfl (by decide) rfl rfl rfl hl.1 rfl (Nat.le_of_ble_eq_true rfl) dX8_skip_1) (fun H locs hH => ?_)
    refine lv_bipush (v := (32 : Int32)) hx hb dX8_skip_4 (by decide) ?_
    refine lv_icmp_ne (tgt := 22) hx hb dX8_skip_6 (by decide) (fun hc => ?_) (fun hc => ?_)
    · have hf := fw_neg hc hf
      obtain rfl := Option.some.inj hf
      exact fw_retv X hH dX8_skip_22
    · have hf := fw_pos hc hf
      refine lv_aload_n hx hb dX8_skip_9 rfl (lv_at hl 0 rfl) ?_
      refine lv_dup hx hb dX8_skip_10 rfl ?_
      refine fw_get (id := 0) (k := 11) (v := .int (fw_g τ2 0 11)) X hH (by decide) rfl rfl inX8 (by decide) rfl tw_3_213 dX8_skip_11 ?_
      refine lv_iconst (v := (1 : Int32)) hx hb dX8_skip_14 (by decide) ?_
      refine lv_iadd hx hb dX8_skip_15 ?_
      refine fw_put (id := 0) (k := 11) (v := .int ((fw_g τ2 0 11) + (1 : Int32))) (ty := .int) (σ' := (fw_u τ2 0 11 ((fw_g τ2 0 11) + (1 : Int32)))) X hH (by decide) rfl fpm_11 (fun j h => fm_ne h) rfl inX8 tyX8 tyX8_ok nmX8 (by decide) (Nat.le_of_ble_eq_true rfl) rfl (by decide +kernel) rfl rfl tw_3_213 dX8_skip_16 (fun H locs hH => ?_)
      refine lv_goto (tgt := 0) hx hb dX8_skip_19 (by decide) ?_
      exact ih (fw_u τ2 0 11 ((fw_g τ2 0 11) + (1 : Int32))) hf _ _ _ hH (lv_sub hl [0] rfl)
def pX8_skip (σ : fw_T) : Option (fw_T) :=
  pX8_skip_0 400 σ
set_option maxRecDepth 100000 in
set_option maxHeartbeats 4000000 in
theorem kX8_skip {σ σ' : fw_T} (hf : pX8_skip σ = some σ') : fw_Cv l yX8_skip (Cond.code yX8_skip cX8_skip 1 none :: lwT) rmX8_skip [.ref (adr 0)] D 7 adr (fw_M cI cB adr) (fmT cI cB) [] σ σ' := by
  refine fw_start (Qc := (fun A => va_Qv (fun (_ : Unit) => True) (fun _ t => va_P D vwCl (fw_ws 7 adr (fw_M cI cB adr σ')) t.heap) A)) (by decide) (by simp [lg_sl, Value.category]) rfl ?_
  intro p e s m below meth c A X hH ls hl
  have hx := X.1.1
  have hb := X.1.2.1
  have hl : lv_has ls 1 [(0, .ref (adr 0))] := hl
  unfold pX8_skip at hf
  exact wX8_skip_0 X 400 σ hf _ _ _ hH (lv_sub hl [0] rfl)
abbrev rmX8_numbersOf : Room := { frames := 0, cells := 0, slots := 0, locals := 0 }
theorem qX8_numbersOf : fw_QS yX8_numbersOf cX8_numbersOf 1 (some .int) 1 := ⟨⟨tw_5_29, tw_1_10, tw_5_30⟩, by decide +kernel⟩
def pX8_numbersOf (x0 : Int32) (σ : fw_T) : Option (Int32 × fw_T) :=
  if x0 = (101 : Int32) then
    some ((0 : Int32), σ)
  else
    if x0 = (102 : Int32) then
      some ((4 : Int32), σ)
    else
      if x0 = (103 : Int32) then
        some ((-1 : Int32), σ)
      else
        if x0 = (104 : Int32) then
          some ((-1 : Int32), σ)
        else
          if x0 = (105 : Int32) then
            some ((-1 : Int32), σ)
          else
            if x0 = (106 : Int32) then
              some ((-1 : Int32), σ)
            else
              if x0 = (107 : Int32) then
                some ((-1 : Int32), σ)
              else
                if x0 = (108 : Int32) then
                  some ((2 : Int32), σ)
                else
                  if x0 = (109 : Int32) then
                    some ((-1 : Int32), σ)
                  else
                    if x0 = (110 : Int32) then
                      some ((-1 : Int32), σ)
                    else
                      if x0 = (111 : Int32) then
                        some ((-1 : Int32), σ)
                      else
                        if x0 = (112 : Int32) then
                          some ((-1 : Int32), σ)
                        else
                          if x0 = (113 : Int32) then
                            some ((-1 : Int32), σ)
                          else
                            if x0 = (114 : Int32) then
                              some ((2 : Int32), σ)
                            else
                              if x0 = (115 : Int32) then
                                some ((-1 : Int32), σ)
                              else
                                if x0 = (116 : Int32) then
                                  some ((-1 : Int32), σ)
                                else
                                  if x0 = (117 : Int32) then
                                    some ((-1 : Int32), σ)
                                  else
                                    if x0 = (118 : Int32) then
                                      some ((-1 : Int32), σ)
                                    else
                                      if x0 = (119 : Int32) then
                                        some ((2 : Int32), σ)
                                      else
                                        if x0 = (120 : Int32) then
                                          some ((1 : Int32), σ)
                                        else
                                          some ((-1 : Int32), σ)
set_option maxRecDepth 100000 in
set_option maxHeartbeats 4000000 in
theorem kX8_numbersOf {x0 : Int32} {r : Int32} {σ σ' : fw_T} (hf : pX8_numbersOf x0 σ = some (r, σ')) : fw_Ci l yX8_numbersOf (Cond.code yX8_numbersOf cX8_numbersOf 1 (some .int) :: lwT) rmX8_numbersOf [.int x0] D 7 adr (fw_M cI cB adr) (fmT cI cB) [] σ r σ' := by
  refine fw_start (Qc := (fun A => va_Qi (fun r' (_ : Unit) => r' = r) (fun _ t => va_P D vwCl (fw_ws 7 adr (fw_M cI cB adr σ')) t.heap) A)) (by decide) (by simp [lg_sl, Value.category]) rfl ?_
  intro p e s m below meth c A X hH ls hl
  have hx := X.1.1
  have hb := X.1.2.1
  have hl : lv_has ls 1 [(0, .int x0)] := hl
  unfold pX8_numbersOf at hf
  refine lv_iload_n hx hb dX8_numbersOf_0 rfl (lv_at hl 0 rfl) ?_
  by_cases hc0 : x0 = (101 : Int32)
  · have hf := fw_pos hc0 hf
    refine lv_tableIn (off := 101) (tgt := 102) hx hb dX8_numbersOf_1 (by rw [hc0]; decide) (by rw [hc0]; decide) (by rw [hc0]; decide) (by decide) ?_
    refine lv_iconst (v := (0 : Int32)) hx hb dX8_numbersOf_102 (by decide) ?_
    obtain ⟨rfl, rfl⟩ := fw_s2 hf
    exact fw_reti X hH dX8_numbersOf_103
  · have hf := fw_neg hc0 hf
    by_cases hc1 : x0 = (102 : Int32)
    · have hf := fw_pos hc1 hf
      refine lv_tableIn (off := 97) (tgt := 98) hx hb dX8_numbersOf_1 (by rw [hc1]; decide) (by rw [hc1]; decide) (by rw [hc1]; decide) (by decide) ?_
      refine lv_iconst (v := (4 : Int32)) hx hb dX8_numbersOf_98 (by decide) ?_
      obtain ⟨rfl, rfl⟩ := fw_s2 hf
      exact fw_reti X hH dX8_numbersOf_99
    · have hf := fw_neg hc1 hf
      by_cases hc2 : x0 = (103 : Int32)
      · have hf := fw_pos hc2 hf
        refine lv_tableIn (off := 103) (tgt := 104) hx hb dX8_numbersOf_1 (by rw [hc2]; decide) (by rw [hc2]; decide) (by rw [hc2]; decide) (by decide) ?_
        refine lv_iconst (v := (-1 : Int32)) hx hb dX8_numbersOf_104 (by decide) ?_
        obtain ⟨rfl, rfl⟩ := fw_s2 hf
        exact fw_reti X hH dX8_numbersOf_105
      · have hf := fw_neg hc2 hf
        by_cases hc3 : x0 = (104 : Int32)
        · have hf := fw_pos hc3 hf
          refine lv_tableIn (off := 103) (tgt := 104) hx hb dX8_numbersOf_1 (by rw [hc3]; decide) (by rw [hc3]; decide) (by rw [hc3]; decide) (by decide) ?_
          refine lv_iconst (v := (-1 : Int32)) hx hb dX8_numbersOf_104 (by decide) ?_
          obtain ⟨rfl, rfl⟩ := fw_s2 hf
          exact fw_reti X hH dX8_numbersOf_105
        · have hf := fw_neg hc3 hf
          by_cases hc4 : x0 = (105 : Int32)
          · have hf := fw_pos hc4 hf
            refine lv_tableIn (off := 103) (tgt := 104) hx hb dX8_numbersOf_1 (by rw [hc4]; decide) (by rw [hc4]; decide) (by rw [hc4]; decide) (by decide) ?_
            refine lv_iconst (v := (-1 : Int32)) hx hb dX8_numbersOf_104 (by decide) ?_
            obtain ⟨rfl, rfl⟩ := fw_s2 hf
            exact fw_reti X hH dX8_numbersOf_105
          · have hf := fw_neg hc4 hf
            by_cases hc5 : x0 = (106 : Int32)
            · have hf := fw_pos hc5 hf
              refine lv_tableIn (off := 103) (tgt := 104) hx hb dX8_numbersOf_1 (by rw [hc5]; decide) (by rw [hc5]; decide) (by rw [hc5]; decide) (by decide) ?_
              refine lv_iconst (v := (-1 : Int32)) hx hb dX8_numbersOf_104 (by decide) ?_
              obtain ⟨rfl, rfl⟩ := fw_s2 hf
              exact fw_reti X hH dX8_numbersOf_105
            · have hf := fw_neg hc5 hf
              by_cases hc6 : x0 = (107 : Int32)
              · have hf := fw_pos hc6 hf
                refine lv_tableIn (off := 103) (tgt := 104) hx hb dX8_numbersOf_1 (by rw [hc6]; decide) (by rw [hc6]; decide) (by rw [hc6]; decide) (by decide) ?_
                refine lv_iconst (v := (-1 : Int32)) hx hb dX8_numbersOf_104 (by decide) ?_
                obtain ⟨rfl, rfl⟩ := fw_s2 hf
                exact fw_reti X hH dX8_numbersOf_105
              · have hf := fw_neg hc6 hf
                by_cases hc7 : x0 = (108 : Int32)
                · have hf := fw_pos hc7 hf
                  refine lv_tableIn (off := 95) (tgt := 96) hx hb dX8_numbersOf_1 (by rw [hc7]; decide) (by rw [hc7]; decide) (by rw [hc7]; decide) (by decide) ?_
                  refine lv_iconst (v := (2 : Int32)) hx hb dX8_numbersOf_96 (by decide) ?_
                  obtain ⟨rfl, rfl⟩ := fw_s2 hf
                  exact fw_reti X hH dX8_numbersOf_97
                · have hf := fw_neg hc7 hf
                  by_cases hc8 : x0 = (109 : Int32)
                  · have hf := fw_pos hc8 hf
                    refine lv_tableIn (off := 103) (tgt := 104) hx hb dX8_numbersOf_1 (by rw [hc8]; decide) (by rw [hc8]; decide) (by rw [hc8]; decide) (by decide) ?_
                    refine lv_iconst (v := (-1 : Int32)) hx hb dX8_numbersOf_104 (by decide) ?_
                    obtain ⟨rfl, rfl⟩ := fw_s2 hf
                    exact fw_reti X hH dX8_numbersOf_105
                  · have hf := fw_neg hc8 hf
                    by_cases hc9 : x0 = (110 : Int32)
                    · have hf := fw_pos hc9 hf
                      refine lv_tableIn (off := 103) (tgt := 104) hx hb dX8_numbersOf_1 (by rw [hc9]; decide) (by rw [hc9]; decide) (by rw [hc9]; decide) (by decide) ?_
                      refine lv_iconst (v := (-1 : Int32)) hx hb dX8_numbersOf_104 (by decide) ?_
                      obtain ⟨rfl, rfl⟩ := fw_s2 hf
                      exact fw_reti X hH dX8_numbersOf_105
                    · have hf := fw_neg hc9 hf
                      by_cases hc10 : x0 = (111 : Int32)
                      · have hf := fw_pos hc10 hf
                        refine lv_tableIn (off := 103) (tgt := 104) hx hb dX8_numbersOf_1 (by rw [hc10]; decide) (by rw [hc10]; decide) (by rw [hc10]; decide) (by decide) ?_
                        refine lv_iconst (v := (-1 : Int32)) hx hb dX8_numbersOf_104 (by decide) ?_
                        obtain ⟨rfl, rfl⟩ := fw_s2 hf
                        exact fw_reti X hH dX8_numbersOf_105
                      · have hf := fw_neg hc10 hf
                        by_cases hc11 : x0 = (112 : Int32)
                        · have hf := fw_pos hc11 hf
                          refine lv_tableIn (off := 103) (tgt := 104) hx hb dX8_numbersOf_1 (by rw [hc11]; decide) (by rw [hc11]; decide) (by rw [hc11]; decide) (by decide) ?_
                          refine lv_iconst (v := (-1 : Int32)) hx hb dX8_numbersOf_104 (by decide) ?_
                          obtain ⟨rfl, rfl⟩ := fw_s2 hf
                          exact fw_reti X hH dX8_numbersOf_105
                        · have hf := fw_neg hc11 hf
                          by_cases hc12 : x0 = (113 : Int32)
                          · have hf := fw_pos hc12 hf
                            refine lv_tableIn (off := 103) (tgt := 104) hx hb dX8_numbersOf_1 (by rw [hc12]; decide) (by rw [hc12]; decide) (by rw [hc12]; decide) (by decide) ?_
                            refine lv_iconst (v := (-1 : Int32)) hx hb dX8_numbersOf_104 (by decide) ?_
                            obtain ⟨rfl, rfl⟩ := fw_s2 hf
                            exact fw_reti X hH dX8_numbersOf_105
                          · have hf := fw_neg hc12 hf
                            by_cases hc13 : x0 = (114 : Int32)
                            · have hf := fw_pos hc13 hf
                              refine lv_tableIn (off := 95) (tgt := 96) hx hb dX8_numbersOf_1 (by rw [hc13]; decide) (by rw [hc13]; decide) (by rw [hc13]; decide) (by decide) ?_
                              refine lv_iconst (v := (2 : Int32)) hx hb dX8_numbersOf_96 (by decide) ?_
                              obtain ⟨rfl, rfl⟩ := fw_s2 hf
                              exact fw_reti X hH dX8_numbersOf_97
                            · have hf := fw_neg hc13 hf
                              by_cases hc14 : x0 = (115 : Int32)
                              · have hf := fw_pos hc14 hf
                                refine lv_tableIn (off := 103) (tgt := 104) hx hb dX8_numbersOf_1 (by rw [hc14]; decide) (by rw [hc14]; decide) (by rw [hc14]; decide) (by decide) ?_
                                refine lv_iconst (v := (-1 : Int32)) hx hb dX8_numbersOf_104 (by decide) ?_
                                obtain ⟨rfl, rfl⟩ := fw_s2 hf
                                exact fw_reti X hH dX8_numbersOf_105
                              · have hf := fw_neg hc14 hf
                                by_cases hc15 : x0 = (116 : Int32)
                                · have hf := fw_pos hc15 hf
                                  refine lv_tableIn (off := 103) (tgt := 104) hx hb dX8_numbersOf_1 (by rw [hc15]; decide) (by rw [hc15]; decide) (by rw [hc15]; decide) (by decide) ?_
                                  refine lv_iconst (v := (-1 : Int32)) hx hb dX8_numbersOf_104 (by decide) ?_
                                  obtain ⟨rfl, rfl⟩ := fw_s2 hf
                                  exact fw_reti X hH dX8_numbersOf_105
                                · have hf := fw_neg hc15 hf
                                  by_cases hc16 : x0 = (117 : Int32)
                                  · have hf := fw_pos hc16 hf
                                    refine lv_tableIn (off := 103) (tgt := 104) hx hb dX8_numbersOf_1 (by rw [hc16]; decide) (by rw [hc16]; decide) (by rw [hc16]; decide) (by decide) ?_
                                    refine lv_iconst (v := (-1 : Int32)) hx hb dX8_numbersOf_104 (by decide) ?_
                                    obtain ⟨rfl, rfl⟩ := fw_s2 hf
                                    exact fw_reti X hH dX8_numbersOf_105
                                  · have hf := fw_neg hc16 hf
                                    by_cases hc17 : x0 = (118 : Int32)
                                    · have hf := fw_pos hc17 hf
                                      refine lv_tableIn (off := 103) (tgt := 104) hx hb dX8_numbersOf_1 (by rw [hc17]; decide) (by rw [hc17]; decide) (by rw [hc17]; decide) (by decide) ?_
                                      refine lv_iconst (v := (-1 : Int32)) hx hb dX8_numbersOf_104 (by decide) ?_
                                      obtain ⟨rfl, rfl⟩ := fw_s2 hf
                                      exact fw_reti X hH dX8_numbersOf_105
                                    · have hf := fw_neg hc17 hf
                                      by_cases hc18 : x0 = (119 : Int32)
                                      · have hf := fw_pos hc18 hf
                                        refine lv_tableIn (off := 95) (tgt := 96) hx hb dX8_numbersOf_1 (by rw [hc18]; decide) (by rw [hc18]; decide) (by rw [hc18]; decide) (by decide) ?_
                                        refine lv_iconst (v := (2 : Int32)) hx hb dX8_numbersOf_96 (by decide) ?_
                                        obtain ⟨rfl, rfl⟩ := fw_s2 hf
                                        exact fw_reti X hH dX8_numbersOf_97
                                      · have hf := fw_neg hc18 hf
                                        by_cases hc19 : x0 = (120 : Int32)
                                        · have hf := fw_pos hc19 hf
                                          refine lv_tableIn (off := 99) (tgt := 100) hx hb dX8_numbersOf_1 (by rw [hc19]; decide) (by rw [hc19]; decide) (by rw [hc19]; decide) (by decide) ?_
                                          refine lv_iconst (v := (1 : Int32)) hx hb dX8_numbersOf_100 (by decide) ?_
                                          obtain ⟨rfl, rfl⟩ := fw_s2 hf
                                          exact fw_reti X hH dX8_numbersOf_101
                                        · have hf := fw_neg hc19 hf
                                          refine lv_tableOut (tgt := 104) hx hb dX8_numbersOf_1 (by have e0 := lv_neT hc0 (a := 101) (by decide); have e1 := lv_neT hc1 (a := 102) (by decide); have e2 := lv_neT hc2 (a := 103) (by decide); have e3 := lv_neT hc3 (a := 104) (by decide); have e4 := lv_neT hc4 (a := 105) (by decide); have e5 := lv_neT hc5 (a := 106) (by decide); have e6 := lv_neT hc6 (a := 107) (by decide); have e7 := lv_neT hc7 (a := 108) (by decide); have e8 := lv_neT hc8 (a := 109) (by decide); have e9 := lv_neT hc9 (a := 110) (by decide); have e10 := lv_neT hc10 (a := 111) (by decide); have e11 := lv_neT hc11 (a := 112) (by decide); have e12 := lv_neT hc12 (a := 113) (by decide); have e13 := lv_neT hc13 (a := 114) (by decide); have e14 := lv_neT hc14 (a := 115) (by decide); have e15 := lv_neT hc15 (a := 116) (by decide); have e16 := lv_neT hc16 (a := 117) (by decide); have e17 := lv_neT hc17 (a := 118) (by decide); have e18 := lv_neT hc18 (a := 119) (by decide); have e19 := lv_neT hc19 (a := 120) (by decide); omega) (by decide) ?_
                                          refine lv_iconst (v := (-1 : Int32)) hx hb dX8_numbersOf_104 (by decide) ?_
                                          obtain ⟨rfl, rfl⟩ := fw_s2 hf
                                          exact fw_reti X hH dX8_numbersOf_105
abbrev rmX8_readNumber : Room := { frames := 2, cells := 0, slots := 0, locals := 40 }
theorem qX8_readNumber : fw_QV RX8 yX8_readNumber cX8_readNumber 5 (some .int) 1 := ⟨⟨tw_5_33, tv_X8_readNumber, tw_1_10, tw_5_34⟩, by decide +kernel⟩
def pX8_readNumber_115 (x2 : Int32) (x3 : Int32) (σ : fw_T) : Option (Int32 × fw_T) :=
  (fw_z (1 : Int32)).bind fun _ =>
  if x2 = 0 then
    some (x3, (fw_u σ 0 12 (1 : Int32)))
  else
    some ((-x3), (fw_u σ 0 12 (1 : Int32)))
set_option maxRecDepth 100000 in
set_option maxHeartbeats 4000000 in
theorem wX8_readNumber_115 {args : Array Value} {r : Int32} {σ' : fw_T} (X : fmX p m c cX8_readNumber 5 s args RX8 meth (some .int) D cI cB)  : ∀ (x2 : Int32), ∀ (x3 : Int32), ∀ (σ : fw_T), pX8_readNumber_115 x2 x3 σ = some (r, σ') → ∀ (H : Heap) (locs : List Loc) (ls : Array Slot), fmH D cI cB adr A s H locs σ → lv_has ls 5 [(2, .int x2), (3, .int x3)] → W p l e rmX8_readNumber s m args below meth c H locs 0 0 (fw_Qi D 7 adr (fw_M cI cB adr) A below args s r σ') (F0 m 115 ls [.ref (adr 0)]) := by
  have hx := X.1.1
  have hb := X.1.2.1
  intro x2 x3 σ hf H locs ls hH hl
  unfold pX8_readNumber_115 at hf
  refine lv_iconst (v := (1 : Int32)) hx hb dX8_readNumber_115 (by decide) ?_
  refine lv_goto (tgt := 120) hx hb dX8_readNumber_116 (by decide) ?_
  obtain ⟨z10, g9, hf⟩ := fw_bd hf
  have g9z := (fw_zs g9).2
  refine fw_put (id := 0) (k := 12) (v := .int (1 : Int32)) (ty := .boolean) (σ' := (fw_u σ 0 12 (1 : Int32))) X hH (by decide) rfl fpm_12 (fun j h => fm_ne h) rfl inX8 tyX8 tyX8_ok nmX8 (by decide) (Nat.le_of_ble_eq_true rfl) rfl (by decide +kernel) (fw_nz g9z) (fw_fz g9z) tw_3_214 dX8_readNumber_120 (fun H locs hH => ?_)
  refine lv_iload_n hx hb dX8_readNumber_123 rfl (lv_at hl 0 rfl) ?_
  refine lv_if_eq (tgt := 132) hx hb dX8_readNumber_124 (by decide) (fun hc => ?_) (fun hc => ?_)
  · have hf := fw_pos hc hf
    refine lv_iload_n hx hb dX8_readNumber_132 rfl (lv_at hl 1 rfl) ?_
    obtain ⟨rfl, rfl⟩ := fw_s2 hf
    exact fw_reti X hH dX8_readNumber_133
  · have hf := fw_neg hc hf
    refine lv_iload_n hx hb dX8_readNumber_127 rfl (lv_at hl 1 rfl) ?_
    refine lv_ineg hx hb dX8_readNumber_128 ?_
    refine lv_goto (tgt := 133) hx hb dX8_readNumber_129 (by decide) ?_
    obtain ⟨rfl, rfl⟩ := fw_s2 hf
    exact fw_reti X hH dX8_readNumber_133
def pX8_readNumber_95 (x2 : Int32) (x3 : Int32) (x4 : Int32) (σ : fw_T) : Option (Int32 × fw_T) :=
  if x4 = 0 then
    pX8_readNumber_115 x2 x3 σ
  else
    fw_b2 (pX8_here σ) fun w13 τ12 =>
    fw_b2 (pX8_in w13 (48 : Int32) (57 : Int32) τ12) fun w16 τ15 =>
    if w16 = 0 then
      (fw_z (0 : Int32)).bind fun _ =>
      if x2 = 0 then
        some (x3, (fw_u τ15 0 12 (0 : Int32)))
      else
        some ((-x3), (fw_u τ15 0 12 (0 : Int32)))
    else
      pX8_readNumber_115 x2 x3 τ15
set_option maxRecDepth 100000 in
set_option maxHeartbeats 4000000 in
theorem wX8_readNumber_95 {args : Array Value} {r : Int32} {σ' : fw_T} (X : fmX p m c cX8_readNumber 5 s args RX8 meth (some .int) D cI cB)  : ∀ (x2 : Int32), ∀ (x3 : Int32), ∀ (x4 : Int32), ∀ (σ : fw_T), pX8_readNumber_95 x2 x3 x4 σ = some (r, σ') → ∀ (H : Heap) (locs : List Loc) (ls : Array Slot), fmH D cI cB adr A s H locs σ → lv_has ls 5 [(0, .ref (adr 0)), (2, .int x2), (3, .int x3), (4, .int x4)] → W p l e rmX8_readNumber s m args below meth c H locs 0 0 (fw_Qi D 7 adr (fw_M cI cB adr) A below args s r σ') (F0 m 95 ls []) := by
  have hx := X.1.1
  have hb := X.1.2.1
  intro x2 x3 x4 σ hf H locs ls hH hl
  unfold pX8_readNumber_95 at hf
  refine lv_aload_n hx hb dX8_readNumber_95 rfl (lv_at hl 0 rfl) ?_
  refine lv_iload hx hb dX8_readNumber_96 (lv_at hl 3 rfl) ?_
  refine lv_if_eq (tgt := 115) hx hb dX8_readNumber_98 (by decide) (fun hc => ?_) (fun hc => ?_)
  · have hf := fw_pos hc hf
    exact wX8_readNumber_115 X x2 x3 σ hf _ _ _ hH (lv_sub hl [1, 2] rfl)
  · have hf := fw_neg hc hf
    refine lv_aload_n hx hb dX8_readNumber_101 rfl (lv_at hl 0 rfl) ?_
    obtain ⟨w13, τ12, g11, hf⟩ := fw_b2s hf
    refine fw_ci hH (fw_rV (As := []) (rest := [.ref (adr 0)]) (id := 0) X hH (kX8_here  g11 _) qX8_here tw_5_24 ⟨Nat.le_of_ble_eq_true rfl, Nat.le_of_ble_eq_true rfl⟩ rfl rfl (by decide) rfl rfl rfl hl.1 rfl (Nat.le_of_ble_eq_true rfl) dX8_readNumber_102) (fun H locs hH => ?_)
    refine lv_bipush (v := (48 : Int32)) hx hb dX8_readNumber_105 (by decide) ?_
    refine lv_bipush (v := (57 : Int32)) hx hb dX8_readNumber_107 (by decide) ?_
    obtain ⟨w16, τ15, g14, hf⟩ := fw_b2s hf
    refine fw_ci hH (fw_rS (As := [.int w13, .int (48 : Int32), .int (57 : Int32)]) (rest := [.ref (adr 0)]) X hH (kX8_in  g14 _) qX8_in tw_4_17 ⟨Nat.le_of_ble_eq_true rfl, Nat.le_of_ble_eq_true rfl⟩ rfl rfl rfl hl.1 rfl (Nat.le_of_ble_eq_true rfl) dX8_readNumber_109) (fun H locs hH => ?_)
    refine lv_if_eq (tgt := 119) hx hb dX8_readNumber_112 (by decide) (fun hc => ?_) (fun hc => ?_)
    · have hf := fw_pos hc hf
      refine lv_iconst (v := (0 : Int32)) hx hb dX8_readNumber_119 (by decide) ?_
      obtain ⟨z18, g17, hf⟩ := fw_bd hf
      have g17z := (fw_zs g17).2
      refine fw_put (id := 0) (k := 12) (v := .int (0 : Int32)) (ty := .boolean) (σ' := (fw_u τ15 0 12 (0 : Int32))) X hH (by decide) rfl fpm_12 (fun j h => fm_ne h) rfl inX8 tyX8 tyX8_ok nmX8 (by decide) (Nat.le_of_ble_eq_true rfl) rfl (by decide +kernel) (fw_nz g17z) (fw_fz g17z) tw_3_214 dX8_readNumber_120 (fun H locs hH => ?_)
      refine lv_iload_n hx hb dX8_readNumber_123 rfl (lv_at hl 1 rfl) ?_
      refine lv_if_eq (tgt := 132) hx hb dX8_readNumber_124 (by decide) (fun hc => ?_) (fun hc => ?_)
      · have hf := fw_pos hc hf
        refine lv_iload_n hx hb dX8_readNumber_132 rfl (lv_at hl 2 rfl) ?_
        obtain ⟨rfl, rfl⟩ := fw_s2 hf
        exact fw_reti X hH dX8_readNumber_133
      · have hf := fw_neg hc hf
        refine lv_iload_n hx hb dX8_readNumber_127 rfl (lv_at hl 2 rfl) ?_
        refine lv_ineg hx hb dX8_readNumber_128 ?_
        refine lv_goto (tgt := 133) hx hb dX8_readNumber_129 (by decide) ?_
        obtain ⟨rfl, rfl⟩ := fw_s2 hf
        exact fw_reti X hH dX8_readNumber_133
    · have hf := fw_neg hc hf
      exact wX8_readNumber_115 X x2 x3 τ15 hf _ _ _ hH (lv_sub hl [1, 2] rfl)
def pX8_readNumber_46 : Nat → Int32 → Int32 → Int32 → fw_T → Option (Int32 × fw_T)
  | 0, _, _, _, _ => none
  | n + 1, x2, x3, x4, σ =>
    fw_b2 (pX8_here σ) fun w5 τ4 =>
    fw_b2 (pX8_in w5 (48 : Int32) (57 : Int32) τ4) fun w8 τ7 =>
    if w8 = 0 then
      pX8_readNumber_95 x2 x3 x4 τ7
    else
      if (2 : Int32) ≤ x4 then
        pX8_readNumber_95 x2 x3 x4 τ7
      else
        fw_b2 (pX8_here τ7) fun w21 τ20 =>
        pX8_readNumber_46 n x2 ((((10 : Int32) * x3) + w21) - (48 : Int32)) (x4 + (1 : Int32)) (fw_u τ20 0 11 ((fw_g τ20 0 11) + (1 : Int32)))
set_option maxRecDepth 100000 in
set_option maxHeartbeats 4000000 in
theorem wX8_readNumber_46 {args : Array Value} {r : Int32} {σ' : fw_T} (X : fmX p m c cX8_readNumber 5 s args RX8 meth (some .int) D cI cB)  : ∀ (n : Nat), ∀ (x2 : Int32), ∀ (x3 : Int32), ∀ (x4 : Int32), ∀ (σ : fw_T), pX8_readNumber_46 n x2 x3 x4 σ = some (r, σ') → ∀ (H : Heap) (locs : List Loc) (ls : Array Slot), fmH D cI cB adr A s H locs σ → lv_has ls 5 [(0, .ref (adr 0)), (2, .int x2), (3, .int x3), (4, .int x4)] → W p l e rmX8_readNumber s m args below meth c H locs 0 0 (fw_Qi D 7 adr (fw_M cI cB adr) A below args s r σ') (F0 m 46 ls []) := by
  have hx := X.1.1
  have hb := X.1.2.1
  intro n
  induction n with
  | zero =>
    intro x2 x3 x4 σ hf
    exact absurd hf (by simp [pX8_readNumber_46])
  | succ n ih =>
    intro x2 x3 x4 σ hf H locs ls hH hl
    rw [pX8_readNumber_46] at hf
    refine lv_aload_n hx hb dX8_readNumber_46 rfl (lv_at hl 0 rfl) ?_
    obtain ⟨w5, τ4, g3, hf⟩ := fw_b2s hf
    refine fw_ci hH (fw_rV (As := []) (rest := []) (id := 0) X hH (kX8_here  g3 _) qX8_here tw_5_24 ⟨Nat.le_of_ble_eq_true rfl, Nat.le_of_ble_eq_true rfl⟩ rfl rfl (by decide) rfl rfl rfl hl.1 rfl (Nat.le_of_ble_eq_true rfl) dX8_readNumber_47) (fun H locs hH => ?_)
    refine lv_bipush (v := (48 : Int32)) hx hb dX8_readNumber_50 (by decide) ?_
    refine lv_bipush (v := (57 : Int32)) hx hb dX8_readNumber_52 (by decide) ?_
    obtain ⟨w8, τ7, g6, hf⟩ := fw_b2s hf
    refine fw_ci hH (fw_rS (As := [.int w5, .int (48 : Int32), .int (57 : Int32)]) (rest := []) X hH (kX8_in  g6 _) qX8_in tw_4_17 ⟨Nat.le_of_ble_eq_true rfl, Nat.le_of_ble_eq_true rfl⟩ rfl rfl rfl hl.1 rfl (Nat.le_of_ble_eq_true rfl) dX8_readNumber_54) (fun H locs hH => ?_)
    refine lv_if_eq (tgt := 95) hx hb dX8_readNumber_57 (by decide) (fun hc => ?_) (fun hc => ?_)
    · have hf := fw_pos hc hf
      exact wX8_readNumber_95 X x2 x3 x4 τ7 hf _ _ _ hH (lv_sub hl [0, 1, 2, 3] rfl)
    · have hf := fw_neg hc hf
      refine lv_iload hx hb dX8_readNumber_60 (lv_at hl 3 rfl) ?_
      refine lv_iconst (v := (2 : Int32)) hx hb dX8_readNumber_62 (by decide) ?_
      refine lv_icmp_ge (tgt := 95) hx hb dX8_readNumber_63 (by decide) (fun hc => ?_) (fun hc => ?_)
      · have hf := fw_pos hc hf
        exact wX8_readNumber_95 X x2 x3 x4 τ7 hf _ _ _ hH (lv_sub hl [0, 1, 2, 3] rfl)
      · have hf := fw_neg hc hf
        refine lv_bipush (v := (10 : Int32)) hx hb dX8_readNumber_66 (by decide) ?_
        refine lv_iload_n hx hb dX8_readNumber_68 rfl (lv_at hl 2 rfl) ?_
        refine lv_imul hx hb dX8_readNumber_69 ?_
        refine lv_aload_n hx hb dX8_readNumber_70 rfl (lv_at hl 0 rfl) ?_
        obtain ⟨w21, τ20, g19, hf⟩ := fw_b2s hf
        refine fw_ci hH (fw_rV (As := []) (rest := [.int ((10 : Int32) * x3)]) (id := 0) X hH (kX8_here  g19 _) qX8_here tw_5_24 ⟨Nat.le_of_ble_eq_true rfl, Nat.le_of_ble_eq_true rfl⟩ rfl rfl (by decide) rfl rfl rfl hl.1 rfl (Nat.le_of_ble_eq_true rfl) dX8_readNumber_71) (fun H locs hH => ?_)
        refine lv_iadd hx hb dX8_readNumber_74 ?_
        refine lv_bipush (v := (48 : Int32)) hx hb dX8_readNumber_75 (by decide) ?_
        refine lv_isub hx hb dX8_readNumber_77 ?_
        refine lv_istore_n (lv' := [(3, .int ((((10 : Int32) * x3) + w21) - (48 : Int32))), (0, .ref (adr 0)), (2, .int x2), (4, .int x4)]) hx hb dX8_readNumber_78 rfl hl (by decide) rfl (fun ls hl => ?_)
        refine lv_aload_n hx hb dX8_readNumber_79 rfl (lv_at hl 1 rfl) ?_
        refine lv_dup hx hb dX8_readNumber_80 rfl ?_
        refine fw_get (id := 0) (k := 11) (v := .int (fw_g τ20 0 11)) X hH (by decide) rfl rfl inX8 (by decide) rfl tw_3_213 dX8_readNumber_81 ?_
        refine lv_iconst (v := (1 : Int32)) hx hb dX8_readNumber_84 (by decide) ?_
        refine lv_iadd hx hb dX8_readNumber_85 ?_
        refine fw_put (id := 0) (k := 11) (v := .int ((fw_g τ20 0 11) + (1 : Int32))) (ty := .int) (σ' := (fw_u τ20 0 11 ((fw_g τ20 0 11) + (1 : Int32)))) X hH (by decide) rfl fpm_11 (fun j h => fm_ne h) rfl inX8 tyX8 tyX8_ok nmX8 (by decide) (Nat.le_of_ble_eq_true rfl) rfl (by decide +kernel) rfl rfl tw_3_213 dX8_readNumber_86 (fun H locs hH => ?_)
        refine lv_iinc (v := (x4 + (1 : Int32))) (lv' := [(4, .int (x4 + (1 : Int32))), (3, .int ((((10 : Int32) * x3) + w21) - (48 : Int32))), (0, .ref (adr 0)), (2, .int x2)]) hx hb dX8_readNumber_89 hl (k := 3) rfl rfl (by decide) rfl (fun ls hl => ?_)
        refine lv_goto (tgt := 46) hx hb dX8_readNumber_92 (by decide) ?_
        exact ih x2 ((((10 : Int32) * x3) + w21) - (48 : Int32)) (x4 + (1 : Int32)) (fw_u τ20 0 11 ((fw_g τ20 0 11) + (1 : Int32))) hf _ _ _ hH (lv_sub hl [2, 3, 1, 0] rfl)
def pX8_readNumber_22 (y0 : Int32) (σ : fw_T) : Option (Int32 × fw_T) :=
  if y0 = 0 then
    pX8_readNumber_46 400 y0 (0 : Int32) (0 : Int32) (fw_u σ 0 11 ((fw_g σ 0 11) + (0 : Int32)))
  else
    pX8_readNumber_46 400 y0 (0 : Int32) (0 : Int32) (fw_u σ 0 11 ((fw_g σ 0 11) + (1 : Int32)))
set_option maxRecDepth 100000 in
set_option maxHeartbeats 4000000 in
theorem wX8_readNumber_22 {args : Array Value} {r : Int32} {σ' : fw_T} (X : fmX p m c cX8_readNumber 5 s args RX8 meth (some .int) D cI cB)  : ∀ (y0 : Int32), ∀ (σ : fw_T), pX8_readNumber_22 y0 σ = some (r, σ') → ∀ (H : Heap) (locs : List Loc) (ls : Array Slot), fmH D cI cB adr A s H locs σ → lv_has ls 5 [(0, .ref (adr 0))] → W p l e rmX8_readNumber s m args below meth c H locs 0 0 (fw_Qi D 7 adr (fw_M cI cB adr) A below args s r σ') (F0 m 22 ls [.int y0]) := by
  have hx := X.1.1
  have hb := X.1.2.1
  intro y0 σ hf H locs ls hH hl
  unfold pX8_readNumber_22 at hf
  refine lv_istore_n (lv' := [(2, .int y0), (0, .ref (adr 0))]) hx hb dX8_readNumber_22 rfl hl (by decide) rfl (fun ls hl => ?_)
  refine lv_aload_n hx hb dX8_readNumber_23 rfl (lv_at hl 1 rfl) ?_
  refine lv_dup hx hb dX8_readNumber_24 rfl ?_
  refine fw_get (id := 0) (k := 11) (v := .int (fw_g σ 0 11)) X hH (by decide) rfl rfl inX8 (by decide) rfl tw_3_213 dX8_readNumber_25 ?_
  refine lv_iload_n hx hb dX8_readNumber_28 rfl (lv_at hl 0 rfl) ?_
  refine lv_if_eq (tgt := 36) hx hb dX8_readNumber_29 (by decide) (fun hc => ?_) (fun hc => ?_)
  · have hf := fw_pos hc hf
    refine lv_iconst (v := (0 : Int32)) hx hb dX8_readNumber_36 (by decide) ?_
    refine lv_iadd hx hb dX8_readNumber_37 ?_
    refine fw_put (id := 0) (k := 11) (v := .int ((fw_g σ 0 11) + (0 : Int32))) (ty := .int) (σ' := (fw_u σ 0 11 ((fw_g σ 0 11) + (0 : Int32)))) X hH (by decide) rfl fpm_11 (fun j h => fm_ne h) rfl inX8 tyX8 tyX8_ok nmX8 (by decide) (Nat.le_of_ble_eq_true rfl) rfl (by decide +kernel) rfl rfl tw_3_213 dX8_readNumber_38 (fun H locs hH => ?_)
    refine lv_iconst (v := (0 : Int32)) hx hb dX8_readNumber_41 (by decide) ?_
    refine lv_istore_n (lv' := [(3, .int (0 : Int32)), (2, .int y0), (0, .ref (adr 0))]) hx hb dX8_readNumber_42 rfl hl (by decide) rfl (fun ls hl => ?_)
    refine lv_iconst (v := (0 : Int32)) hx hb dX8_readNumber_43 (by decide) ?_
    refine lv_istore (lv' := [(4, .int (0 : Int32)), (3, .int (0 : Int32)), (2, .int y0), (0, .ref (adr 0))]) hx hb dX8_readNumber_44 hl (by decide) rfl (fun ls hl => ?_)
    exact wX8_readNumber_46 X 400 y0 (0 : Int32) (0 : Int32) (fw_u σ 0 11 ((fw_g σ 0 11) + (0 : Int32))) hf _ _ _ hH (lv_sub hl [3, 2, 1, 0] rfl)
  · have hf := fw_neg hc hf
    refine lv_iconst (v := (1 : Int32)) hx hb dX8_readNumber_32 (by decide) ?_
    refine lv_goto (tgt := 37) hx hb dX8_readNumber_33 (by decide) ?_
    refine lv_iadd hx hb dX8_readNumber_37 ?_
    refine fw_put (id := 0) (k := 11) (v := .int ((fw_g σ 0 11) + (1 : Int32))) (ty := .int) (σ' := (fw_u σ 0 11 ((fw_g σ 0 11) + (1 : Int32)))) X hH (by decide) rfl fpm_11 (fun j h => fm_ne h) rfl inX8 tyX8 tyX8_ok nmX8 (by decide) (Nat.le_of_ble_eq_true rfl) rfl (by decide +kernel) rfl rfl tw_3_213 dX8_readNumber_38 (fun H locs hH => ?_)
    refine lv_iconst (v := (0 : Int32)) hx hb dX8_readNumber_41 (by decide) ?_
    refine lv_istore_n (lv' := [(3, .int (0 : Int32)), (2, .int y0), (0, .ref (adr 0))]) hx hb dX8_readNumber_42 rfl hl (by decide) rfl (fun ls hl => ?_)
    refine lv_iconst (v := (0 : Int32)) hx hb dX8_readNumber_43 (by decide) ?_
    refine lv_istore (lv' := [(4, .int (0 : Int32)), (3, .int (0 : Int32)), (2, .int y0), (0, .ref (adr 0))]) hx hb dX8_readNumber_44 hl (by decide) rfl (fun ls hl => ?_)
    exact wX8_readNumber_46 X 400 y0 (0 : Int32) (0 : Int32) (fw_u σ 0 11 ((fw_g σ 0 11) + (1 : Int32))) hf _ _ _ hH (lv_sub hl [3, 2, 1, 0] rfl)
def pX8_readNumber (x1 : Int32) (σ : fw_T) : Option (Int32 × fw_T) :=
  (pX8_skip σ).bind fun τ2 =>
  if x1 = 0 then
    pX8_readNumber_22 (0 : Int32) τ2
  else
    fw_b2 (pX8_here τ2) fun w24 τ23 =>
    if w24 = (45 : Int32) then
      pX8_readNumber_22 (1 : Int32) τ23
    else
      pX8_readNumber_22 (0 : Int32) τ23
set_option maxRecDepth 100000 in
set_option maxHeartbeats 4000000 in
theorem kX8_readNumber {x1 : Int32} {r : Int32} {σ σ' : fw_T} (hf : pX8_readNumber x1 σ = some (r, σ')) : fw_Ci l yX8_readNumber (Cond.code yX8_readNumber cX8_readNumber 5 (some .int) :: lwT) rmX8_readNumber [.ref (adr 0), .int x1] D 7 adr (fw_M cI cB adr) (fmT cI cB) [] σ r σ' := by
  refine fw_start (Qc := (fun A => va_Qi (fun r' (_ : Unit) => r' = r) (fun _ t => va_P D vwCl (fw_ws 7 adr (fw_M cI cB adr σ')) t.heap) A)) (by decide) (by simp [lg_sl, Value.category]) rfl ?_
  intro p e s m below meth c A X hH ls hl
  have hx := X.1.1
  have hb := X.1.2.1
  have hl : lv_has ls 5 [(0, .ref (adr 0)), (1, .int x1)] := hl
  unfold pX8_readNumber at hf
  refine lv_aload_n hx hb dX8_readNumber_0 rfl (lv_at hl 0 rfl) ?_
  obtain ⟨τ2, g1, hf⟩ := fw_bd hf
  refine fw_cv hH (fw_rV (As := []) (rest := []) (id := 0) X hH (kX8_skip  g1 _) qX8_skip tw_5_20 ⟨Nat.le_of_ble_eq_true rfl, Nat.le_of_ble_eq_true rfl⟩ rfl rfl (by decide) rfl rfl rfl hl.1 rfl (Nat.le_of_ble_eq_true rfl) dX8_readNumber_1) (fun H locs hH => ?_)
  refine lv_iload_n hx hb dX8_readNumber_4 rfl (lv_at hl 1 rfl) ?_
  refine lv_if_eq (tgt := 21) hx hb dX8_readNumber_5 (by decide) (fun hc => ?_) (fun hc => ?_)
  · have hf := fw_pos hc hf
    refine lv_iconst (v := (0 : Int32)) hx hb dX8_readNumber_21 (by decide) ?_
    exact wX8_readNumber_22 X (0 : Int32) τ2 hf _ _ _ hH (lv_sub hl [0] rfl)
  · have hf := fw_neg hc hf
    refine lv_aload_n hx hb dX8_readNumber_8 rfl (lv_at hl 0 rfl) ?_
    obtain ⟨w24, τ23, g22, hf⟩ := fw_b2s hf
    refine fw_ci hH (fw_rV (As := []) (rest := []) (id := 0) X hH (kX8_here  g22 _) qX8_here tw_5_24 ⟨Nat.le_of_ble_eq_true rfl, Nat.le_of_ble_eq_true rfl⟩ rfl rfl (by decide) rfl rfl rfl hl.1 rfl (Nat.le_of_ble_eq_true rfl) dX8_readNumber_9) (fun H locs hH => ?_)
    refine lv_bipush (v := (45 : Int32)) hx hb dX8_readNumber_12 (by decide) ?_
    refine lv_icmp_ne (tgt := 21) hx hb dX8_readNumber_14 (by decide) (fun hc => ?_) (fun hc => ?_)
    · have hf := fw_neg hc hf
      refine lv_iconst (v := (0 : Int32)) hx hb dX8_readNumber_21 (by decide) ?_
      exact wX8_readNumber_22 X (0 : Int32) τ23 hf _ _ _ hH (lv_sub hl [0] rfl)
    · have hf := fw_pos hc hf
      refine lv_iconst (v := (1 : Int32)) hx hb dX8_readNumber_17 (by decide) ?_
      refine lv_goto (tgt := 22) hx hb dX8_readNumber_18 (by decide) ?_
      exact wX8_readNumber_22 X (1 : Int32) τ23 hf _ _ _ hH (lv_sub hl [0] rfl)
abbrev rmX8_readCommand : Room := { frames := 3, cells := 0, slots := 0, locals := 64 }
theorem qX8_readCommand : fw_QV RX8 yX8_readCommand cX8_readCommand 5 none 0 := ⟨⟨tw_5_18, tv_X8_readCommand, tw_1_10, tw_5_19⟩, by decide +kernel⟩
def pX8_readCommand_140 (y1 : Int32) (σ : fw_T) : Option (fw_T) :=
  (fw_z y1).bind fun _ =>
  if (fw_g (fw_u σ 0 12 y1) 0 12) = 0 then
    some (fw_u (fw_u (fw_u σ 0 12 y1) 0 11 ((fw_g (fw_u σ 0 12 y1) 0 11) + (1 : Int32))) 0 10 ((fw_g (fw_u (fw_u σ 0 12 y1) 0 11 ((fw_g (fw_u σ 0 12 y1) 0 11) + (1 : Int32))) 0 10) + (1 : Int32)))
  else
    some (fw_u (fw_u (fw_u σ 0 12 y1) 0 11 ((fw_g (fw_u σ 0 12 y1) 0 11) + (0 : Int32))) 0 10 ((fw_g (fw_u (fw_u σ 0 12 y1) 0 11 ((fw_g (fw_u σ 0 12 y1) 0 11) + (0 : Int32))) 0 10) + (1 : Int32)))
set_option maxRecDepth 100000 in
set_option maxHeartbeats 4000000 in
theorem wX8_readCommand_140 {args : Array Value} {σ' : fw_T} (X : fmX p m c cX8_readCommand 5 s args RX8 meth none D cI cB)  : ∀ (y1 : Int32), ∀ (σ : fw_T), pX8_readCommand_140 y1 σ = some σ' → ∀ (H : Heap) (locs : List Loc) (ls : Array Slot), fmH D cI cB adr A s H locs σ → lv_has ls 5 [(0, .ref (adr 0))] → W p l e rmX8_readCommand s m args below meth c H locs 0 0 (fw_Qv D 7 adr (fw_M cI cB adr) A below args s σ') (F0 m 140 ls [.int y1, .ref (adr 0)]) := by
  have hx := X.1.1
  have hb := X.1.2.1
  intro y1 σ hf H locs ls hH hl
  unfold pX8_readCommand_140 at hf
  obtain ⟨z19, g18, hf⟩ := fw_bd hf
  have g18z := (fw_zs g18).2
  refine fw_put (id := 0) (k := 12) (v := .int y1) (ty := .boolean) (σ' := (fw_u σ 0 12 y1)) X hH (by decide) rfl fpm_12 (fun j h => fm_ne h) rfl inX8 tyX8 tyX8_ok nmX8 (by decide) (Nat.le_of_ble_eq_true rfl) rfl (by decide +kernel) (fw_nz g18z) (fw_fz g18z) tw_3_214 dX8_readCommand_140 (fun H locs hH => ?_)
  refine lv_aload_n hx hb dX8_readCommand_143 rfl (lv_at hl 0 rfl) ?_
  refine lv_dup hx hb dX8_readCommand_144 rfl ?_
  refine fw_get (id := 0) (k := 11) (v := .int (fw_g (fw_u σ 0 12 y1) 0 11)) X hH (by decide) rfl rfl inX8 (by decide) rfl tw_3_213 dX8_readCommand_145 ?_
  refine lv_aload_n hx hb dX8_readCommand_148 rfl (lv_at hl 0 rfl) ?_
  refine fw_get (id := 0) (k := 12) (v := .int (fw_g (fw_u σ 0 12 y1) 0 12)) X hH (by decide) rfl rfl inX8 (by decide) rfl tw_3_214 dX8_readCommand_149 ?_
  refine lv_if_eq (tgt := 159) hx hb dX8_readCommand_152 (by decide) (fun hc => ?_) (fun hc => ?_)
  · have hf := fw_pos hc hf
    refine lv_iconst (v := (1 : Int32)) hx hb dX8_readCommand_159 (by decide) ?_
    refine lv_iadd hx hb dX8_readCommand_160 ?_
    refine fw_put (id := 0) (k := 11) (v := .int ((fw_g (fw_u σ 0 12 y1) 0 11) + (1 : Int32))) (ty := .int) (σ' := (fw_u (fw_u σ 0 12 y1) 0 11 ((fw_g (fw_u σ 0 12 y1) 0 11) + (1 : Int32)))) X hH (by decide) rfl fpm_11 (fun j h => fm_ne h) rfl inX8 tyX8 tyX8_ok nmX8 (by decide) (Nat.le_of_ble_eq_true rfl) rfl (by decide +kernel) rfl rfl tw_3_213 dX8_readCommand_161 (fun H locs hH => ?_)
    refine lv_aload_n hx hb dX8_readCommand_164 rfl (lv_at hl 0 rfl) ?_
    refine lv_dup hx hb dX8_readCommand_165 rfl ?_
    refine fw_get (id := 0) (k := 10) (v := .int (fw_g (fw_u (fw_u σ 0 12 y1) 0 11 ((fw_g (fw_u σ 0 12 y1) 0 11) + (1 : Int32))) 0 10)) X hH (by decide) rfl rfl inX8 (by decide) rfl tw_3_212 dX8_readCommand_166 ?_
    refine lv_iconst (v := (1 : Int32)) hx hb dX8_readCommand_169 (by decide) ?_
    refine lv_iadd hx hb dX8_readCommand_170 ?_
    refine fw_put (id := 0) (k := 10) (v := .int ((fw_g (fw_u (fw_u σ 0 12 y1) 0 11 ((fw_g (fw_u σ 0 12 y1) 0 11) + (1 : Int32))) 0 10) + (1 : Int32))) (ty := .int) (σ' := (fw_u (fw_u (fw_u σ 0 12 y1) 0 11 ((fw_g (fw_u σ 0 12 y1) 0 11) + (1 : Int32))) 0 10 ((fw_g (fw_u (fw_u σ 0 12 y1) 0 11 ((fw_g (fw_u σ 0 12 y1) 0 11) + (1 : Int32))) 0 10) + (1 : Int32)))) X hH (by decide) rfl fpm_10 (fun j h => fm_ne h) rfl inX8 tyX8 tyX8_ok nmX8 (by decide) (Nat.le_of_ble_eq_true rfl) rfl (by decide +kernel) rfl rfl tw_3_212 dX8_readCommand_171 (fun H locs hH => ?_)
    obtain rfl := Option.some.inj hf
    exact fw_retv X hH dX8_readCommand_174
  · have hf := fw_neg hc hf
    refine lv_iconst (v := (0 : Int32)) hx hb dX8_readCommand_155 (by decide) ?_
    refine lv_goto (tgt := 160) hx hb dX8_readCommand_156 (by decide) ?_
    refine lv_iadd hx hb dX8_readCommand_160 ?_
    refine fw_put (id := 0) (k := 11) (v := .int ((fw_g (fw_u σ 0 12 y1) 0 11) + (0 : Int32))) (ty := .int) (σ' := (fw_u (fw_u σ 0 12 y1) 0 11 ((fw_g (fw_u σ 0 12 y1) 0 11) + (0 : Int32)))) X hH (by decide) rfl fpm_11 (fun j h => fm_ne h) rfl inX8 tyX8 tyX8_ok nmX8 (by decide) (Nat.le_of_ble_eq_true rfl) rfl (by decide +kernel) rfl rfl tw_3_213 dX8_readCommand_161 (fun H locs hH => ?_)
    refine lv_aload_n hx hb dX8_readCommand_164 rfl (lv_at hl 0 rfl) ?_
    refine lv_dup hx hb dX8_readCommand_165 rfl ?_
    refine fw_get (id := 0) (k := 10) (v := .int (fw_g (fw_u (fw_u σ 0 12 y1) 0 11 ((fw_g (fw_u σ 0 12 y1) 0 11) + (0 : Int32))) 0 10)) X hH (by decide) rfl rfl inX8 (by decide) rfl tw_3_212 dX8_readCommand_166 ?_
    refine lv_iconst (v := (1 : Int32)) hx hb dX8_readCommand_169 (by decide) ?_
    refine lv_iadd hx hb dX8_readCommand_170 ?_
    refine fw_put (id := 0) (k := 10) (v := .int ((fw_g (fw_u (fw_u σ 0 12 y1) 0 11 ((fw_g (fw_u σ 0 12 y1) 0 11) + (0 : Int32))) 0 10) + (1 : Int32))) (ty := .int) (σ' := (fw_u (fw_u (fw_u σ 0 12 y1) 0 11 ((fw_g (fw_u σ 0 12 y1) 0 11) + (0 : Int32))) 0 10 ((fw_g (fw_u (fw_u σ 0 12 y1) 0 11 ((fw_g (fw_u σ 0 12 y1) 0 11) + (0 : Int32))) 0 10) + (1 : Int32)))) X hH (by decide) rfl fpm_10 (fun j h => fm_ne h) rfl inX8 tyX8 tyX8_ok nmX8 (by decide) (Nat.le_of_ble_eq_true rfl) rfl (by decide +kernel) rfl rfl tw_3_212 dX8_readCommand_171 (fun H locs hH => ?_)
    obtain rfl := Option.some.inj hf
    exact fw_retv X hH dX8_readCommand_174
def pX8_readCommand_113 (σ : fw_T) : Option (fw_T) :=
  if (fw_g σ 0 12) = 0 then
    (pX8_skip σ).bind fun τ14 =>
    fw_b2 (pX8_here τ14) fun w17 τ16 =>
    if w17 = (59 : Int32) then
      pX8_readCommand_140 (0 : Int32) τ16
    else
      pX8_readCommand_140 (1 : Int32) τ16
  else
    some σ
set_option maxRecDepth 100000 in
set_option maxHeartbeats 4000000 in
theorem wX8_readCommand_113 {args : Array Value} {σ' : fw_T} (X : fmX p m c cX8_readCommand 5 s args RX8 meth none D cI cB)  : ∀ (σ : fw_T), pX8_readCommand_113 σ = some σ' → ∀ (H : Heap) (locs : List Loc) (ls : Array Slot), fmH D cI cB adr A s H locs σ → lv_has ls 5 [(0, .ref (adr 0))] → W p l e rmX8_readCommand s m args below meth c H locs 0 0 (fw_Qv D 7 adr (fw_M cI cB adr) A below args s σ') (F0 m 113 ls []) := by
  have hx := X.1.1
  have hb := X.1.2.1
  intro σ hf H locs ls hH hl
  unfold pX8_readCommand_113 at hf
  refine lv_aload_n hx hb dX8_readCommand_113 rfl (lv_at hl 0 rfl) ?_
  refine fw_get (id := 0) (k := 12) (v := .int (fw_g σ 0 12)) X hH (by decide) rfl rfl inX8 (by decide) rfl tw_3_214 dX8_readCommand_114 ?_
  refine lv_if_eq (tgt := 121) hx hb dX8_readCommand_117 (by decide) (fun hc => ?_) (fun hc => ?_)
  · have hf := fw_pos hc hf
    refine lv_aload_n hx hb dX8_readCommand_121 rfl (lv_at hl 0 rfl) ?_
    obtain ⟨τ14, g13, hf⟩ := fw_bd hf
    refine fw_cv hH (fw_rV (As := []) (rest := []) (id := 0) X hH (kX8_skip  g13 _) qX8_skip tw_5_20 ⟨Nat.le_of_ble_eq_true rfl, Nat.le_of_ble_eq_true rfl⟩ rfl rfl (by decide) rfl rfl rfl hl.1 rfl (Nat.le_of_ble_eq_true rfl) dX8_readCommand_122) (fun H locs hH => ?_)
    refine lv_aload_n hx hb dX8_readCommand_125 rfl (lv_at hl 0 rfl) ?_
    refine lv_aload_n hx hb dX8_readCommand_126 rfl (lv_at hl 0 rfl) ?_
    obtain ⟨w17, τ16, g15, hf⟩ := fw_b2s hf
    refine fw_ci hH (fw_rV (As := []) (rest := [.ref (adr 0)]) (id := 0) X hH (kX8_here  g15 _) qX8_here tw_5_24 ⟨Nat.le_of_ble_eq_true rfl, Nat.le_of_ble_eq_true rfl⟩ rfl rfl (by decide) rfl rfl rfl hl.1 rfl (Nat.le_of_ble_eq_true rfl) dX8_readCommand_127) (fun H locs hH => ?_)
    refine lv_bipush (v := (59 : Int32)) hx hb dX8_readCommand_130 (by decide) ?_
    refine lv_icmp_eq (tgt := 139) hx hb dX8_readCommand_132 (by decide) (fun hc => ?_) (fun hc => ?_)
    · have hf := fw_pos hc hf
      refine lv_iconst (v := (0 : Int32)) hx hb dX8_readCommand_139 (by decide) ?_
      exact wX8_readCommand_140 X (0 : Int32) τ16 hf _ _ _ hH (lv_sub hl [0] rfl)
    · have hf := fw_neg hc hf
      refine lv_iconst (v := (1 : Int32)) hx hb dX8_readCommand_135 (by decide) ?_
      refine lv_goto (tgt := 140) hx hb dX8_readCommand_136 (by decide) ?_
      exact wX8_readCommand_140 X (1 : Int32) τ16 hf _ _ _ hH (lv_sub hl [0] rfl)
  · have hf := fw_neg hc hf
    obtain rfl := Option.some.inj hf
    exact fw_retv X hH dX8_readCommand_120
def pX8_readCommand_62 : Nat → Int32 → Int32 → Int32 → Int32 → fw_T → Option (fw_T)
  | 0, _, _, _, _, _ => none
  | n + 1, x1, x2, x3, x4, σ =>
    if x2 ≤ x4 then
      pX8_readCommand_113 σ
    else
      if (fw_g σ 0 12) = 0 then
        if x1 = (102 : Int32) then
          if x4 = (3 : Int32) then
            fw_b2 (pX8_readNumber (1 : Int32) σ) fun w32 τ31 =>
            (fw_wr τ31 6 320 ((x3 + (1 : Int32)) + x4) w32).bind fun τ33 =>
            pX8_readCommand_62 n x1 x2 x3 (x4 + (1 : Int32)) τ33
          else
            fw_b2 (pX8_readNumber (0 : Int32) σ) fun w27 τ26 =>
            (fw_wr τ26 6 320 ((x3 + (1 : Int32)) + x4) w27).bind fun τ28 =>
            pX8_readCommand_62 n x1 x2 x3 (x4 + (1 : Int32)) τ28
        else
          fw_b2 (pX8_readNumber (0 : Int32) σ) fun w22 τ21 =>
          (fw_wr τ21 6 320 ((x3 + (1 : Int32)) + x4) w22).bind fun τ23 =>
          pX8_readCommand_62 n x1 x2 x3 (x4 + (1 : Int32)) τ23
      else
        pX8_readCommand_113 σ
set_option maxRecDepth 100000 in
set_option maxHeartbeats 4000000 in
theorem wX8_readCommand_62 {args : Array Value} {σ' : fw_T} (X : fmX p m c cX8_readCommand 5 s args RX8 meth none D cI cB)  : ∀ (n : Nat), ∀ (x1 : Int32), ∀ (x2 : Int32), ∀ (x3 : Int32), ∀ (x4 : Int32), ∀ (σ : fw_T), pX8_readCommand_62 n x1 x2 x3 x4 σ = some σ' → ∀ (H : Heap) (locs : List Loc) (ls : Array Slot), fmH D cI cB adr A s H locs σ → lv_has ls 5 [(0, .ref (adr 0)), (1, .int x1), (2, .int x2), (3, .int x3), (4, .int x4)] → W p l e rmX8_readCommand s m args below meth c H locs 0 0 (fw_Qv D 7 adr (fw_M cI cB adr) A below args s σ') (F0 m 62 ls []) := by
  have hx := X.1.1
  have hb := X.1.2.1
  intro n
  induction n with
  | zero =>
    intro x1 x2 x3 x4 σ hf
    exact absurd hf (by simp [pX8_readCommand_62])
  | succ n ih =>
    intro x1 x2 x3 x4 σ hf H locs ls hH hl
    rw [pX8_readCommand_62] at hf
    refine lv_iload hx hb dX8_readCommand_62 (lv_at hl 4 rfl) ?_
    refine lv_iload_n hx hb dX8_readCommand_64 rfl (lv_at hl 2 rfl) ?_
    refine lv_icmp_ge (tgt := 113) hx hb dX8_readCommand_65 (by decide) (fun hc => ?_) (fun hc => ?_)
    · have hf := fw_pos hc hf
      exact wX8_readCommand_113 X σ hf _ _ _ hH (lv_sub hl [0] rfl)
    · have hf := fw_neg hc hf
      refine lv_aload_n hx hb dX8_readCommand_68 rfl (lv_at hl 0 rfl) ?_
      refine fw_get (id := 0) (k := 12) (v := .int (fw_g σ 0 12)) X hH (by decide) rfl rfl inX8 (by decide) rfl tw_3_214 dX8_readCommand_69 ?_
      refine lv_if_ne (tgt := 113) hx hb dX8_readCommand_72 (by decide) (fun hc => ?_) (fun hc => ?_)
      · have hf := fw_neg hc hf
        exact wX8_readCommand_113 X σ hf _ _ _ hH (lv_sub hl [0] rfl)
      · have hf := fw_pos hc hf
        refine lv_aload_n hx hb dX8_readCommand_75 rfl (lv_at hl 0 rfl) ?_
        refine fw_get (id := 0) (k := 9) (v := .ref (adr 6)) X hH (by decide) rfl rfl inX8 (by decide) rfl tw_3_211 dX8_readCommand_76 ?_
        refine lv_iload_n hx hb dX8_readCommand_79 rfl (lv_at hl 3 rfl) ?_
        refine lv_iconst (v := (1 : Int32)) hx hb dX8_readCommand_80 (by decide) ?_
        refine lv_iadd hx hb dX8_readCommand_81 ?_
        refine lv_iload hx hb dX8_readCommand_82 (lv_at hl 4 rfl) ?_
        refine lv_iadd hx hb dX8_readCommand_84 ?_
        refine lv_aload_n hx hb dX8_readCommand_85 rfl (lv_at hl 0 rfl) ?_
        refine lv_iload_n hx hb dX8_readCommand_86 rfl (lv_at hl 1 rfl) ?_
        refine lv_bipush (v := (102 : Int32)) hx hb dX8_readCommand_87 (by decide) ?_
        refine lv_icmp_ne (tgt := 102) hx hb dX8_readCommand_89 (by decide) (fun hc => ?_) (fun hc => ?_)
        · have hf := fw_neg hc hf
          refine lv_iconst (v := (0 : Int32)) hx hb dX8_readCommand_102 (by decide) ?_
          obtain ⟨w22, τ21, g20, hf⟩ := fw_b2s hf
          refine fw_ci hH (fw_rV (As := [.int (0 : Int32)]) (rest := [.int ((x3 + (1 : Int32)) + x4), .ref (adr 6)]) (id := 0) X hH (kX8_readNumber  g20 _) qX8_readNumber tw_5_31 ⟨Nat.le_of_ble_eq_true rfl, Nat.le_of_ble_eq_true rfl⟩ rfl rfl (by decide) rfl rfl rfl hl.1 rfl (Nat.le_of_ble_eq_true rfl) dX8_readCommand_103) (fun H locs hH => ?_)
          obtain ⟨τ23, g24, hf⟩ := fw_bd hf
          refine fw_iast (id := 6) (n := 320) X hH (by decide) (fun σ => rfl) (fun k x j h => fm_ne h) rfl g24 dX8_readCommand_106 (fun H locs hH => ?_)
          refine lv_iinc (v := (x4 + (1 : Int32))) (lv' := [(4, .int (x4 + (1 : Int32))), (0, .ref (adr 0)), (1, .int x1), (2, .int x2), (3, .int x3)]) hx hb dX8_readCommand_107 hl (k := 4) rfl rfl (by decide) rfl (fun ls hl => ?_)
          refine lv_goto (tgt := 62) hx hb dX8_readCommand_110 (by decide) ?_
          exact ih x1 x2 x3 (x4 + (1 : Int32)) τ23 hf _ _ _ hH (lv_sub hl [1, 2, 3, 4, 0] rfl)
        · have hf := fw_pos hc hf
          refine lv_iload hx hb dX8_readCommand_92 (lv_at hl 4 rfl) ?_
          refine lv_iconst (v := (3 : Int32)) hx hb dX8_readCommand_94 (by decide) ?_
          refine lv_icmp_ne (tgt := 102) hx hb dX8_readCommand_95 (by decide) (fun hc => ?_) (fun hc => ?_)
          · have hf := fw_neg hc hf
            refine lv_iconst (v := (0 : Int32)) hx hb dX8_readCommand_102 (by decide) ?_
            obtain ⟨w27, τ26, g25, hf⟩ := fw_b2s hf
            refine fw_ci hH (fw_rV (As := [.int (0 : Int32)]) (rest := [.int ((x3 + (1 : Int32)) + x4), .ref (adr 6)]) (id := 0) X hH (kX8_readNumber  g25 _) qX8_readNumber tw_5_31 ⟨Nat.le_of_ble_eq_true rfl, Nat.le_of_ble_eq_true rfl⟩ rfl rfl (by decide) rfl rfl rfl hl.1 rfl (Nat.le_of_ble_eq_true rfl) dX8_readCommand_103) (fun H locs hH => ?_)
            obtain ⟨τ28, g29, hf⟩ := fw_bd hf
            refine fw_iast (id := 6) (n := 320) X hH (by decide) (fun σ => rfl) (fun k x j h => fm_ne h) rfl g29 dX8_readCommand_106 (fun H locs hH => ?_)
            refine lv_iinc (v := (x4 + (1 : Int32))) (lv' := [(4, .int (x4 + (1 : Int32))), (0, .ref (adr 0)), (1, .int x1), (2, .int x2), (3, .int x3)]) hx hb dX8_readCommand_107 hl (k := 4) rfl rfl (by decide) rfl (fun ls hl => ?_)
            refine lv_goto (tgt := 62) hx hb dX8_readCommand_110 (by decide) ?_
            exact ih x1 x2 x3 (x4 + (1 : Int32)) τ28 hf _ _ _ hH (lv_sub hl [1, 2, 3, 4, 0] rfl)
          · have hf := fw_pos hc hf
            refine lv_iconst (v := (1 : Int32)) hx hb dX8_readCommand_98 (by decide) ?_
            refine lv_goto (tgt := 103) hx hb dX8_readCommand_99 (by decide) ?_
            obtain ⟨w32, τ31, g30, hf⟩ := fw_b2s hf
            refine fw_ci hH (fw_rV (As := [.int (1 : Int32)]) (rest := [.int ((x3 + (1 : Int32)) + x4), .ref (adr 6)]) (id := 0) X hH (kX8_readNumber  g30 _) qX8_readNumber tw_5_31 ⟨Nat.le_of_ble_eq_true rfl, Nat.le_of_ble_eq_true rfl⟩ rfl rfl (by decide) rfl rfl rfl hl.1 rfl (Nat.le_of_ble_eq_true rfl) dX8_readCommand_103) (fun H locs hH => ?_)
            obtain ⟨τ33, g34, hf⟩ := fw_bd hf
            refine fw_iast (id := 6) (n := 320) X hH (by decide) (fun σ => rfl) (fun k x j h => fm_ne h) rfl g34 dX8_readCommand_106 (fun H locs hH => ?_)
            refine lv_iinc (v := (x4 + (1 : Int32))) (lv' := [(4, .int (x4 + (1 : Int32))), (0, .ref (adr 0)), (1, .int x1), (2, .int x2), (3, .int x3)]) hx hb dX8_readCommand_107 hl (k := 4) rfl rfl (by decide) rfl (fun ls hl => ?_)
            refine lv_goto (tgt := 62) hx hb dX8_readCommand_110 (by decide) ?_
            exact ih x1 x2 x3 (x4 + (1 : Int32)) τ33 hf _ _ _ hH (lv_sub hl [1, 2, 3, 4, 0] rfl)
def pX8_readCommand_24 (x1 : Int32) (x2 : Int32) (y1 : Int32) (σ : fw_T) : Option (fw_T) :=
  (fw_z y1).bind fun _ =>
  if (fw_g (fw_u σ 0 12 y1) 0 12) = 0 then
    (fw_wr (fw_u (fw_u σ 0 12 y1) 0 11 ((fw_g (fw_u σ 0 12 y1) 0 11) + (1 : Int32))) 6 320 ((5 : Int32) * (fw_g (fw_u (fw_u σ 0 12 y1) 0 11 ((fw_g (fw_u σ 0 12 y1) 0 11) + (1 : Int32))) 0 10)) x1).bind fun τ11 =>
    pX8_readCommand_62 400 x1 x2 ((5 : Int32) * (fw_g (fw_u (fw_u σ 0 12 y1) 0 11 ((fw_g (fw_u σ 0 12 y1) 0 11) + (1 : Int32))) 0 10)) (0 : Int32) τ11
  else
    some (fw_u σ 0 12 y1)
set_option maxRecDepth 100000 in
set_option maxHeartbeats 4000000 in
theorem wX8_readCommand_24 {args : Array Value} {σ' : fw_T} (X : fmX p m c cX8_readCommand 5 s args RX8 meth none D cI cB)  : ∀ (x1 : Int32), ∀ (x2 : Int32), ∀ (y1 : Int32), ∀ (σ : fw_T), pX8_readCommand_24 x1 x2 y1 σ = some σ' → ∀ (H : Heap) (locs : List Loc) (ls : Array Slot), fmH D cI cB adr A s H locs σ → lv_has ls 5 [(0, .ref (adr 0)), (1, .int x1), (2, .int x2)] → W p l e rmX8_readCommand s m args below meth c H locs 0 0 (fw_Qv D 7 adr (fw_M cI cB adr) A below args s σ') (F0 m 24 ls [.int y1, .ref (adr 0)]) := by
  have hx := X.1.1
  have hb := X.1.2.1
  intro x1 x2 y1 σ hf H locs ls hH hl
  unfold pX8_readCommand_24 at hf
  obtain ⟨z10, g9, hf⟩ := fw_bd hf
  have g9z := (fw_zs g9).2
  refine fw_put (id := 0) (k := 12) (v := .int y1) (ty := .boolean) (σ' := (fw_u σ 0 12 y1)) X hH (by decide) rfl fpm_12 (fun j h => fm_ne h) rfl inX8 tyX8 tyX8_ok nmX8 (by decide) (Nat.le_of_ble_eq_true rfl) rfl (by decide +kernel) (fw_nz g9z) (fw_fz g9z) tw_3_214 dX8_readCommand_24 (fun H locs hH => ?_)
  refine lv_aload_n hx hb dX8_readCommand_27 rfl (lv_at hl 0 rfl) ?_
  refine fw_get (id := 0) (k := 12) (v := .int (fw_g (fw_u σ 0 12 y1) 0 12)) X hH (by decide) rfl rfl inX8 (by decide) rfl tw_3_214 dX8_readCommand_28 ?_
  refine lv_if_eq (tgt := 35) hx hb dX8_readCommand_31 (by decide) (fun hc => ?_) (fun hc => ?_)
  · have hf := fw_pos hc hf
    refine lv_aload_n hx hb dX8_readCommand_35 rfl (lv_at hl 0 rfl) ?_
    refine lv_dup hx hb dX8_readCommand_36 rfl ?_
    refine fw_get (id := 0) (k := 11) (v := .int (fw_g (fw_u σ 0 12 y1) 0 11)) X hH (by decide) rfl rfl inX8 (by decide) rfl tw_3_213 dX8_readCommand_37 ?_
    refine lv_iconst (v := (1 : Int32)) hx hb dX8_readCommand_40 (by decide) ?_
    refine lv_iadd hx hb dX8_readCommand_41 ?_
    refine fw_put (id := 0) (k := 11) (v := .int ((fw_g (fw_u σ 0 12 y1) 0 11) + (1 : Int32))) (ty := .int) (σ' := (fw_u (fw_u σ 0 12 y1) 0 11 ((fw_g (fw_u σ 0 12 y1) 0 11) + (1 : Int32)))) X hH (by decide) rfl fpm_11 (fun j h => fm_ne h) rfl inX8 tyX8 tyX8_ok nmX8 (by decide) (Nat.le_of_ble_eq_true rfl) rfl (by decide +kernel) rfl rfl tw_3_213 dX8_readCommand_42 (fun H locs hH => ?_)
    refine lv_iconst (v := (5 : Int32)) hx hb dX8_readCommand_45 (by decide) ?_
    refine lv_aload_n hx hb dX8_readCommand_46 rfl (lv_at hl 0 rfl) ?_
    refine fw_get (id := 0) (k := 10) (v := .int (fw_g (fw_u (fw_u σ 0 12 y1) 0 11 ((fw_g (fw_u σ 0 12 y1) 0 11) + (1 : Int32))) 0 10)) X hH (by decide) rfl rfl inX8 (by decide) rfl tw_3_212 dX8_readCommand_47 ?_
    refine lv_imul hx hb dX8_readCommand_50 ?_
    refine lv_istore_n (lv' := [(3, .int ((5 : Int32) * (fw_g (fw_u (fw_u σ 0 12 y1) 0 11 ((fw_g (fw_u σ 0 12 y1) 0 11) + (1 : Int32))) 0 10))), (0, .ref (adr 0)), (1, .int x1), (2, .int x2)]) hx hb dX8_readCommand_51 rfl hl (by decide) rfl (fun ls hl => ?_)
    refine lv_aload_n hx hb dX8_readCommand_52 rfl (lv_at hl 1 rfl) ?_
    refine fw_get (id := 0) (k := 9) (v := .ref (adr 6)) X hH (by decide) rfl rfl inX8 (by decide) rfl tw_3_211 dX8_readCommand_53 ?_
    refine lv_iload_n hx hb dX8_readCommand_56 rfl (lv_at hl 0 rfl) ?_
    refine lv_iload_n hx hb dX8_readCommand_57 rfl (lv_at hl 2 rfl) ?_
    obtain ⟨τ11, g12, hf⟩ := fw_bd hf
    refine fw_iast (id := 6) (n := 320) X hH (by decide) (fun σ => rfl) (fun k x j h => fm_ne h) rfl g12 dX8_readCommand_58 (fun H locs hH => ?_)
    refine lv_iconst (v := (0 : Int32)) hx hb dX8_readCommand_59 (by decide) ?_
    refine lv_istore (lv' := [(4, .int (0 : Int32)), (3, .int ((5 : Int32) * (fw_g (fw_u (fw_u σ 0 12 y1) 0 11 ((fw_g (fw_u σ 0 12 y1) 0 11) + (1 : Int32))) 0 10))), (0, .ref (adr 0)), (1, .int x1), (2, .int x2)]) hx hb dX8_readCommand_60 hl (by decide) rfl (fun ls hl => ?_)
    exact wX8_readCommand_62 X 400 x1 x2 ((5 : Int32) * (fw_g (fw_u (fw_u σ 0 12 y1) 0 11 ((fw_g (fw_u σ 0 12 y1) 0 11) + (1 : Int32))) 0 10)) (0 : Int32) τ11 hf _ _ _ hH (lv_sub hl [2, 3, 4, 1, 0] rfl)
  · have hf := fw_neg hc hf
    obtain rfl := Option.some.inj hf
    exact fw_retv X hH dX8_readCommand_34
def pX8_readCommand (σ : fw_T) : Option (fw_T) :=
  (pX8_skip σ).bind fun τ2 =>
  fw_b2 (pX8_here τ2) fun w5 τ4 =>
  fw_b2 (pX8_numbersOf w5 τ4) fun w8 τ7 =>
  if 0 ≤ w8 then
    pX8_readCommand_24 w5 w8 (0 : Int32) τ7
  else
    pX8_readCommand_24 w5 w8 (1 : Int32) τ7
set_option maxRecDepth 100000 in
set_option maxHeartbeats 4000000 in
theorem kX8_readCommand {σ σ' : fw_T} (hf : pX8_readCommand σ = some σ') : fw_Cv l yX8_readCommand (Cond.code yX8_readCommand cX8_readCommand 5 none :: lwT) rmX8_readCommand [.ref (adr 0)] D 7 adr (fw_M cI cB adr) (fmT cI cB) [] σ σ' := by
  refine fw_start (Qc := (fun A => va_Qv (fun (_ : Unit) => True) (fun _ t => va_P D vwCl (fw_ws 7 adr (fw_M cI cB adr σ')) t.heap) A)) (by decide) (by simp [lg_sl, Value.category]) rfl ?_
  intro p e s m below meth c A X hH ls hl
  have hx := X.1.1
  have hb := X.1.2.1
  have hl : lv_has ls 5 [(0, .ref (adr 0))] := hl
  unfold pX8_readCommand at hf
  refine lv_aload_n hx hb dX8_readCommand_0 rfl (lv_at hl 0 rfl) ?_
  obtain ⟨τ2, g1, hf⟩ := fw_bd hf
  refine fw_cv hH (fw_rV (As := []) (rest := []) (id := 0) X hH (kX8_skip  g1 _) qX8_skip tw_5_20 ⟨Nat.le_of_ble_eq_true rfl, Nat.le_of_ble_eq_true rfl⟩ rfl rfl (by decide) rfl rfl rfl hl.1 rfl (Nat.le_of_ble_eq_true rfl) dX8_readCommand_1) (fun H locs hH => ?_)
  refine lv_aload_n hx hb dX8_readCommand_4 rfl (lv_at hl 0 rfl) ?_
  obtain ⟨w5, τ4, g3, hf⟩ := fw_b2s hf
  refine fw_ci hH (fw_rV (As := []) (rest := []) (id := 0) X hH (kX8_here  g3 _) qX8_here tw_5_24 ⟨Nat.le_of_ble_eq_true rfl, Nat.le_of_ble_eq_true rfl⟩ rfl rfl (by decide) rfl rfl rfl hl.1 rfl (Nat.le_of_ble_eq_true rfl) dX8_readCommand_5) (fun H locs hH => ?_)
  refine lv_istore_n (lv' := [(1, .int w5), (0, .ref (adr 0))]) hx hb dX8_readCommand_8 rfl hl (by decide) rfl (fun ls hl => ?_)
  refine lv_iload_n hx hb dX8_readCommand_9 rfl (lv_at hl 0 rfl) ?_
  obtain ⟨w8, τ7, g6, hf⟩ := fw_b2s hf
  refine fw_ci hH (fw_rS (As := [.int w5]) (rest := []) X hH (kX8_numbersOf  g6 _) qX8_numbersOf tw_5_28 ⟨Nat.le_of_ble_eq_true rfl, Nat.le_of_ble_eq_true rfl⟩ rfl rfl rfl hl.1 rfl (Nat.le_of_ble_eq_true rfl) dX8_readCommand_10) (fun H locs hH => ?_)
  refine lv_istore_n (lv' := [(2, .int w8), (1, .int w5), (0, .ref (adr 0))]) hx hb dX8_readCommand_13 rfl hl (by decide) rfl (fun ls hl => ?_)
  refine lv_aload_n hx hb dX8_readCommand_14 rfl (lv_at hl 2 rfl) ?_
  refine lv_iload_n hx hb dX8_readCommand_15 rfl (lv_at hl 0 rfl) ?_
  refine lv_if_ge (tgt := 23) hx hb dX8_readCommand_16 (by decide) (fun hc => ?_) (fun hc => ?_)
  · have hf := fw_pos hc hf
    refine lv_iconst (v := (0 : Int32)) hx hb dX8_readCommand_23 (by decide) ?_
    exact wX8_readCommand_24 X w5 w8 (0 : Int32) τ7 hf _ _ _ hH (lv_sub hl [2, 1, 0] rfl)
  · have hf := fw_neg hc hf
    refine lv_iconst (v := (1 : Int32)) hx hb dX8_readCommand_19 (by decide) ?_
    refine lv_goto (tgt := 24) hx hb dX8_readCommand_20 (by decide) ?_
    exact wX8_readCommand_24 X w5 w8 (1 : Int32) τ7 hf _ _ _ hH (lv_sub hl [2, 1, 0] rfl)
abbrev rmX8_execute : Room := { frames := 4, cells := 0, slots := 0, locals := 88 }
theorem qX8_execute : fw_QV RX8 yX8_execute cX8_execute 4 (some .int) 1 := ⟨⟨tw_5_37, tv_X8_execute, tw_1_10, tw_5_38⟩, by decide +kernel⟩
def pX8_execute (x1 : Int32) (σ : fw_T) : Option (Int32 × fw_T) :=
  (fw_rd σ 6 320 (x1 + (1 : Int32))).bind fun w1 =>
  (fw_rd σ 6 320 (x1 + (2 : Int32))).bind fun w3 =>
  (fw_rd σ 6 320 x1).bind fun w5 =>
  if w5 = (102 : Int32) then
    (fw_rd σ 6 320 (x1 + (3 : Int32))).bind fun w22 =>
    (fw_rd σ 6 320 (x1 + (4 : Int32))).bind fun w24 =>
    fw_b2 (pX8_addFilter w1 w3 w22 w24 σ) fun w28 τ27 =>
    some (w28, τ27)
  else
    if w5 = (108 : Int32) then
      fw_b2 (pX8_addLeft w1 w3 σ) fun w21 τ20 =>
      some (w21, τ20)
    else
      if w5 = (114 : Int32) then
        fw_b2 (pX8_addRight w1 w3 σ) fun w18 τ17 =>
        some (w18, τ17)
      else
        if w5 = (119 : Int32) then
          fw_b2 (pX8_addWish w1 w3 σ) fun w15 τ14 =>
          some (w15, τ14)
        else
          if w5 = (120 : Int32) then
            fw_b2 (pX8_removeFilter w1 σ) fun w12 τ11 =>
            some (w12, τ11)
          else
            fw_b2 (pX8_clearWishes σ) fun w9 τ8 =>
            some (w9, τ8)
set_option maxRecDepth 100000 in
set_option maxHeartbeats 4000000 in
theorem kX8_execute {x1 : Int32} {r : Int32} {σ σ' : fw_T} (hf : pX8_execute x1 σ = some (r, σ')) : fw_Ci l yX8_execute (Cond.code yX8_execute cX8_execute 4 (some .int) :: lwT) rmX8_execute [.ref (adr 0), .int x1] D 7 adr (fw_M cI cB adr) (fmT cI cB) [] σ r σ' := by
  refine fw_start (Qc := (fun A => va_Qi (fun r' (_ : Unit) => r' = r) (fun _ t => va_P D vwCl (fw_ws 7 adr (fw_M cI cB adr σ')) t.heap) A)) (by decide) (by simp [lg_sl, Value.category]) rfl ?_
  intro p e s m below meth c A X hH ls hl
  have hx := X.1.1
  have hb := X.1.2.1
  have hl : lv_has ls 4 [(0, .ref (adr 0)), (1, .int x1)] := hl
  unfold pX8_execute at hf
  refine lv_aload_n hx hb dX8_execute_0 rfl (lv_at hl 0 rfl) ?_
  refine fw_get (id := 0) (k := 9) (v := .ref (adr 6)) X hH (by decide) rfl rfl inX8 (by decide) rfl tw_3_211 dX8_execute_1 ?_
  refine lv_iload_n hx hb dX8_execute_4 rfl (lv_at hl 1 rfl) ?_
  refine lv_iconst (v := (1 : Int32)) hx hb dX8_execute_5 (by decide) ?_
  refine lv_iadd hx hb dX8_execute_6 ?_
  obtain ⟨w1, g2, hf⟩ := fw_bd hf
  refine fw_iald (id := 6) (n := 320) X hH (by decide) rfl rfl g2 dX8_execute_7 ?_
  refine lv_istore_n (lv' := [(2, .int w1), (0, .ref (adr 0)), (1, .int x1)]) hx hb dX8_execute_8 rfl hl (by decide) rfl (fun ls hl => ?_)
  refine lv_aload_n hx hb dX8_execute_9 rfl (lv_at hl 1 rfl) ?_
  refine fw_get (id := 0) (k := 9) (v := .ref (adr 6)) X hH (by decide) rfl rfl inX8 (by decide) rfl tw_3_211 dX8_execute_10 ?_
  refine lv_iload_n hx hb dX8_execute_13 rfl (lv_at hl 2 rfl) ?_
  refine lv_iconst (v := (2 : Int32)) hx hb dX8_execute_14 (by decide) ?_
  refine lv_iadd hx hb dX8_execute_15 ?_
  obtain ⟨w3, g4, hf⟩ := fw_bd hf
  refine fw_iald (id := 6) (n := 320) X hH (by decide) rfl rfl g4 dX8_execute_16 ?_
  refine lv_istore_n (lv' := [(3, .int w3), (2, .int w1), (0, .ref (adr 0)), (1, .int x1)]) hx hb dX8_execute_17 rfl hl (by decide) rfl (fun ls hl => ?_)
  refine lv_aload_n hx hb dX8_execute_18 rfl (lv_at hl 2 rfl) ?_
  refine fw_get (id := 0) (k := 9) (v := .ref (adr 6)) X hH (by decide) rfl rfl inX8 (by decide) rfl tw_3_211 dX8_execute_19 ?_
  refine lv_iload_n hx hb dX8_execute_22 rfl (lv_at hl 3 rfl) ?_
  obtain ⟨w5, g6, hf⟩ := fw_bd hf
  refine fw_iald (id := 6) (n := 320) X hH (by decide) rfl rfl g6 dX8_execute_23 ?_
  by_cases hc0 : w5 = (102 : Int32)
  · have hf := fw_pos hc0 hf
    refine lv_lookup (off := 66) (tgt := 90) hx hb dX8_execute_24 (by decide) (by rw [hc0]; decide) (by decide) ?_
    refine lv_aload_n hx hb dX8_execute_90 rfl (lv_at hl 2 rfl) ?_
    refine lv_iload_n hx hb dX8_execute_91 rfl (lv_at hl 1 rfl) ?_
    refine lv_iload_n hx hb dX8_execute_92 rfl (lv_at hl 0 rfl) ?_
    refine lv_aload_n hx hb dX8_execute_93 rfl (lv_at hl 2 rfl) ?_
    refine fw_get (id := 0) (k := 9) (v := .ref (adr 6)) X hH (by decide) rfl rfl inX8 (by decide) rfl tw_3_211 dX8_execute_94 ?_
    refine lv_iload_n hx hb dX8_execute_97 rfl (lv_at hl 3 rfl) ?_
    refine lv_iconst (v := (3 : Int32)) hx hb dX8_execute_98 (by decide) ?_
    refine lv_iadd hx hb dX8_execute_99 ?_
    obtain ⟨w22, g23, hf⟩ := fw_bd hf
    refine fw_iald (id := 6) (n := 320) X hH (by decide) rfl rfl g23 dX8_execute_100 ?_
    refine lv_aload_n hx hb dX8_execute_101 rfl (lv_at hl 2 rfl) ?_
    refine fw_get (id := 0) (k := 9) (v := .ref (adr 6)) X hH (by decide) rfl rfl inX8 (by decide) rfl tw_3_211 dX8_execute_102 ?_
    refine lv_iload_n hx hb dX8_execute_105 rfl (lv_at hl 3 rfl) ?_
    refine lv_iconst (v := (4 : Int32)) hx hb dX8_execute_106 (by decide) ?_
    refine lv_iadd hx hb dX8_execute_107 ?_
    obtain ⟨w24, g25, hf⟩ := fw_bd hf
    refine fw_iald (id := 6) (n := 320) X hH (by decide) rfl rfl g25 dX8_execute_108 ?_
    obtain ⟨w28, τ27, g26, hf⟩ := fw_b2s hf
    refine fw_ci hH (fw_rV (As := [.int w1, .int w3, .int w22, .int w24]) (rest := []) (id := 0) X hH (kX8_addFilter  g26 _) qX8_addFilter tw_5_41 ⟨Nat.le_of_ble_eq_true rfl, Nat.le_of_ble_eq_true rfl⟩ rfl rfl (by decide) rfl rfl rfl hl.1 rfl (Nat.le_of_ble_eq_true rfl) dX8_execute_109) (fun H locs hH => ?_)
    obtain ⟨rfl, rfl⟩ := fw_s2 hf
    exact fw_reti X hH dX8_execute_112
  · have hf := fw_neg hc0 hf
    by_cases hc1 : w5 = (108 : Int32)
    · have hf := fw_pos hc1 hf
      refine lv_lookup (off := 52) (tgt := 76) hx hb dX8_execute_24 (by decide) (by rw [hc1]; decide) (by decide) ?_
      refine lv_aload_n hx hb dX8_execute_76 rfl (lv_at hl 2 rfl) ?_
      refine lv_iload_n hx hb dX8_execute_77 rfl (lv_at hl 1 rfl) ?_
      refine lv_iload_n hx hb dX8_execute_78 rfl (lv_at hl 0 rfl) ?_
      obtain ⟨w21, τ20, g19, hf⟩ := fw_b2s hf
      refine fw_ci hH (fw_rV (As := [.int w1, .int w3]) (rest := []) (id := 0) X hH (kX8_addLeft  g19 _) qX8_addLeft tw_5_39 ⟨Nat.le_of_ble_eq_true rfl, Nat.le_of_ble_eq_true rfl⟩ rfl rfl (by decide) rfl rfl rfl hl.1 rfl (Nat.le_of_ble_eq_true rfl) dX8_execute_79) (fun H locs hH => ?_)
      obtain ⟨rfl, rfl⟩ := fw_s2 hf
      exact fw_reti X hH dX8_execute_82
    · have hf := fw_neg hc1 hf
      by_cases hc2 : w5 = (114 : Int32)
      · have hf := fw_pos hc2 hf
        refine lv_lookup (off := 59) (tgt := 83) hx hb dX8_execute_24 (by decide) (by rw [hc2]; decide) (by decide) ?_
        refine lv_aload_n hx hb dX8_execute_83 rfl (lv_at hl 2 rfl) ?_
        refine lv_iload_n hx hb dX8_execute_84 rfl (lv_at hl 1 rfl) ?_
        refine lv_iload_n hx hb dX8_execute_85 rfl (lv_at hl 0 rfl) ?_
        obtain ⟨w18, τ17, g16, hf⟩ := fw_b2s hf
        refine fw_ci hH (fw_rV (As := [.int w1, .int w3]) (rest := []) (id := 0) X hH (kX8_addRight  g16 _) qX8_addRight tw_5_40 ⟨Nat.le_of_ble_eq_true rfl, Nat.le_of_ble_eq_true rfl⟩ rfl rfl (by decide) rfl rfl rfl hl.1 rfl (Nat.le_of_ble_eq_true rfl) dX8_execute_86) (fun H locs hH => ?_)
        obtain ⟨rfl, rfl⟩ := fw_s2 hf
        exact fw_reti X hH dX8_execute_89
      · have hf := fw_neg hc2 hf
        by_cases hc3 : w5 = (119 : Int32)
        · have hf := fw_pos hc3 hf
          refine lv_lookup (off := 95) (tgt := 119) hx hb dX8_execute_24 (by decide) (by rw [hc3]; decide) (by decide) ?_
          refine lv_aload_n hx hb dX8_execute_119 rfl (lv_at hl 2 rfl) ?_
          refine lv_iload_n hx hb dX8_execute_120 rfl (lv_at hl 1 rfl) ?_
          refine lv_iload_n hx hb dX8_execute_121 rfl (lv_at hl 0 rfl) ?_
          obtain ⟨w15, τ14, g13, hf⟩ := fw_b2s hf
          refine fw_ci hH (fw_rV (As := [.int w1, .int w3]) (rest := []) (id := 0) X hH (kX8_addWish  g13 _) qX8_addWish tw_5_43 ⟨Nat.le_of_ble_eq_true rfl, Nat.le_of_ble_eq_true rfl⟩ rfl rfl (by decide) rfl rfl rfl hl.1 rfl (Nat.le_of_ble_eq_true rfl) dX8_execute_122) (fun H locs hH => ?_)
          obtain ⟨rfl, rfl⟩ := fw_s2 hf
          exact fw_reti X hH dX8_execute_125
        · have hf := fw_neg hc3 hf
          by_cases hc4 : w5 = (120 : Int32)
          · have hf := fw_pos hc4 hf
            refine lv_lookup (off := 89) (tgt := 113) hx hb dX8_execute_24 (by decide) (by rw [hc4]; decide) (by decide) ?_
            refine lv_aload_n hx hb dX8_execute_113 rfl (lv_at hl 2 rfl) ?_
            refine lv_iload_n hx hb dX8_execute_114 rfl (lv_at hl 1 rfl) ?_
            obtain ⟨w12, τ11, g10, hf⟩ := fw_b2s hf
            refine fw_ci hH (fw_rV (As := [.int w1]) (rest := []) (id := 0) X hH (kX8_removeFilter  g10 _) qX8_removeFilter tw_5_42 ⟨Nat.le_of_ble_eq_true rfl, Nat.le_of_ble_eq_true rfl⟩ rfl rfl (by decide) rfl rfl rfl hl.1 rfl (Nat.le_of_ble_eq_true rfl) dX8_execute_115) (fun H locs hH => ?_)
            obtain ⟨rfl, rfl⟩ := fw_s2 hf
            exact fw_reti X hH dX8_execute_118
          · have hf := fw_neg hc4 hf
            refine lv_lookup (off := 102) (tgt := 126) hx hb dX8_execute_24 (by decide) (by exact (lv_osw hc0 (by decide)).trans ((lv_osw hc1 (by decide)).trans ((lv_osw hc2 (by decide)).trans ((lv_osw hc3 (by decide)).trans ((lv_osw hc4 (by decide))))))) (by decide) ?_
            refine lv_aload_n hx hb dX8_execute_126 rfl (lv_at hl 2 rfl) ?_
            obtain ⟨w9, τ8, g7, hf⟩ := fw_b2s hf
            refine fw_ci hH (fw_rV (As := []) (rest := []) (id := 0) X hH (kX8_clearWishes  g7 _) qX8_clearWishes tw_5_44 ⟨Nat.le_of_ble_eq_true rfl, Nat.le_of_ble_eq_true rfl⟩ rfl rfl (by decide) rfl rfl rfl hl.1 rfl (Nat.le_of_ble_eq_true rfl) dX8_execute_127) (fun H locs hH => ?_)
            obtain ⟨rfl, rfl⟩ := fw_s2 hf
            exact fw_reti X hH dX8_execute_130
end
