section
variable {p : Program} {l : Launch} {e : Env} {s : State} {m : MethodId} {below : List Frame} {meth : Method} {c : Code} {D : va_G} {cI cO cB : ClassId} {adr : Nat → Nat} {A : Nat → Prop}
abbrev rmX8_in : Room := { frames := 0, cells := 0, slots := 0, locals := 0 }
theorem qX8_in : fw_QS yX8_in cX8_in 3 (some .boolean) 3 := ⟨⟨tw_4_18, tw_1_10, tw_4_19⟩, by decide +kernel⟩
def pX8_in (x0 : Int32) (x1 : Int32) (x2 : Int32) (σ : fw_T) : Option (Int32 × fw_T) :=
  if x0 < x1 then
    fw_rz (0 : Int32) σ
  else
    if x2 < x0 then
      fw_rz (0 : Int32) σ
    else
      fw_rz (1 : Int32) σ
set_option maxRecDepth 100000 in
set_option maxHeartbeats 4000000 in
theorem kX8_in {x0 : Int32} {x1 : Int32} {x2 : Int32} {r : Int32} {σ σ' : fw_T} (hf : pX8_in x0 x1 x2 σ = some (r, σ')) : fw_Ci l yX8_in (Cond.code yX8_in cX8_in 3 (some .boolean) :: lwT) rmX8_in [.int x0, .int x1, .int x2] D 7 adr (fw_M cI cB adr) (fmT cI cB) [] σ r σ' := by
  refine fw_start (Qc := (fun A => va_Qi (fun r' (_ : Unit) => r' = r) (fun _ t => va_P D vwCl (fw_ws 7 adr (fw_M cI cB adr σ')) t.heap) A)) (by decide) (by simp [lg_sl, Value.category]) rfl ?_
  intro p e s m below meth c A X hH ls hl
  have hx := X.1.1
  have hb := X.1.2.1
  have hl : lv_has ls 3 [(0, .int x0), (1, .int x1), (2, .int x2)] := hl
  unfold pX8_in at hf
  refine lv_iload_n hx hb dX8_in_0 rfl (lv_at hl 0 rfl) ?_
  refine lv_iload_n hx hb dX8_in_1 rfl (lv_at hl 1 rfl) ?_
  refine lv_icmp_lt (tgt := 14) hx hb dX8_in_2 (by decide) (fun hc => ?_) (fun hc => ?_)
  · have hf := fw_pos hc hf
    refine lv_iconst (v := (0 : Int32)) hx hb dX8_in_14 (by decide) ?_
    obtain ⟨rfl, rfl, hz⟩ := fw_rzs hf
    exact fw_retz X hH hz dX8_in_15
  · have hf := fw_neg hc hf
    refine lv_iload_n hx hb dX8_in_5 rfl (lv_at hl 0 rfl) ?_
    refine lv_iload_n hx hb dX8_in_6 rfl (lv_at hl 2 rfl) ?_
    refine lv_icmp_gt (tgt := 14) hx hb dX8_in_7 (by decide) (fun hc => ?_) (fun hc => ?_)
    · have hf := fw_pos hc hf
      refine lv_iconst (v := (0 : Int32)) hx hb dX8_in_14 (by decide) ?_
      obtain ⟨rfl, rfl, hz⟩ := fw_rzs hf
      exact fw_retz X hH hz dX8_in_15
    · have hf := fw_neg hc hf
      refine lv_iconst (v := (1 : Int32)) hx hb dX8_in_10 (by decide) ?_
      refine lv_goto (tgt := 15) hx hb dX8_in_11 (by decide) ?_
      obtain ⟨rfl, rfl, hz⟩ := fw_rzs hf
      exact fw_retz X hH hz dX8_in_15
abbrev rmX8_isDigitPair : Room := { frames := 1, cells := 0, slots := 0, locals := 22 }
theorem qX8_isDigitPair : fw_QS yX8_isDigitPair cX8_isDigitPair 2 (some .boolean) 2 := ⟨⟨tw_4_15, tw_1_10, tw_4_16⟩, by decide +kernel⟩
def pX8_isDigitPair (x0 : Int32) (x1 : Int32) (σ : fw_T) : Option (Int32 × fw_T) :=
  fw_b2 (pX8_in x0 (0 : Int32) (9 : Int32) σ) fun w3 τ2 =>
  if w3 = 0 then
    fw_rz (0 : Int32) τ2
  else
    fw_b2 (pX8_in x1 (0 : Int32) (9 : Int32) τ2) fun w6 τ5 =>
    if w6 = 0 then
      fw_rz (0 : Int32) τ5
    else
      fw_rz (1 : Int32) τ5
set_option maxRecDepth 100000 in
set_option maxHeartbeats 4000000 in
theorem kX8_isDigitPair {x0 : Int32} {x1 : Int32} {r : Int32} {σ σ' : fw_T} (hf : pX8_isDigitPair x0 x1 σ = some (r, σ')) : fw_Ci l yX8_isDigitPair (Cond.code yX8_isDigitPair cX8_isDigitPair 2 (some .boolean) :: lwT) rmX8_isDigitPair [.int x0, .int x1] D 7 adr (fw_M cI cB adr) (fmT cI cB) [] σ r σ' := by
  refine fw_start (Qc := (fun A => va_Qi (fun r' (_ : Unit) => r' = r) (fun _ t => va_P D vwCl (fw_ws 7 adr (fw_M cI cB adr σ')) t.heap) A)) (by decide) (by simp [lg_sl, Value.category]) rfl ?_
  intro p e s m below meth c A X hH ls hl
  have hx := X.1.1
  have hb := X.1.2.1
  have hl : lv_has ls 2 [(0, .int x0), (1, .int x1)] := hl
  unfold pX8_isDigitPair at hf
  refine lv_iload_n hx hb dX8_isDigitPair_0 rfl (lv_at hl 0 rfl) ?_
  refine lv_iconst (v := (0 : Int32)) hx hb dX8_isDigitPair_1 (by decide) ?_
  refine lv_bipush (v := (9 : Int32)) hx hb dX8_isDigitPair_2 (by decide) ?_
  obtain ⟨w3, τ2, g1, hf⟩ := fw_b2s hf
  refine fw_ci hH (fw_rS (As := [.int x0, .int (0 : Int32), .int (9 : Int32)]) (rest := []) X hH (kX8_in  g1 _) qX8_in tw_4_17 ⟨Nat.le_of_ble_eq_true rfl, Nat.le_of_ble_eq_true rfl⟩ rfl rfl rfl hl.1 rfl (Nat.le_of_ble_eq_true rfl) dX8_isDigitPair_4) (fun H locs hH => ?_)
  refine lv_if_eq (tgt := 24) hx hb dX8_isDigitPair_7 (by decide) (fun hc => ?_) (fun hc => ?_)
  · have hf := fw_pos hc hf
    refine lv_iconst (v := (0 : Int32)) hx hb dX8_isDigitPair_24 (by decide) ?_
    obtain ⟨rfl, rfl, hz⟩ := fw_rzs hf
    exact fw_retz X hH hz dX8_isDigitPair_25
  · have hf := fw_neg hc hf
    refine lv_iload_n hx hb dX8_isDigitPair_10 rfl (lv_at hl 1 rfl) ?_
    refine lv_iconst (v := (0 : Int32)) hx hb dX8_isDigitPair_11 (by decide) ?_
    refine lv_bipush (v := (9 : Int32)) hx hb dX8_isDigitPair_12 (by decide) ?_
    obtain ⟨w6, τ5, g4, hf⟩ := fw_b2s hf
    refine fw_ci hH (fw_rS (As := [.int x1, .int (0 : Int32), .int (9 : Int32)]) (rest := []) X hH (kX8_in  g4 _) qX8_in tw_4_17 ⟨Nat.le_of_ble_eq_true rfl, Nat.le_of_ble_eq_true rfl⟩ rfl rfl rfl hl.1 rfl (Nat.le_of_ble_eq_true rfl) dX8_isDigitPair_14) (fun H locs hH => ?_)
    refine lv_if_eq (tgt := 24) hx hb dX8_isDigitPair_17 (by decide) (fun hc => ?_) (fun hc => ?_)
    · have hf := fw_pos hc hf
      refine lv_iconst (v := (0 : Int32)) hx hb dX8_isDigitPair_24 (by decide) ?_
      obtain ⟨rfl, rfl, hz⟩ := fw_rzs hf
      exact fw_retz X hH hz dX8_isDigitPair_25
    · have hf := fw_neg hc hf
      refine lv_iconst (v := (1 : Int32)) hx hb dX8_isDigitPair_20 (by decide) ?_
      refine lv_goto (tgt := 25) hx hb dX8_isDigitPair_21 (by decide) ?_
      obtain ⟨rfl, rfl, hz⟩ := fw_rzs hf
      exact fw_retz X hH hz dX8_isDigitPair_25
abbrev rmX8_fail : Room := { frames := 0, cells := 0, slots := 0, locals := 0 }
theorem qX8_fail : fw_QV RX8 yX8_fail cX8_fail 2 (some .int) 1 := ⟨⟨tw_4_22, tv_X8_fail, tw_1_10, tw_4_23⟩, by decide +kernel⟩
def pX8_fail (x1 : Int32) (σ : fw_T) : Option (Int32 × fw_T) :=
  if (fw_g σ 0 5) = 0 then
    (fw_rd σ 4 3 ((-10002 : Int32) - x1)).bind fun w1 =>
    (fw_wr σ 4 3 ((-10002 : Int32) - x1) (w1 + (1 : Int32))).bind fun τ3 =>
    some (x1, τ3)
  else
    some (x1, σ)
set_option maxRecDepth 100000 in
set_option maxHeartbeats 4000000 in
theorem kX8_fail {x1 : Int32} {r : Int32} {σ σ' : fw_T} (hf : pX8_fail x1 σ = some (r, σ')) : fw_Ci l yX8_fail (Cond.code yX8_fail cX8_fail 2 (some .int) :: lwT) rmX8_fail [.ref (adr 0), .int x1] D 7 adr (fw_M cI cB adr) (fmT cI cB) [] σ r σ' := by
  refine fw_start (Qc := (fun A => va_Qi (fun r' (_ : Unit) => r' = r) (fun _ t => va_P D vwCl (fw_ws 7 adr (fw_M cI cB adr σ')) t.heap) A)) (by decide) (by simp [lg_sl, Value.category]) rfl ?_
  intro p e s m below meth c A X hH ls hl
  have hx := X.1.1
  have hb := X.1.2.1
  have hl : lv_has ls 2 [(0, .ref (adr 0)), (1, .int x1)] := hl
  unfold pX8_fail at hf
  refine lv_aload_n hx hb dX8_fail_0 rfl (lv_at hl 0 rfl) ?_
  refine fw_get (id := 0) (k := 5) (v := .int (fw_g σ 0 5)) X hH (by decide) rfl rfl inX8 (by decide) rfl tw_3_207 dX8_fail_1 ?_
  refine lv_if_ne (tgt := 21) hx hb dX8_fail_4 (by decide) (fun hc => ?_) (fun hc => ?_)
  · have hf := fw_neg hc hf
    refine lv_iload_n hx hb dX8_fail_21 rfl (lv_at hl 1 rfl) ?_
    obtain ⟨rfl, rfl⟩ := fw_s2 hf
    exact fw_reti X hH dX8_fail_22
  · have hf := fw_pos hc hf
    refine lv_aload_n hx hb dX8_fail_7 rfl (lv_at hl 0 rfl) ?_
    refine fw_get (id := 0) (k := 4) (v := .ref (adr 4)) X hH (by decide) rfl rfl inX8 (by decide) rfl tw_3_206 dX8_fail_8 ?_
    refine lv_sipush (v := (-10002 : Int32)) hx hb dX8_fail_11 (by decide) ?_
    refine lv_iload_n hx hb dX8_fail_14 rfl (lv_at hl 1 rfl) ?_
    refine lv_isub hx hb dX8_fail_15 ?_
    refine lv_dup2_11 hx hb dX8_fail_16 rfl rfl ?_
    obtain ⟨w1, g2, hf⟩ := fw_bd hf
    refine fw_iald (id := 4) (n := 3) X hH (by decide) rfl rfl g2 dX8_fail_17 ?_
    refine lv_iconst (v := (1 : Int32)) hx hb dX8_fail_18 (by decide) ?_
    refine lv_iadd hx hb dX8_fail_19 ?_
    obtain ⟨τ3, g4, hf⟩ := fw_bd hf
    refine fw_iast (id := 4) (n := 3) X hH (by decide) (fun σ => rfl) (fun k x j h => fm_ne h) rfl g4 dX8_fail_20 (fun H locs hH => ?_)
    refine lv_iload_n hx hb dX8_fail_21 rfl (lv_at hl 1 rfl) ?_
    obtain ⟨rfl, rfl⟩ := fw_s2 hf
    exact fw_reti X hH dX8_fail_22
abbrev rmX8_placeOf : Room := { frames := 0, cells := 0, slots := 0, locals := 0 }
theorem qX8_placeOf : fw_QV RX8 yX8_placeOf cX8_placeOf 4 (some .int) 2 := ⟨⟨tw_4_26, tv_X8_placeOf, tw_1_10, tw_4_27⟩, by decide +kernel⟩
def pX8_placeOf_2 : Nat → Int32 → Int32 → Int32 → fw_T → Option (Int32 × fw_T)
  | 0, _, _, _, _ => none
  | n + 1, x1, x2, x3, σ =>
    (fw_rd σ 1 52 x1).bind fun w1 =>
    if w1 ≤ x3 then
      some ((-10001 : Int32), σ)
    else
      (fw_rd σ 1 52 ((x1 + (1 : Int32)) + x3)).bind fun w3 =>
      if w3 = x2 then
        some (x3, σ)
      else
        pX8_placeOf_2 n x1 x2 (x3 + (1 : Int32)) σ
set_option maxRecDepth 100000 in
set_option maxHeartbeats 4000000 in
theorem wX8_placeOf_2 {args : Array Value} {r : Int32} {σ' : fw_T} (X : fmX p m c cX8_placeOf 4 s args RX8 meth (some .int) D cI cB)  : ∀ (n : Nat), ∀ (x1 : Int32), ∀ (x2 : Int32), ∀ (x3 : Int32), ∀ (σ : fw_T), pX8_placeOf_2 n x1 x2 x3 σ = some (r, σ') → ∀ (H : Heap) (locs : List Loc) (ls : Array Slot), fmH D cI cB adr A s H locs σ → lv_has ls 4 [(0, .ref (adr 0)), (1, .int x1), (2, .int x2), (3, .int x3)] → W p l e rmX8_placeOf s m args below meth c H locs 0 0 (fw_Qi D 7 adr (fw_M cI cB adr) A below args s r σ') (F0 m 2 ls []) := by
  have hx := X.1.1
  have hb := X.1.2.1
  intro n
  induction n with
  | zero =>
    intro x1 x2 x3 σ hf
    exact absurd hf (by simp [pX8_placeOf_2])
  | succ n ih =>
    intro x1 x2 x3 σ hf H locs ls hH hl
    rw [pX8_placeOf_2] at hf
    refine lv_iload_n hx hb dX8_placeOf_2 rfl (lv_at hl 3 rfl) ?_
    refine lv_aload_n hx hb dX8_placeOf_3 rfl (lv_at hl 0 rfl) ?_
    refine fw_get (id := 0) (k := 0) (v := .ref (adr 1)) X hH (by decide) rfl rfl inX8 (by decide) rfl tw_3_202 dX8_placeOf_4 ?_
    refine lv_iload_n hx hb dX8_placeOf_7 rfl (lv_at hl 1 rfl) ?_
    obtain ⟨w1, g2, hf⟩ := fw_bd hf
    refine fw_iald (id := 1) (n := 52) X hH (by decide) rfl rfl g2 dX8_placeOf_8 ?_
    refine lv_icmp_ge (tgt := 34) hx hb dX8_placeOf_9 (by decide) (fun hc => ?_) (fun hc => ?_)
    · have hf := fw_pos hc hf
      refine lv_sipush (v := (-10001 : Int32)) hx hb dX8_placeOf_34 (by decide) ?_
      obtain ⟨rfl, rfl⟩ := fw_s2 hf
      exact fw_reti X hH dX8_placeOf_37
    · have hf := fw_neg hc hf
      refine lv_aload_n hx hb dX8_placeOf_12 rfl (lv_at hl 0 rfl) ?_
      refine fw_get (id := 0) (k := 0) (v := .ref (adr 1)) X hH (by decide) rfl rfl inX8 (by decide) rfl tw_3_202 dX8_placeOf_13 ?_
      refine lv_iload_n hx hb dX8_placeOf_16 rfl (lv_at hl 1 rfl) ?_
      refine lv_iconst (v := (1 : Int32)) hx hb dX8_placeOf_17 (by decide) ?_
      refine lv_iadd hx hb dX8_placeOf_18 ?_
      refine lv_iload_n hx hb dX8_placeOf_19 rfl (lv_at hl 3 rfl) ?_
      refine lv_iadd hx hb dX8_placeOf_20 ?_
      obtain ⟨w3, g4, hf⟩ := fw_bd hf
      refine fw_iald (id := 1) (n := 52) X hH (by decide) rfl rfl g4 dX8_placeOf_21 ?_
      refine lv_iload_n hx hb dX8_placeOf_22 rfl (lv_at hl 2 rfl) ?_
      refine lv_icmp_ne (tgt := 28) hx hb dX8_placeOf_23 (by decide) (fun hc => ?_) (fun hc => ?_)
      · have hf := fw_neg hc hf
        refine lv_iinc (v := (x3 + (1 : Int32))) (lv' := [(3, .int (x3 + (1 : Int32))), (0, .ref (adr 0)), (1, .int x1), (2, .int x2)]) hx hb dX8_placeOf_28 hl (k := 3) rfl rfl (by decide) rfl (fun ls hl => ?_)
        refine lv_goto (tgt := 2) hx hb dX8_placeOf_31 (by decide) ?_
        exact ih x1 x2 (x3 + (1 : Int32)) σ hf _ _ _ hH (lv_sub hl [1, 2, 3, 0] rfl)
      · have hf := fw_pos hc hf
        refine lv_iload_n hx hb dX8_placeOf_26 rfl (lv_at hl 3 rfl) ?_
        obtain ⟨rfl, rfl⟩ := fw_s2 hf
        exact fw_reti X hH dX8_placeOf_27
def pX8_placeOf (x1 : Int32) (x2 : Int32) (σ : fw_T) : Option (Int32 × fw_T) :=
  pX8_placeOf_2 400 x1 x2 (0 : Int32) σ
set_option maxRecDepth 100000 in
set_option maxHeartbeats 4000000 in
theorem kX8_placeOf {x1 : Int32} {x2 : Int32} {r : Int32} {σ σ' : fw_T} (hf : pX8_placeOf x1 x2 σ = some (r, σ')) : fw_Ci l yX8_placeOf (Cond.code yX8_placeOf cX8_placeOf 4 (some .int) :: lwT) rmX8_placeOf [.ref (adr 0), .int x1, .int x2] D 7 adr (fw_M cI cB adr) (fmT cI cB) [] σ r σ' := by
  refine fw_start (Qc := (fun A => va_Qi (fun r' (_ : Unit) => r' = r) (fun _ t => va_P D vwCl (fw_ws 7 adr (fw_M cI cB adr σ')) t.heap) A)) (by decide) (by simp [lg_sl, Value.category]) rfl ?_
  intro p e s m below meth c A X hH ls hl
  have hx := X.1.1
  have hb := X.1.2.1
  have hl : lv_has ls 4 [(0, .ref (adr 0)), (1, .int x1), (2, .int x2)] := hl
  unfold pX8_placeOf at hf
  refine lv_iconst (v := (0 : Int32)) hx hb dX8_placeOf_0 (by decide) ?_
  refine lv_istore_n (lv' := [(3, .int (0 : Int32)), (0, .ref (adr 0)), (1, .int x1), (2, .int x2)]) hx hb dX8_placeOf_1 rfl hl (by decide) rfl (fun ls hl => ?_)
  exact wX8_placeOf_2 X 400 x1 x2 (0 : Int32) σ hf _ _ _ hH (lv_sub hl [1, 2, 3, 0] rfl)
abbrev rmX8_note : Room := { frames := 0, cells := 0, slots := 0, locals := 0 }
theorem qX8_note : fw_QV RX8 yX8_note cX8_note 2 none 0 := ⟨⟨tw_4_30, tv_X8_note, tw_1_10, tw_4_31⟩, by decide +kernel⟩
def pX8_note_58 : Nat → Int32 → fw_T → Option (fw_T)
  | 0, _, _ => none
  | n + 1, x1, σ =>
    if (52 : Int32) ≤ x1 then
      some (fw_u σ 0 3 ((fw_g σ 0 3) + (1 : Int32)))
    else
      (fw_rd σ 1 52 x1).bind fun w1 =>
      (fw_wr σ 3 260 (((52 : Int32) * (fw_g σ 0 3)) + x1) w1).bind fun τ3 =>
      pX8_note_58 n (x1 + (1 : Int32)) τ3
set_option maxRecDepth 100000 in
set_option maxHeartbeats 4000000 in
theorem wX8_note_58 {args : Array Value} {σ' : fw_T} (X : fmX p m c cX8_note 2 s args RX8 meth none D cI cB)  : ∀ (n : Nat), ∀ (x1 : Int32), ∀ (σ : fw_T), pX8_note_58 n x1 σ = some σ' → ∀ (H : Heap) (locs : List Loc) (ls : Array Slot), fmH D cI cB adr A s H locs σ → lv_has ls 2 [(0, .ref (adr 0)), (1, .int x1)] → W p l e rmX8_note s m args below meth c H locs 0 0 (fw_Qv D 7 adr (fw_M cI cB adr) A below args s σ') (F0 m 58 ls []) := by
  have hx := X.1.1
  have hb := X.1.2.1
  intro n
  induction n with
  | zero =>
    intro x1 σ hf
    exact absurd hf (by simp [pX8_note_58])
  | succ n ih =>
    intro x1 σ hf H locs ls hH hl
    rw [pX8_note_58] at hf
    refine lv_iload_n hx hb dX8_note_58 rfl (lv_at hl 1 rfl) ?_
    refine lv_bipush (v := (52 : Int32)) hx hb dX8_note_59 (by decide) ?_
    refine lv_icmp_ge (tgt := 90) hx hb dX8_note_61 (by decide) (fun hc => ?_) (fun hc => ?_)
    · have hf := fw_pos hc hf
      refine lv_aload_n hx hb dX8_note_90 rfl (lv_at hl 0 rfl) ?_
      refine lv_dup hx hb dX8_note_91 rfl ?_
      refine fw_get (id := 0) (k := 3) (v := .int (fw_g σ 0 3)) X hH (by decide) rfl rfl inX8 (by decide) rfl tw_3_205 dX8_note_92 ?_
      refine lv_iconst (v := (1 : Int32)) hx hb dX8_note_95 (by decide) ?_
      refine lv_iadd hx hb dX8_note_96 ?_
      refine fw_put (id := 0) (k := 3) (v := .int ((fw_g σ 0 3) + (1 : Int32))) (ty := .int) (σ' := (fw_u σ 0 3 ((fw_g σ 0 3) + (1 : Int32)))) X hH (by decide) rfl fpm_3 (fun j h => fm_ne h) rfl inX8 tyX8 tyX8_ok nmX8 (by decide) (Nat.le_of_ble_eq_true rfl) rfl (by decide +kernel) rfl rfl tw_3_205 dX8_note_97 (fun H locs hH => ?_)
      obtain rfl := Option.some.inj hf
      exact fw_retv X hH dX8_note_100
    · have hf := fw_neg hc hf
      refine lv_aload_n hx hb dX8_note_64 rfl (lv_at hl 0 rfl) ?_
      refine fw_get (id := 0) (k := 2) (v := .ref (adr 3)) X hH (by decide) rfl rfl inX8 (by decide) rfl tw_3_204 dX8_note_65 ?_
      refine lv_bipush (v := (52 : Int32)) hx hb dX8_note_68 (by decide) ?_
      refine lv_aload_n hx hb dX8_note_70 rfl (lv_at hl 0 rfl) ?_
      refine fw_get (id := 0) (k := 3) (v := .int (fw_g σ 0 3)) X hH (by decide) rfl rfl inX8 (by decide) rfl tw_3_205 dX8_note_71 ?_
      refine lv_imul hx hb dX8_note_74 ?_
      refine lv_iload_n hx hb dX8_note_75 rfl (lv_at hl 1 rfl) ?_
      refine lv_iadd hx hb dX8_note_76 ?_
      refine lv_aload_n hx hb dX8_note_77 rfl (lv_at hl 0 rfl) ?_
      refine fw_get (id := 0) (k := 0) (v := .ref (adr 1)) X hH (by decide) rfl rfl inX8 (by decide) rfl tw_3_202 dX8_note_78 ?_
      refine lv_iload_n hx hb dX8_note_81 rfl (lv_at hl 1 rfl) ?_
      obtain ⟨w1, g2, hf⟩ := fw_bd hf
      refine fw_iald (id := 1) (n := 52) X hH (by decide) rfl rfl g2 dX8_note_82 ?_
      obtain ⟨τ3, g4, hf⟩ := fw_bd hf
      refine fw_iast (id := 3) (n := 260) X hH (by decide) (fun σ => rfl) (fun k x j h => fm_ne h) rfl g4 dX8_note_83 (fun H locs hH => ?_)
      refine lv_iinc (v := (x1 + (1 : Int32))) (lv' := [(1, .int (x1 + (1 : Int32))), (0, .ref (adr 0))]) hx hb dX8_note_84 hl (k := 1) rfl rfl (by decide) rfl (fun ls hl => ?_)
      refine lv_goto (tgt := 58) hx hb dX8_note_87 (by decide) ?_
      exact ih (x1 + (1 : Int32)) τ3 hf _ _ _ hH (lv_sub hl [1, 0] rfl)
def pX8_note_18 : Nat → Int32 → fw_T → Option (fw_T)
  | 0, _, _ => none
  | n + 1, x1, σ =>
    if (208 : Int32) ≤ x1 then
      pX8_note_58 400 (0 : Int32) (fw_u σ 0 3 ((fw_g σ 0 3) - (1 : Int32)))
    else
      (fw_rd σ 3 260 (x1 + (52 : Int32))).bind fun w5 =>
      (fw_wr σ 3 260 x1 w5).bind fun τ7 =>
      pX8_note_18 n (x1 + (1 : Int32)) τ7
set_option maxRecDepth 100000 in
set_option maxHeartbeats 4000000 in
theorem wX8_note_18 {args : Array Value} {σ' : fw_T} (X : fmX p m c cX8_note 2 s args RX8 meth none D cI cB)  : ∀ (n : Nat), ∀ (x1 : Int32), ∀ (σ : fw_T), pX8_note_18 n x1 σ = some σ' → ∀ (H : Heap) (locs : List Loc) (ls : Array Slot), fmH D cI cB adr A s H locs σ → lv_has ls 2 [(0, .ref (adr 0)), (1, .int x1)] → W p l e rmX8_note s m args below meth c H locs 0 0 (fw_Qv D 7 adr (fw_M cI cB adr) A below args s σ') (F0 m 18 ls []) := by
  have hx := X.1.1
  have hb := X.1.2.1
  intro n
  induction n with
  | zero =>
    intro x1 σ hf
    exact absurd hf (by simp [pX8_note_18])
  | succ n ih =>
    intro x1 σ hf H locs ls hH hl
    rw [pX8_note_18] at hf
    refine lv_iload_n hx hb dX8_note_18 rfl (lv_at hl 1 rfl) ?_
    refine lv_sipush (v := (208 : Int32)) hx hb dX8_note_19 (by decide) ?_
    refine lv_icmp_ge (tgt := 46) hx hb dX8_note_22 (by decide) (fun hc => ?_) (fun hc => ?_)
    · have hf := fw_pos hc hf
      refine lv_aload_n hx hb dX8_note_46 rfl (lv_at hl 0 rfl) ?_
      refine lv_dup hx hb dX8_note_47 rfl ?_
      refine fw_get (id := 0) (k := 3) (v := .int (fw_g σ 0 3)) X hH (by decide) rfl rfl inX8 (by decide) rfl tw_3_205 dX8_note_48 ?_
      refine lv_iconst (v := (1 : Int32)) hx hb dX8_note_51 (by decide) ?_
      refine lv_isub hx hb dX8_note_52 ?_
      refine fw_put (id := 0) (k := 3) (v := .int ((fw_g σ 0 3) - (1 : Int32))) (ty := .int) (σ' := (fw_u σ 0 3 ((fw_g σ 0 3) - (1 : Int32)))) X hH (by decide) rfl fpm_3 (fun j h => fm_ne h) rfl inX8 tyX8 tyX8_ok nmX8 (by decide) (Nat.le_of_ble_eq_true rfl) rfl (by decide +kernel) rfl rfl tw_3_205 dX8_note_53 (fun H locs hH => ?_)
      refine lv_iconst (v := (0 : Int32)) hx hb dX8_note_56 (by decide) ?_
      refine lv_istore_n (lv' := [(1, .int (0 : Int32)), (0, .ref (adr 0))]) hx hb dX8_note_57 rfl hl (by decide) rfl (fun ls hl => ?_)
      exact wX8_note_58 X 400 (0 : Int32) (fw_u σ 0 3 ((fw_g σ 0 3) - (1 : Int32))) hf _ _ _ hH (lv_sub hl [1, 0] rfl)
    · have hf := fw_neg hc hf
      refine lv_aload_n hx hb dX8_note_25 rfl (lv_at hl 0 rfl) ?_
      refine fw_get (id := 0) (k := 2) (v := .ref (adr 3)) X hH (by decide) rfl rfl inX8 (by decide) rfl tw_3_204 dX8_note_26 ?_
      refine lv_iload_n hx hb dX8_note_29 rfl (lv_at hl 1 rfl) ?_
      refine lv_aload_n hx hb dX8_note_30 rfl (lv_at hl 0 rfl) ?_
      refine fw_get (id := 0) (k := 2) (v := .ref (adr 3)) X hH (by decide) rfl rfl inX8 (by decide) rfl tw_3_204 dX8_note_31 ?_
      refine lv_iload_n hx hb dX8_note_34 rfl (lv_at hl 1 rfl) ?_
      refine lv_bipush (v := (52 : Int32)) hx hb dX8_note_35 (by decide) ?_
      refine lv_iadd hx hb dX8_note_37 ?_
      obtain ⟨w5, g6, hf⟩ := fw_bd hf
      refine fw_iald (id := 3) (n := 260) X hH (by decide) rfl rfl g6 dX8_note_38 ?_
      obtain ⟨τ7, g8, hf⟩ := fw_bd hf
      refine fw_iast (id := 3) (n := 260) X hH (by decide) (fun σ => rfl) (fun k x j h => fm_ne h) rfl g8 dX8_note_39 (fun H locs hH => ?_)
      refine lv_iinc (v := (x1 + (1 : Int32))) (lv' := [(1, .int (x1 + (1 : Int32))), (0, .ref (adr 0))]) hx hb dX8_note_40 hl (k := 1) rfl rfl (by decide) rfl (fun ls hl => ?_)
      refine lv_goto (tgt := 18) hx hb dX8_note_43 (by decide) ?_
      exact ih (x1 + (1 : Int32)) τ7 hf _ _ _ hH (lv_sub hl [1, 0] rfl)
def pX8_note (σ : fw_T) : Option (fw_T) :=
  if (fw_g σ 0 5) = 0 then
    if (fw_g σ 0 3) = (5 : Int32) then
      pX8_note_18 400 (0 : Int32) σ
    else
      pX8_note_58 400 (0 : Int32) σ
  else
    some σ
set_option maxRecDepth 100000 in
set_option maxHeartbeats 4000000 in
theorem kX8_note {σ σ' : fw_T} (hf : pX8_note σ = some σ') : fw_Cv l yX8_note (Cond.code yX8_note cX8_note 2 none :: lwT) rmX8_note [.ref (adr 0)] D 7 adr (fw_M cI cB adr) (fmT cI cB) [] σ σ' := by
  refine fw_start (Qc := (fun A => va_Qv (fun (_ : Unit) => True) (fun _ t => va_P D vwCl (fw_ws 7 adr (fw_M cI cB adr σ')) t.heap) A)) (by decide) (by simp [lg_sl, Value.category]) rfl ?_
  intro p e s m below meth c A X hH ls hl
  have hx := X.1.1
  have hb := X.1.2.1
  have hl : lv_has ls 2 [(0, .ref (adr 0))] := hl
  unfold pX8_note at hf
  refine lv_aload_n hx hb dX8_note_0 rfl (lv_at hl 0 rfl) ?_
  refine fw_get (id := 0) (k := 5) (v := .int (fw_g σ 0 5)) X hH (by decide) rfl rfl inX8 (by decide) rfl tw_3_207 dX8_note_1 ?_
  refine lv_if_eq (tgt := 8) hx hb dX8_note_4 (by decide) (fun hc => ?_) (fun hc => ?_)
  · have hf := fw_pos hc hf
    refine lv_aload_n hx hb dX8_note_8 rfl (lv_at hl 0 rfl) ?_
    refine fw_get (id := 0) (k := 3) (v := .int (fw_g σ 0 3)) X hH (by decide) rfl rfl inX8 (by decide) rfl tw_3_205 dX8_note_9 ?_
    refine lv_iconst (v := (5 : Int32)) hx hb dX8_note_12 (by decide) ?_
    refine lv_icmp_ne (tgt := 56) hx hb dX8_note_13 (by decide) (fun hc => ?_) (fun hc => ?_)
    · have hf := fw_neg hc hf
      refine lv_iconst (v := (0 : Int32)) hx hb dX8_note_56 (by decide) ?_
      refine lv_istore_n (lv' := [(1, .int (0 : Int32)), (0, .ref (adr 0))]) hx hb dX8_note_57 rfl hl (by decide) rfl (fun ls hl => ?_)
      exact wX8_note_58 X 400 (0 : Int32) σ hf _ _ _ hH (lv_sub hl [1, 0] rfl)
    · have hf := fw_pos hc hf
      refine lv_iconst (v := (0 : Int32)) hx hb dX8_note_16 (by decide) ?_
      refine lv_istore_n (lv' := [(1, .int (0 : Int32)), (0, .ref (adr 0))]) hx hb dX8_note_17 rfl hl (by decide) rfl (fun ls hl => ?_)
      exact wX8_note_18 X 400 (0 : Int32) σ hf _ _ _ hH (lv_sub hl [1, 0] rfl)
  · have hf := fw_neg hc hf
    obtain rfl := Option.some.inj hf
    exact fw_retv X hH dX8_note_7
abbrev rmX8_putBehind : Room := { frames := 0, cells := 0, slots := 0, locals := 0 }
theorem qX8_putBehind : fw_QV RX8 yX8_putBehind cX8_putBehind 3 none 2 := ⟨⟨tw_4_34, tv_X8_putBehind, tw_1_10, tw_4_35⟩, by decide +kernel⟩
def pX8_putBehind (x1 : Int32) (x2 : Int32) (σ : fw_T) : Option (fw_T) :=
  (fw_rd σ 1 52 x1).bind fun w1 =>
  (fw_wr σ 1 52 ((x1 + (1 : Int32)) + w1) x2).bind fun τ3 =>
  (fw_rd τ3 1 52 x1).bind fun w5 =>
  (fw_wr τ3 1 52 x1 (w5 + (1 : Int32))).bind fun τ7 =>
  some τ7
set_option maxRecDepth 100000 in
set_option maxHeartbeats 4000000 in
theorem kX8_putBehind {x1 : Int32} {x2 : Int32} {σ σ' : fw_T} (hf : pX8_putBehind x1 x2 σ = some σ') : fw_Cv l yX8_putBehind (Cond.code yX8_putBehind cX8_putBehind 3 none :: lwT) rmX8_putBehind [.ref (adr 0), .int x1, .int x2] D 7 adr (fw_M cI cB adr) (fmT cI cB) [] σ σ' := by
  refine fw_start (Qc := (fun A => va_Qv (fun (_ : Unit) => True) (fun _ t => va_P D vwCl (fw_ws 7 adr (fw_M cI cB adr σ')) t.heap) A)) (by decide) (by simp [lg_sl, Value.category]) rfl ?_
  intro p e s m below meth c A X hH ls hl
  have hx := X.1.1
  have hb := X.1.2.1
  have hl : lv_has ls 3 [(0, .ref (adr 0)), (1, .int x1), (2, .int x2)] := hl
  unfold pX8_putBehind at hf
  refine lv_aload_n hx hb dX8_putBehind_0 rfl (lv_at hl 0 rfl) ?_
  refine fw_get (id := 0) (k := 0) (v := .ref (adr 1)) X hH (by decide) rfl rfl inX8 (by decide) rfl tw_3_202 dX8_putBehind_1 ?_
  refine lv_iload_n hx hb dX8_putBehind_4 rfl (lv_at hl 1 rfl) ?_
  refine lv_iconst (v := (1 : Int32)) hx hb dX8_putBehind_5 (by decide) ?_
  refine lv_iadd hx hb dX8_putBehind_6 ?_
  refine lv_aload_n hx hb dX8_putBehind_7 rfl (lv_at hl 0 rfl) ?_
  refine fw_get (id := 0) (k := 0) (v := .ref (adr 1)) X hH (by decide) rfl rfl inX8 (by decide) rfl tw_3_202 dX8_putBehind_8 ?_
  refine lv_iload_n hx hb dX8_putBehind_11 rfl (lv_at hl 1 rfl) ?_
  obtain ⟨w1, g2, hf⟩ := fw_bd hf
  refine fw_iald (id := 1) (n := 52) X hH (by decide) rfl rfl g2 dX8_putBehind_12 ?_
  refine lv_iadd hx hb dX8_putBehind_13 ?_
  refine lv_iload_n hx hb dX8_putBehind_14 rfl (lv_at hl 2 rfl) ?_
  obtain ⟨τ3, g4, hf⟩ := fw_bd hf
  refine fw_iast (id := 1) (n := 52) X hH (by decide) (fun σ => rfl) (fun k x j h => fm_ne h) rfl g4 dX8_putBehind_15 (fun H locs hH => ?_)
  refine lv_aload_n hx hb dX8_putBehind_16 rfl (lv_at hl 0 rfl) ?_
  refine fw_get (id := 0) (k := 0) (v := .ref (adr 1)) X hH (by decide) rfl rfl inX8 (by decide) rfl tw_3_202 dX8_putBehind_17 ?_
  refine lv_iload_n hx hb dX8_putBehind_20 rfl (lv_at hl 1 rfl) ?_
  refine lv_dup2_11 hx hb dX8_putBehind_21 rfl rfl ?_
  obtain ⟨w5, g6, hf⟩ := fw_bd hf
  refine fw_iald (id := 1) (n := 52) X hH (by decide) rfl rfl g6 dX8_putBehind_22 ?_
  refine lv_iconst (v := (1 : Int32)) hx hb dX8_putBehind_23 (by decide) ?_
  refine lv_iadd hx hb dX8_putBehind_24 ?_
  obtain ⟨τ7, g8, hf⟩ := fw_bd hf
  refine fw_iast (id := 1) (n := 52) X hH (by decide) (fun σ => rfl) (fun k x j h => fm_ne h) rfl g8 dX8_putBehind_25 (fun H locs hH => ?_)
  obtain rfl := Option.some.inj hf
  exact fw_retv X hH dX8_putBehind_26
abbrev rmX8_adds : Room := { frames := 2, cells := 0, slots := 0, locals := 43 }
theorem qX8_adds : fw_QV RX8 yX8_adds cX8_adds 4 (some .int) 3 := ⟨⟨tw_4_12, tv_X8_adds, tw_1_10, tw_4_13⟩, by decide +kernel⟩
def pX8_adds (x1 : Int32) (x2 : Int32) (x3 : Int32) (σ : fw_T) : Option (Int32 × fw_T) :=
  fw_b2 (pX8_isDigitPair x2 x3 σ) fun w3 τ2 =>
  if w3 = 0 then
    fw_b2 (pX8_fail (-10002 : Int32) τ2) fun w23 τ22 =>
    some (w23, τ22)
  else
    fw_b2 (pX8_placeOf x1 (((10 : Int32) * x2) + x3) τ2) fun w6 τ5 =>
    if w6 = (-10001 : Int32) then
      (fw_rd τ5 1 52 x1).bind fun w7 =>
      if w7 = (10 : Int32) then
        fw_b2 (pX8_fail (-10004 : Int32) τ5) fun w17 τ16 =>
        some (w17, τ16)
      else
        (pX8_note τ5).bind fun τ10 =>
        (pX8_putBehind x1 (((10 : Int32) * x2) + x3) τ10).bind fun τ12 =>
        (fw_rd τ12 1 52 x1).bind fun w13 =>
        some (w13, τ12)
    else
      fw_b2 (pX8_fail (-10003 : Int32) τ5) fun w20 τ19 =>
      some (w20, τ19)
set_option maxRecDepth 100000 in
set_option maxHeartbeats 4000000 in
theorem kX8_adds {x1 : Int32} {x2 : Int32} {x3 : Int32} {r : Int32} {σ σ' : fw_T} (hf : pX8_adds x1 x2 x3 σ = some (r, σ')) : fw_Ci l yX8_adds (Cond.code yX8_adds cX8_adds 4 (some .int) :: lwT) rmX8_adds [.ref (adr 0), .int x1, .int x2, .int x3] D 7 adr (fw_M cI cB adr) (fmT cI cB) [] σ r σ' := by
  refine fw_start (Qc := (fun A => va_Qi (fun r' (_ : Unit) => r' = r) (fun _ t => va_P D vwCl (fw_ws 7 adr (fw_M cI cB adr σ')) t.heap) A)) (by decide) (by simp [lg_sl, Value.category]) rfl ?_
  intro p e s m below meth c A X hH ls hl
  have hx := X.1.1
  have hb := X.1.2.1
  have hl : lv_has ls 4 [(0, .ref (adr 0)), (1, .int x1), (2, .int x2), (3, .int x3)] := hl
  unfold pX8_adds at hf
  refine lv_iload_n hx hb dX8_adds_0 rfl (lv_at hl 2 rfl) ?_
  refine lv_iload_n hx hb dX8_adds_1 rfl (lv_at hl 3 rfl) ?_
  obtain ⟨w3, τ2, g1, hf⟩ := fw_b2s hf
  refine fw_ci hH (fw_rS (As := [.int x2, .int x3]) (rest := []) X hH (kX8_isDigitPair  g1 _) qX8_isDigitPair tw_4_14 ⟨Nat.le_of_ble_eq_true rfl, Nat.le_of_ble_eq_true rfl⟩ rfl rfl rfl hl.1 rfl (Nat.le_of_ble_eq_true rfl) dX8_adds_2) (fun H locs hH => ?_)
  refine lv_if_ne (tgt := 16) hx hb dX8_adds_5 (by decide) (fun hc => ?_) (fun hc => ?_)
  · have hf := fw_neg hc hf
    refine lv_aload_n hx hb dX8_adds_16 rfl (lv_at hl 0 rfl) ?_
    refine lv_iload_n hx hb dX8_adds_17 rfl (lv_at hl 1 rfl) ?_
    refine lv_bipush (v := (10 : Int32)) hx hb dX8_adds_18 (by decide) ?_
    refine lv_iload_n hx hb dX8_adds_20 rfl (lv_at hl 2 rfl) ?_
    refine lv_imul hx hb dX8_adds_21 ?_
    refine lv_iload_n hx hb dX8_adds_22 rfl (lv_at hl 3 rfl) ?_
    refine lv_iadd hx hb dX8_adds_23 ?_
    obtain ⟨w6, τ5, g4, hf⟩ := fw_b2s hf
    refine fw_ci hH (fw_rV (As := [.int x1, .int (((10 : Int32) * x2) + x3)]) (rest := []) (id := 0) X hH (kX8_placeOf  g4 _) qX8_placeOf tw_4_24 ⟨Nat.le_of_ble_eq_true rfl, Nat.le_of_ble_eq_true rfl⟩ rfl rfl (by decide) rfl rfl rfl hl.1 rfl (Nat.le_of_ble_eq_true rfl) dX8_adds_24) (fun H locs hH => ?_)
    refine lv_sipush (v := (-10001 : Int32)) hx hb dX8_adds_27 (by decide) ?_
    refine lv_icmp_eq (tgt := 41) hx hb dX8_adds_30 (by decide) (fun hc => ?_) (fun hc => ?_)
    · have hf := fw_pos hc hf
      refine lv_aload_n hx hb dX8_adds_41 rfl (lv_at hl 0 rfl) ?_
      refine fw_get (id := 0) (k := 0) (v := .ref (adr 1)) X hH (by decide) rfl rfl inX8 (by decide) rfl tw_3_202 dX8_adds_42 ?_
      refine lv_iload_n hx hb dX8_adds_45 rfl (lv_at hl 1 rfl) ?_
      obtain ⟨w7, g8, hf⟩ := fw_bd hf
      refine fw_iald (id := 1) (n := 52) X hH (by decide) rfl rfl g8 dX8_adds_46 ?_
      refine lv_bipush (v := (10 : Int32)) hx hb dX8_adds_47 (by decide) ?_
      refine lv_icmp_ne (tgt := 60) hx hb dX8_adds_49 (by decide) (fun hc => ?_) (fun hc => ?_)
      · have hf := fw_neg hc hf
        refine lv_aload_n hx hb dX8_adds_60 rfl (lv_at hl 0 rfl) ?_
        obtain ⟨τ10, g9, hf⟩ := fw_bd hf
        refine fw_cv hH (fw_rV (As := []) (rest := []) (id := 0) X hH (kX8_note  g9 _) qX8_note tw_4_28 ⟨Nat.le_of_ble_eq_true rfl, Nat.le_of_ble_eq_true rfl⟩ rfl rfl (by decide) rfl rfl rfl hl.1 rfl (Nat.le_of_ble_eq_true rfl) dX8_adds_61) (fun H locs hH => ?_)
        refine lv_aload_n hx hb dX8_adds_64 rfl (lv_at hl 0 rfl) ?_
        refine lv_iload_n hx hb dX8_adds_65 rfl (lv_at hl 1 rfl) ?_
        refine lv_bipush (v := (10 : Int32)) hx hb dX8_adds_66 (by decide) ?_
        refine lv_iload_n hx hb dX8_adds_68 rfl (lv_at hl 2 rfl) ?_
        refine lv_imul hx hb dX8_adds_69 ?_
        refine lv_iload_n hx hb dX8_adds_70 rfl (lv_at hl 3 rfl) ?_
        refine lv_iadd hx hb dX8_adds_71 ?_
        obtain ⟨τ12, g11, hf⟩ := fw_bd hf
        refine fw_cv hH (fw_rV (As := [.int x1, .int (((10 : Int32) * x2) + x3)]) (rest := []) (id := 0) X hH (kX8_putBehind  g11 _) qX8_putBehind tw_4_32 ⟨Nat.le_of_ble_eq_true rfl, Nat.le_of_ble_eq_true rfl⟩ rfl rfl (by decide) rfl rfl rfl hl.1 rfl (Nat.le_of_ble_eq_true rfl) dX8_adds_72) (fun H locs hH => ?_)
        refine lv_aload_n hx hb dX8_adds_75 rfl (lv_at hl 0 rfl) ?_
        refine fw_get (id := 0) (k := 0) (v := .ref (adr 1)) X hH (by decide) rfl rfl inX8 (by decide) rfl tw_3_202 dX8_adds_76 ?_
        refine lv_iload_n hx hb dX8_adds_79 rfl (lv_at hl 1 rfl) ?_
        obtain ⟨w13, g14, hf⟩ := fw_bd hf
        refine fw_iald (id := 1) (n := 52) X hH (by decide) rfl rfl g14 dX8_adds_80 ?_
        obtain ⟨rfl, rfl⟩ := fw_s2 hf
        exact fw_reti X hH dX8_adds_81
      · have hf := fw_pos hc hf
        refine lv_aload_n hx hb dX8_adds_52 rfl (lv_at hl 0 rfl) ?_
        refine lv_sipush (v := (-10004 : Int32)) hx hb dX8_adds_53 (by decide) ?_
        obtain ⟨w17, τ16, g15, hf⟩ := fw_b2s hf
        refine fw_ci hH (fw_rV (As := [.int (-10004 : Int32)]) (rest := []) (id := 0) X hH (kX8_fail  g15 _) qX8_fail tw_4_20 ⟨Nat.le_of_ble_eq_true rfl, Nat.le_of_ble_eq_true rfl⟩ rfl rfl (by decide) rfl rfl rfl hl.1 rfl (Nat.le_of_ble_eq_true rfl) dX8_adds_56) (fun H locs hH => ?_)
        obtain ⟨rfl, rfl⟩ := fw_s2 hf
        exact fw_reti X hH dX8_adds_59
    · have hf := fw_neg hc hf
      refine lv_aload_n hx hb dX8_adds_33 rfl (lv_at hl 0 rfl) ?_
      refine lv_sipush (v := (-10003 : Int32)) hx hb dX8_adds_34 (by decide) ?_
      obtain ⟨w20, τ19, g18, hf⟩ := fw_b2s hf
      refine fw_ci hH (fw_rV (As := [.int (-10003 : Int32)]) (rest := []) (id := 0) X hH (kX8_fail  g18 _) qX8_fail tw_4_20 ⟨Nat.le_of_ble_eq_true rfl, Nat.le_of_ble_eq_true rfl⟩ rfl rfl (by decide) rfl rfl rfl hl.1 rfl (Nat.le_of_ble_eq_true rfl) dX8_adds_37) (fun H locs hH => ?_)
      obtain ⟨rfl, rfl⟩ := fw_s2 hf
      exact fw_reti X hH dX8_adds_40
  · have hf := fw_pos hc hf
    refine lv_aload_n hx hb dX8_adds_8 rfl (lv_at hl 0 rfl) ?_
    refine lv_sipush (v := (-10002 : Int32)) hx hb dX8_adds_9 (by decide) ?_
    obtain ⟨w23, τ22, g21, hf⟩ := fw_b2s hf
    refine fw_ci hH (fw_rV (As := [.int (-10002 : Int32)]) (rest := []) (id := 0) X hH (kX8_fail  g21 _) qX8_fail tw_4_20 ⟨Nat.le_of_ble_eq_true rfl, Nat.le_of_ble_eq_true rfl⟩ rfl rfl (by decide) rfl rfl rfl hl.1 rfl (Nat.le_of_ble_eq_true rfl) dX8_adds_12) (fun H locs hH => ?_)
    obtain ⟨rfl, rfl⟩ := fw_s2 hf
    exact fw_reti X hH dX8_adds_15
abbrev rmX8_addLeft : Room := { frames := 3, cells := 0, slots := 0, locals := 66 }
theorem qX8_addLeft : fw_QV RX8 yX8_addLeft cX8_addLeft 3 (some .int) 2 := ⟨⟨tw_4_7, tw_4_8, tw_1_10, tw_4_9⟩, by decide +kernel⟩
def pX8_addLeft (x1 : Int32) (x2 : Int32) (σ : fw_T) : Option (Int32 × fw_T) :=
  fw_b2 (pX8_adds (0 : Int32) x1 x2 σ) fun w3 τ2 =>
  some (w3, τ2)
set_option maxRecDepth 100000 in
set_option maxHeartbeats 4000000 in
theorem kX8_addLeft {x1 : Int32} {x2 : Int32} {r : Int32} {σ σ' : fw_T} (hf : pX8_addLeft x1 x2 σ = some (r, σ')) : fw_Ci l yX8_addLeft (Cond.code yX8_addLeft cX8_addLeft 3 (some .int) :: lwT) rmX8_addLeft [.ref (adr 0), .int x1, .int x2] D 7 adr (fw_M cI cB adr) (fmT cI cB) [] σ r σ' := by
  refine fw_start (Qc := (fun A => va_Qi (fun r' (_ : Unit) => r' = r) (fun _ t => va_P D vwCl (fw_ws 7 adr (fw_M cI cB adr σ')) t.heap) A)) (by decide) (by simp [lg_sl, Value.category]) rfl ?_
  intro p e s m below meth c A X hH ls hl
  have hx := X.1.1
  have hb := X.1.2.1
  have hl : lv_has ls 3 [(0, .ref (adr 0)), (1, .int x1), (2, .int x2)] := hl
  unfold pX8_addLeft at hf
  refine lv_aload_n hx hb dX8_addLeft_0 rfl (lv_at hl 0 rfl) ?_
  refine lv_iconst (v := (0 : Int32)) hx hb dX8_addLeft_1 (by decide) ?_
  refine lv_iload_n hx hb dX8_addLeft_2 rfl (lv_at hl 1 rfl) ?_
  refine lv_iload_n hx hb dX8_addLeft_3 rfl (lv_at hl 2 rfl) ?_
  obtain ⟨w3, τ2, g1, hf⟩ := fw_b2s hf
  refine fw_ci hH (fw_rV (As := [.int (0 : Int32), .int x1, .int x2]) (rest := []) (id := 0) X hH (kX8_adds  g1 _) qX8_adds tw_4_10 ⟨Nat.le_of_ble_eq_true rfl, Nat.le_of_ble_eq_true rfl⟩ rfl rfl (by decide) rfl rfl rfl hl.1 rfl (Nat.le_of_ble_eq_true rfl) dX8_addLeft_4) (fun H locs hH => ?_)
  obtain ⟨rfl, rfl⟩ := fw_s2 hf
  exact fw_reti X hH dX8_addLeft_7
abbrev rmX8_addRight : Room := { frames := 3, cells := 0, slots := 0, locals := 66 }
theorem qX8_addRight : fw_QV RX8 yX8_addRight cX8_addRight 3 (some .int) 2 := ⟨⟨tw_4_37, tw_4_38, tw_1_10, tw_4_39⟩, by decide +kernel⟩
def pX8_addRight (x1 : Int32) (x2 : Int32) (σ : fw_T) : Option (Int32 × fw_T) :=
  fw_b2 (pX8_adds (11 : Int32) x1 x2 σ) fun w3 τ2 =>
  some (w3, τ2)
set_option maxRecDepth 100000 in
set_option maxHeartbeats 4000000 in
theorem kX8_addRight {x1 : Int32} {x2 : Int32} {r : Int32} {σ σ' : fw_T} (hf : pX8_addRight x1 x2 σ = some (r, σ')) : fw_Ci l yX8_addRight (Cond.code yX8_addRight cX8_addRight 3 (some .int) :: lwT) rmX8_addRight [.ref (adr 0), .int x1, .int x2] D 7 adr (fw_M cI cB adr) (fmT cI cB) [] σ r σ' := by
  refine fw_start (Qc := (fun A => va_Qi (fun r' (_ : Unit) => r' = r) (fun _ t => va_P D vwCl (fw_ws 7 adr (fw_M cI cB adr σ')) t.heap) A)) (by decide) (by simp [lg_sl, Value.category]) rfl ?_
  intro p e s m below meth c A X hH ls hl
  have hx := X.1.1
  have hb := X.1.2.1
  have hl : lv_has ls 3 [(0, .ref (adr 0)), (1, .int x1), (2, .int x2)] := hl
  unfold pX8_addRight at hf
  refine lv_aload_n hx hb dX8_addRight_0 rfl (lv_at hl 0 rfl) ?_
  refine lv_bipush (v := (11 : Int32)) hx hb dX8_addRight_1 (by decide) ?_
  refine lv_iload_n hx hb dX8_addRight_3 rfl (lv_at hl 1 rfl) ?_
  refine lv_iload_n hx hb dX8_addRight_4 rfl (lv_at hl 2 rfl) ?_
  obtain ⟨w3, τ2, g1, hf⟩ := fw_b2s hf
  refine fw_ci hH (fw_rV (As := [.int (11 : Int32), .int x1, .int x2]) (rest := []) (id := 0) X hH (kX8_adds  g1 _) qX8_adds tw_4_10 ⟨Nat.le_of_ble_eq_true rfl, Nat.le_of_ble_eq_true rfl⟩ rfl rfl (by decide) rfl rfl rfl hl.1 rfl (Nat.le_of_ble_eq_true rfl) dX8_addRight_5) (fun H locs hH => ?_)
  obtain ⟨rfl, rfl⟩ := fw_s2 hf
  exact fw_reti X hH dX8_addRight_8
abbrev rmX8_removes : Room := { frames := 1, cells := 0, slots := 0, locals := 22 }
theorem qX8_removes : fw_QV RX8 yX8_removes cX8_removes 4 (some .int) 2 := ⟨⟨tw_4_46, tv_X8_removes, tw_1_10, tw_4_47⟩, by decide +kernel⟩
def pX8_removes_30 : Nat → Int32 → Int32 → fw_T → Option (Int32 × fw_T)
  | 0, _, _, _ => none
  | n + 1, x1, x3, σ =>
    (fw_rd σ 1 52 x1).bind fun w8 =>
    if w8 ≤ (x3 + (1 : Int32)) then
      (fw_rd σ 1 52 x1).bind fun w10 =>
      (fw_wr σ 1 52 x1 (w10 - (1 : Int32))).bind fun τ12 =>
      (fw_rd τ12 1 52 x1).bind fun w14 =>
      some (w14, τ12)
    else
      (fw_rd σ 1 52 ((x1 + (2 : Int32)) + x3)).bind fun w16 =>
      (fw_wr σ 1 52 ((x1 + (1 : Int32)) + x3) w16).bind fun τ18 =>
      pX8_removes_30 n x1 (x3 + (1 : Int32)) τ18
set_option maxRecDepth 100000 in
set_option maxHeartbeats 4000000 in
theorem wX8_removes_30 {args : Array Value} {r : Int32} {σ' : fw_T} (X : fmX p m c cX8_removes 4 s args RX8 meth (some .int) D cI cB)  : ∀ (n : Nat), ∀ (x1 : Int32), ∀ (x3 : Int32), ∀ (σ : fw_T), pX8_removes_30 n x1 x3 σ = some (r, σ') → ∀ (H : Heap) (locs : List Loc) (ls : Array Slot), fmH D cI cB adr A s H locs σ → lv_has ls 4 [(0, .ref (adr 0)), (1, .int x1), (3, .int x3)] → W p l e rmX8_removes s m args below meth c H locs 0 0 (fw_Qi D 7 adr (fw_M cI cB adr) A below args s r σ') (F0 m 30 ls []) := by
  have hx := X.1.1
  have hb := X.1.2.1
  intro n
  induction n with
  | zero =>
    intro x1 x3 σ hf
    exact absurd hf (by simp [pX8_removes_30])
  | succ n ih =>
    intro x1 x3 σ hf H locs ls hH hl
    rw [pX8_removes_30] at hf
    refine lv_iload_n hx hb dX8_removes_30 rfl (lv_at hl 2 rfl) ?_
    refine lv_iconst (v := (1 : Int32)) hx hb dX8_removes_31 (by decide) ?_
    refine lv_iadd hx hb dX8_removes_32 ?_
    refine lv_aload_n hx hb dX8_removes_33 rfl (lv_at hl 0 rfl) ?_
    refine fw_get (id := 0) (k := 0) (v := .ref (adr 1)) X hH (by decide) rfl rfl inX8 (by decide) rfl tw_3_202 dX8_removes_34 ?_
    refine lv_iload_n hx hb dX8_removes_37 rfl (lv_at hl 1 rfl) ?_
    obtain ⟨w8, g9, hf⟩ := fw_bd hf
    refine fw_iald (id := 1) (n := 52) X hH (by decide) rfl rfl g9 dX8_removes_38 ?_
    refine lv_icmp_ge (tgt := 68) hx hb dX8_removes_39 (by decide) (fun hc => ?_) (fun hc => ?_)
    · have hf := fw_pos hc hf
      refine lv_aload_n hx hb dX8_removes_68 rfl (lv_at hl 0 rfl) ?_
      refine fw_get (id := 0) (k := 0) (v := .ref (adr 1)) X hH (by decide) rfl rfl inX8 (by decide) rfl tw_3_202 dX8_removes_69 ?_
      refine lv_iload_n hx hb dX8_removes_72 rfl (lv_at hl 1 rfl) ?_
      refine lv_dup2_11 hx hb dX8_removes_73 rfl rfl ?_
      obtain ⟨w10, g11, hf⟩ := fw_bd hf
      refine fw_iald (id := 1) (n := 52) X hH (by decide) rfl rfl g11 dX8_removes_74 ?_
      refine lv_iconst (v := (1 : Int32)) hx hb dX8_removes_75 (by decide) ?_
      refine lv_isub hx hb dX8_removes_76 ?_
      obtain ⟨τ12, g13, hf⟩ := fw_bd hf
      refine fw_iast (id := 1) (n := 52) X hH (by decide) (fun σ => rfl) (fun k x j h => fm_ne h) rfl g13 dX8_removes_77 (fun H locs hH => ?_)
      refine lv_aload_n hx hb dX8_removes_78 rfl (lv_at hl 0 rfl) ?_
      refine fw_get (id := 0) (k := 0) (v := .ref (adr 1)) X hH (by decide) rfl rfl inX8 (by decide) rfl tw_3_202 dX8_removes_79 ?_
      refine lv_iload_n hx hb dX8_removes_82 rfl (lv_at hl 1 rfl) ?_
      obtain ⟨w14, g15, hf⟩ := fw_bd hf
      refine fw_iald (id := 1) (n := 52) X hH (by decide) rfl rfl g15 dX8_removes_83 ?_
      obtain ⟨rfl, rfl⟩ := fw_s2 hf
      exact fw_reti X hH dX8_removes_84
    · have hf := fw_neg hc hf
      refine lv_aload_n hx hb dX8_removes_42 rfl (lv_at hl 0 rfl) ?_
      refine fw_get (id := 0) (k := 0) (v := .ref (adr 1)) X hH (by decide) rfl rfl inX8 (by decide) rfl tw_3_202 dX8_removes_43 ?_
      refine lv_iload_n hx hb dX8_removes_46 rfl (lv_at hl 1 rfl) ?_
      refine lv_iconst (v := (1 : Int32)) hx hb dX8_removes_47 (by decide) ?_
      refine lv_iadd hx hb dX8_removes_48 ?_
      refine lv_iload_n hx hb dX8_removes_49 rfl (lv_at hl 2 rfl) ?_
      refine lv_iadd hx hb dX8_removes_50 ?_
      refine lv_aload_n hx hb dX8_removes_51 rfl (lv_at hl 0 rfl) ?_
      refine fw_get (id := 0) (k := 0) (v := .ref (adr 1)) X hH (by decide) rfl rfl inX8 (by decide) rfl tw_3_202 dX8_removes_52 ?_
      refine lv_iload_n hx hb dX8_removes_55 rfl (lv_at hl 1 rfl) ?_
      refine lv_iconst (v := (2 : Int32)) hx hb dX8_removes_56 (by decide) ?_
      refine lv_iadd hx hb dX8_removes_57 ?_
      refine lv_iload_n hx hb dX8_removes_58 rfl (lv_at hl 2 rfl) ?_
      refine lv_iadd hx hb dX8_removes_59 ?_
      obtain ⟨w16, g17, hf⟩ := fw_bd hf
      refine fw_iald (id := 1) (n := 52) X hH (by decide) rfl rfl g17 dX8_removes_60 ?_
      obtain ⟨τ18, g19, hf⟩ := fw_bd hf
      refine fw_iast (id := 1) (n := 52) X hH (by decide) (fun σ => rfl) (fun k x j h => fm_ne h) rfl g19 dX8_removes_61 (fun H locs hH => ?_)
      refine lv_iinc (v := (x3 + (1 : Int32))) (lv' := [(3, .int (x3 + (1 : Int32))), (0, .ref (adr 0)), (1, .int x1)]) hx hb dX8_removes_62 hl (k := 2) rfl rfl (by decide) rfl (fun ls hl => ?_)
      refine lv_goto (tgt := 30) hx hb dX8_removes_65 (by decide) ?_
      exact ih x1 (x3 + (1 : Int32)) τ18 hf _ _ _ hH (lv_sub hl [1, 2, 0] rfl)
def pX8_removes (x1 : Int32) (x2 : Int32) (σ : fw_T) : Option (Int32 × fw_T) :=
  (fw_rd σ 1 52 x1).bind fun w1 =>
  fw_b2 (pX8_in x2 (0 : Int32) (w1 - (1 : Int32)) σ) fun w5 τ4 =>
  if w5 = 0 then
    fw_b2 (pX8_fail (-10002 : Int32) τ4) fun w22 τ21 =>
    some (w22, τ21)
  else
    (pX8_note τ4).bind fun τ7 =>
    pX8_removes_30 400 x1 x2 τ7
set_option maxRecDepth 100000 in
set_option maxHeartbeats 4000000 in
theorem kX8_removes {x1 : Int32} {x2 : Int32} {r : Int32} {σ σ' : fw_T} (hf : pX8_removes x1 x2 σ = some (r, σ')) : fw_Ci l yX8_removes (Cond.code yX8_removes cX8_removes 4 (some .int) :: lwT) rmX8_removes [.ref (adr 0), .int x1, .int x2] D 7 adr (fw_M cI cB adr) (fmT cI cB) [] σ r σ' := by
  refine fw_start (Qc := (fun A => va_Qi (fun r' (_ : Unit) => r' = r) (fun _ t => va_P D vwCl (fw_ws 7 adr (fw_M cI cB adr σ')) t.heap) A)) (by decide) (by simp [lg_sl, Value.category]) rfl ?_
  intro p e s m below meth c A X hH ls hl
  have hx := X.1.1
  have hb := X.1.2.1
  have hl : lv_has ls 4 [(0, .ref (adr 0)), (1, .int x1), (2, .int x2)] := hl
  unfold pX8_removes at hf
  refine lv_iload_n hx hb dX8_removes_0 rfl (lv_at hl 2 rfl) ?_
  refine lv_iconst (v := (0 : Int32)) hx hb dX8_removes_1 (by decide) ?_
  refine lv_aload_n hx hb dX8_removes_2 rfl (lv_at hl 0 rfl) ?_
  refine fw_get (id := 0) (k := 0) (v := .ref (adr 1)) X hH (by decide) rfl rfl inX8 (by decide) rfl tw_3_202 dX8_removes_3 ?_
  refine lv_iload_n hx hb dX8_removes_6 rfl (lv_at hl 1 rfl) ?_
  obtain ⟨w1, g2, hf⟩ := fw_bd hf
  refine fw_iald (id := 1) (n := 52) X hH (by decide) rfl rfl g2 dX8_removes_7 ?_
  refine lv_iconst (v := (1 : Int32)) hx hb dX8_removes_8 (by decide) ?_
  refine lv_isub hx hb dX8_removes_9 ?_
  obtain ⟨w5, τ4, g3, hf⟩ := fw_b2s hf
  refine fw_ci hH (fw_rS (As := [.int x2, .int (0 : Int32), .int (w1 - (1 : Int32))]) (rest := []) X hH (kX8_in  g3 _) qX8_in tw_4_17 ⟨Nat.le_of_ble_eq_true rfl, Nat.le_of_ble_eq_true rfl⟩ rfl rfl rfl hl.1 rfl (Nat.le_of_ble_eq_true rfl) dX8_removes_10) (fun H locs hH => ?_)
  refine lv_if_ne (tgt := 24) hx hb dX8_removes_13 (by decide) (fun hc => ?_) (fun hc => ?_)
  · have hf := fw_neg hc hf
    refine lv_aload_n hx hb dX8_removes_24 rfl (lv_at hl 0 rfl) ?_
    obtain ⟨τ7, g6, hf⟩ := fw_bd hf
    refine fw_cv hH (fw_rV (As := []) (rest := []) (id := 0) X hH (kX8_note  g6 _) qX8_note tw_4_28 ⟨Nat.le_of_ble_eq_true rfl, Nat.le_of_ble_eq_true rfl⟩ rfl rfl (by decide) rfl rfl rfl hl.1 rfl (Nat.le_of_ble_eq_true rfl) dX8_removes_25) (fun H locs hH => ?_)
    refine lv_iload_n hx hb dX8_removes_28 rfl (lv_at hl 2 rfl) ?_
    refine lv_istore_n (lv' := [(3, .int x2), (0, .ref (adr 0)), (1, .int x1), (2, .int x2)]) hx hb dX8_removes_29 rfl hl (by decide) rfl (fun ls hl => ?_)
    exact wX8_removes_30 X 400 x1 x2 τ7 hf _ _ _ hH (lv_sub hl [1, 2, 0] rfl)
  · have hf := fw_pos hc hf
    refine lv_aload_n hx hb dX8_removes_16 rfl (lv_at hl 0 rfl) ?_
    refine lv_sipush (v := (-10002 : Int32)) hx hb dX8_removes_17 (by decide) ?_
    obtain ⟨w22, τ21, g20, hf⟩ := fw_b2s hf
    refine fw_ci hH (fw_rV (As := [.int (-10002 : Int32)]) (rest := []) (id := 0) X hH (kX8_fail  g20 _) qX8_fail tw_4_20 ⟨Nat.le_of_ble_eq_true rfl, Nat.le_of_ble_eq_true rfl⟩ rfl rfl (by decide) rfl rfl rfl hl.1 rfl (Nat.le_of_ble_eq_true rfl) dX8_removes_20) (fun H locs hH => ?_)
    obtain ⟨rfl, rfl⟩ := fw_s2 hf
    exact fw_reti X hH dX8_removes_23
abbrev rmX8_removeLeft : Room := { frames := 2, cells := 0, slots := 0, locals := 45 }
theorem qX8_removeLeft : fw_QV RX8 yX8_removeLeft cX8_removeLeft 2 (some .int) 1 := ⟨⟨tw_4_41, tw_4_42, tw_1_10, tw_4_43⟩, by decide +kernel⟩
def pX8_removeLeft (x1 : Int32) (σ : fw_T) : Option (Int32 × fw_T) :=
  fw_b2 (pX8_removes (0 : Int32) x1 σ) fun w3 τ2 =>
  some (w3, τ2)
set_option maxRecDepth 100000 in
set_option maxHeartbeats 4000000 in
theorem kX8_removeLeft {x1 : Int32} {r : Int32} {σ σ' : fw_T} (hf : pX8_removeLeft x1 σ = some (r, σ')) : fw_Ci l yX8_removeLeft (Cond.code yX8_removeLeft cX8_removeLeft 2 (some .int) :: lwT) rmX8_removeLeft [.ref (adr 0), .int x1] D 7 adr (fw_M cI cB adr) (fmT cI cB) [] σ r σ' := by
  refine fw_start (Qc := (fun A => va_Qi (fun r' (_ : Unit) => r' = r) (fun _ t => va_P D vwCl (fw_ws 7 adr (fw_M cI cB adr σ')) t.heap) A)) (by decide) (by simp [lg_sl, Value.category]) rfl ?_
  intro p e s m below meth c A X hH ls hl
  have hx := X.1.1
  have hb := X.1.2.1
  have hl : lv_has ls 2 [(0, .ref (adr 0)), (1, .int x1)] := hl
  unfold pX8_removeLeft at hf
  refine lv_aload_n hx hb dX8_removeLeft_0 rfl (lv_at hl 0 rfl) ?_
  refine lv_iconst (v := (0 : Int32)) hx hb dX8_removeLeft_1 (by decide) ?_
  refine lv_iload_n hx hb dX8_removeLeft_2 rfl (lv_at hl 1 rfl) ?_
  obtain ⟨w3, τ2, g1, hf⟩ := fw_b2s hf
  refine fw_ci hH (fw_rV (As := [.int (0 : Int32), .int x1]) (rest := []) (id := 0) X hH (kX8_removes  g1 _) qX8_removes tw_4_44 ⟨Nat.le_of_ble_eq_true rfl, Nat.le_of_ble_eq_true rfl⟩ rfl rfl (by decide) rfl rfl rfl hl.1 rfl (Nat.le_of_ble_eq_true rfl) dX8_removeLeft_3) (fun H locs hH => ?_)
  obtain ⟨rfl, rfl⟩ := fw_s2 hf
  exact fw_reti X hH dX8_removeLeft_6
abbrev rmX8_removeRight : Room := { frames := 2, cells := 0, slots := 0, locals := 45 }
theorem qX8_removeRight : fw_QV RX8 yX8_removeRight cX8_removeRight 2 (some .int) 1 := ⟨⟨tw_4_49, tw_4_50, tw_1_10, tw_4_51⟩, by decide +kernel⟩
def pX8_removeRight (x1 : Int32) (σ : fw_T) : Option (Int32 × fw_T) :=
  fw_b2 (pX8_removes (11 : Int32) x1 σ) fun w3 τ2 =>
  some (w3, τ2)
set_option maxRecDepth 100000 in
set_option maxHeartbeats 4000000 in
theorem kX8_removeRight {x1 : Int32} {r : Int32} {σ σ' : fw_T} (hf : pX8_removeRight x1 σ = some (r, σ')) : fw_Ci l yX8_removeRight (Cond.code yX8_removeRight cX8_removeRight 2 (some .int) :: lwT) rmX8_removeRight [.ref (adr 0), .int x1] D 7 adr (fw_M cI cB adr) (fmT cI cB) [] σ r σ' := by
  refine fw_start (Qc := (fun A => va_Qi (fun r' (_ : Unit) => r' = r) (fun _ t => va_P D vwCl (fw_ws 7 adr (fw_M cI cB adr σ')) t.heap) A)) (by decide) (by simp [lg_sl, Value.category]) rfl ?_
  intro p e s m below meth c A X hH ls hl
  have hx := X.1.1
  have hb := X.1.2.1
  have hl : lv_has ls 2 [(0, .ref (adr 0)), (1, .int x1)] := hl
  unfold pX8_removeRight at hf
  refine lv_aload_n hx hb dX8_removeRight_0 rfl (lv_at hl 0 rfl) ?_
  refine lv_bipush (v := (11 : Int32)) hx hb dX8_removeRight_1 (by decide) ?_
  refine lv_iload_n hx hb dX8_removeRight_3 rfl (lv_at hl 1 rfl) ?_
  obtain ⟨w3, τ2, g1, hf⟩ := fw_b2s hf
  refine fw_ci hH (fw_rV (As := [.int (11 : Int32), .int x1]) (rest := []) (id := 0) X hH (kX8_removes  g1 _) qX8_removes tw_4_44 ⟨Nat.le_of_ble_eq_true rfl, Nat.le_of_ble_eq_true rfl⟩ rfl rfl (by decide) rfl rfl rfl hl.1 rfl (Nat.le_of_ble_eq_true rfl) dX8_removeRight_4) (fun H locs hH => ?_)
  obtain ⟨rfl, rfl⟩ := fw_s2 hf
  exact fw_reti X hH dX8_removeRight_7
abbrev rmX8_rowAt : Room := { frames := 1, cells := 0, slots := 0, locals := 21 }
theorem qX8_rowAt : fw_QV RX8 yX8_rowAt cX8_rowAt 3 (some .int) 2 := ⟨⟨tw_4_58, tv_X8_rowAt, tw_1_10, tw_4_59⟩, by decide +kernel⟩
def pX8_rowAt (x1 : Int32) (x2 : Int32) (σ : fw_T) : Option (Int32 × fw_T) :=
  if 0 ≤ x2 then
    (fw_rd σ 1 52 x1).bind fun w1 =>
    if w1 ≤ x2 then
      some ((-10001 : Int32), σ)
    else
      (fw_rd σ 1 52 ((x1 + (1 : Int32)) + x2)).bind fun w3 =>
      some (w3, σ)
  else
    fw_b2 (pX8_fail (-10002 : Int32) σ) fun w7 τ6 =>
    some (w7, τ6)
set_option maxRecDepth 100000 in
set_option maxHeartbeats 4000000 in
theorem kX8_rowAt {x1 : Int32} {x2 : Int32} {r : Int32} {σ σ' : fw_T} (hf : pX8_rowAt x1 x2 σ = some (r, σ')) : fw_Ci l yX8_rowAt (Cond.code yX8_rowAt cX8_rowAt 3 (some .int) :: lwT) rmX8_rowAt [.ref (adr 0), .int x1, .int x2] D 7 adr (fw_M cI cB adr) (fmT cI cB) [] σ r σ' := by
  refine fw_start (Qc := (fun A => va_Qi (fun r' (_ : Unit) => r' = r) (fun _ t => va_P D vwCl (fw_ws 7 adr (fw_M cI cB adr σ')) t.heap) A)) (by decide) (by simp [lg_sl, Value.category]) rfl ?_
  intro p e s m below meth c A X hH ls hl
  have hx := X.1.1
  have hb := X.1.2.1
  have hl : lv_has ls 3 [(0, .ref (adr 0)), (1, .int x1), (2, .int x2)] := hl
  unfold pX8_rowAt at hf
  refine lv_iload_n hx hb dX8_rowAt_0 rfl (lv_at hl 2 rfl) ?_
  refine lv_if_ge (tgt := 14) hx hb dX8_rowAt_1 (by decide) (fun hc => ?_) (fun hc => ?_)
  · have hf := fw_pos hc hf
    refine lv_iload_n hx hb dX8_rowAt_14 rfl (lv_at hl 2 rfl) ?_
    refine lv_aload_n hx hb dX8_rowAt_15 rfl (lv_at hl 0 rfl) ?_
    refine fw_get (id := 0) (k := 0) (v := .ref (adr 1)) X hH (by decide) rfl rfl inX8 (by decide) rfl tw_3_202 dX8_rowAt_16 ?_
    refine lv_iload_n hx hb dX8_rowAt_19 rfl (lv_at hl 1 rfl) ?_
    obtain ⟨w1, g2, hf⟩ := fw_bd hf
    refine fw_iald (id := 1) (n := 52) X hH (by decide) rfl rfl g2 dX8_rowAt_20 ?_
    refine lv_icmp_ge (tgt := 37) hx hb dX8_rowAt_21 (by decide) (fun hc => ?_) (fun hc => ?_)
    · have hf := fw_pos hc hf
      refine lv_sipush (v := (-10001 : Int32)) hx hb dX8_rowAt_37 (by decide) ?_
      obtain ⟨rfl, rfl⟩ := fw_s2 hf
      exact fw_reti X hH dX8_rowAt_40
    · have hf := fw_neg hc hf
      refine lv_aload_n hx hb dX8_rowAt_24 rfl (lv_at hl 0 rfl) ?_
      refine fw_get (id := 0) (k := 0) (v := .ref (adr 1)) X hH (by decide) rfl rfl inX8 (by decide) rfl tw_3_202 dX8_rowAt_25 ?_
      refine lv_iload_n hx hb dX8_rowAt_28 rfl (lv_at hl 1 rfl) ?_
      refine lv_iconst (v := (1 : Int32)) hx hb dX8_rowAt_29 (by decide) ?_
      refine lv_iadd hx hb dX8_rowAt_30 ?_
      refine lv_iload_n hx hb dX8_rowAt_31 rfl (lv_at hl 2 rfl) ?_
      refine lv_iadd hx hb dX8_rowAt_32 ?_
      obtain ⟨w3, g4, hf⟩ := fw_bd hf
      refine fw_iald (id := 1) (n := 52) X hH (by decide) rfl rfl g4 dX8_rowAt_33 ?_
      refine lv_goto (tgt := 40) hx hb dX8_rowAt_34 (by decide) ?_
      obtain ⟨rfl, rfl⟩ := fw_s2 hf
      exact fw_reti X hH dX8_rowAt_40
  · have hf := fw_neg hc hf
    refine lv_aload_n hx hb dX8_rowAt_4 rfl (lv_at hl 0 rfl) ?_
    refine lv_sipush (v := (-10002 : Int32)) hx hb dX8_rowAt_5 (by decide) ?_
    obtain ⟨w7, τ6, g5, hf⟩ := fw_b2s hf
    refine fw_ci hH (fw_rV (As := [.int (-10002 : Int32)]) (rest := []) (id := 0) X hH (kX8_fail  g5 _) qX8_fail tw_4_20 ⟨Nat.le_of_ble_eq_true rfl, Nat.le_of_ble_eq_true rfl⟩ rfl rfl (by decide) rfl rfl rfl hl.1 rfl (Nat.le_of_ble_eq_true rfl) dX8_rowAt_8) (fun H locs hH => ?_)
    refine lv_goto (tgt := 40) hx hb dX8_rowAt_11 (by decide) ?_
    obtain ⟨rfl, rfl⟩ := fw_s2 hf
    exact fw_reti X hH dX8_rowAt_40
abbrev rmX8_leftRow : Room := { frames := 2, cells := 0, slots := 0, locals := 43 }
theorem qX8_leftRow : fw_QV RX8 yX8_leftRow cX8_leftRow 2 (some .int) 1 := ⟨⟨tw_4_53, tw_4_54, tw_1_10, tw_4_55⟩, by decide +kernel⟩
def pX8_leftRow (x1 : Int32) (σ : fw_T) : Option (Int32 × fw_T) :=
  fw_b2 (pX8_rowAt (0 : Int32) x1 σ) fun w3 τ2 =>
  some (w3, τ2)
set_option maxRecDepth 100000 in
set_option maxHeartbeats 4000000 in
theorem kX8_leftRow {x1 : Int32} {r : Int32} {σ σ' : fw_T} (hf : pX8_leftRow x1 σ = some (r, σ')) : fw_Ci l yX8_leftRow (Cond.code yX8_leftRow cX8_leftRow 2 (some .int) :: lwT) rmX8_leftRow [.ref (adr 0), .int x1] D 7 adr (fw_M cI cB adr) (fmT cI cB) [] σ r σ' := by
  refine fw_start (Qc := (fun A => va_Qi (fun r' (_ : Unit) => r' = r) (fun _ t => va_P D vwCl (fw_ws 7 adr (fw_M cI cB adr σ')) t.heap) A)) (by decide) (by simp [lg_sl, Value.category]) rfl ?_
  intro p e s m below meth c A X hH ls hl
  have hx := X.1.1
  have hb := X.1.2.1
  have hl : lv_has ls 2 [(0, .ref (adr 0)), (1, .int x1)] := hl
  unfold pX8_leftRow at hf
  refine lv_aload_n hx hb dX8_leftRow_0 rfl (lv_at hl 0 rfl) ?_
  refine lv_iconst (v := (0 : Int32)) hx hb dX8_leftRow_1 (by decide) ?_
  refine lv_iload_n hx hb dX8_leftRow_2 rfl (lv_at hl 1 rfl) ?_
  obtain ⟨w3, τ2, g1, hf⟩ := fw_b2s hf
  refine fw_ci hH (fw_rV (As := [.int (0 : Int32), .int x1]) (rest := []) (id := 0) X hH (kX8_rowAt  g1 _) qX8_rowAt tw_4_56 ⟨Nat.le_of_ble_eq_true rfl, Nat.le_of_ble_eq_true rfl⟩ rfl rfl (by decide) rfl rfl rfl hl.1 rfl (Nat.le_of_ble_eq_true rfl) dX8_leftRow_3) (fun H locs hH => ?_)
  obtain ⟨rfl, rfl⟩ := fw_s2 hf
  exact fw_reti X hH dX8_leftRow_6
abbrev rmX8_rightRow : Room := { frames := 2, cells := 0, slots := 0, locals := 43 }
theorem qX8_rightRow : fw_QV RX8 yX8_rightRow cX8_rightRow 2 (some .int) 1 := ⟨⟨tw_4_61, tw_4_62, tw_1_10, tw_4_63⟩, by decide +kernel⟩
def pX8_rightRow (x1 : Int32) (σ : fw_T) : Option (Int32 × fw_T) :=
  fw_b2 (pX8_rowAt (11 : Int32) x1 σ) fun w3 τ2 =>
  some (w3, τ2)
set_option maxRecDepth 100000 in
set_option maxHeartbeats 4000000 in
theorem kX8_rightRow {x1 : Int32} {r : Int32} {σ σ' : fw_T} (hf : pX8_rightRow x1 σ = some (r, σ')) : fw_Ci l yX8_rightRow (Cond.code yX8_rightRow cX8_rightRow 2 (some .int) :: lwT) rmX8_rightRow [.ref (adr 0), .int x1] D 7 adr (fw_M cI cB adr) (fmT cI cB) [] σ r σ' := by
  refine fw_start (Qc := (fun A => va_Qi (fun r' (_ : Unit) => r' = r) (fun _ t => va_P D vwCl (fw_ws 7 adr (fw_M cI cB adr σ')) t.heap) A)) (by decide) (by simp [lg_sl, Value.category]) rfl ?_
  intro p e s m below meth c A X hH ls hl
  have hx := X.1.1
  have hb := X.1.2.1
  have hl : lv_has ls 2 [(0, .ref (adr 0)), (1, .int x1)] := hl
  unfold pX8_rightRow at hf
  refine lv_aload_n hx hb dX8_rightRow_0 rfl (lv_at hl 0 rfl) ?_
  refine lv_bipush (v := (11 : Int32)) hx hb dX8_rightRow_1 (by decide) ?_
  refine lv_iload_n hx hb dX8_rightRow_3 rfl (lv_at hl 1 rfl) ?_
  obtain ⟨w3, τ2, g1, hf⟩ := fw_b2s hf
  refine fw_ci hH (fw_rV (As := [.int (11 : Int32), .int x1]) (rest := []) (id := 0) X hH (kX8_rowAt  g1 _) qX8_rowAt tw_4_56 ⟨Nat.le_of_ble_eq_true rfl, Nat.le_of_ble_eq_true rfl⟩ rfl rfl (by decide) rfl rfl rfl hl.1 rfl (Nat.le_of_ble_eq_true rfl) dX8_rightRow_4) (fun H locs hH => ?_)
  obtain ⟨rfl, rfl⟩ := fw_s2 hf
  exact fw_reti X hH dX8_rightRow_7
abbrev rmX8_isConstant : Room := { frames := 1, cells := 0, slots := 0, locals := 22 }
theorem qX8_isConstant : fw_QS yX8_isConstant cX8_isConstant 2 (some .boolean) 2 := ⟨⟨tw_4_69, tw_1_10, tw_4_70⟩, by decide +kernel⟩
def pX8_isConstant (x0 : Int32) (x1 : Int32) (σ : fw_T) : Option (Int32 × fw_T) :=
  if x0 = (2 : Int32) then
    fw_b2 (pX8_in x1 (-9 : Int32) (18 : Int32) σ) fun w6 τ5 =>
    fw_rz w6 τ5
  else
    fw_b2 (pX8_in x1 (0 : Int32) (9 : Int32) σ) fun w3 τ2 =>
    fw_rz w3 τ2
set_option maxRecDepth 100000 in
set_option maxHeartbeats 4000000 in
theorem kX8_isConstant {x0 : Int32} {x1 : Int32} {r : Int32} {σ σ' : fw_T} (hf : pX8_isConstant x0 x1 σ = some (r, σ')) : fw_Ci l yX8_isConstant (Cond.code yX8_isConstant cX8_isConstant 2 (some .boolean) :: lwT) rmX8_isConstant [.int x0, .int x1] D 7 adr (fw_M cI cB adr) (fmT cI cB) [] σ r σ' := by
  refine fw_start (Qc := (fun A => va_Qi (fun r' (_ : Unit) => r' = r) (fun _ t => va_P D vwCl (fw_ws 7 adr (fw_M cI cB adr σ')) t.heap) A)) (by decide) (by simp [lg_sl, Value.category]) rfl ?_
  intro p e s m below meth c A X hH ls hl
  have hx := X.1.1
  have hb := X.1.2.1
  have hl : lv_has ls 2 [(0, .int x0), (1, .int x1)] := hl
  unfold pX8_isConstant at hf
  refine lv_iload_n hx hb dX8_isConstant_0 rfl (lv_at hl 0 rfl) ?_
  refine lv_iconst (v := (2 : Int32)) hx hb dX8_isConstant_1 (by decide) ?_
  refine lv_icmp_ne (tgt := 16) hx hb dX8_isConstant_2 (by decide) (fun hc => ?_) (fun hc => ?_)
  · have hf := fw_neg hc hf
    refine lv_iload_n hx hb dX8_isConstant_16 rfl (lv_at hl 1 rfl) ?_
    refine lv_iconst (v := (0 : Int32)) hx hb dX8_isConstant_17 (by decide) ?_
    refine lv_bipush (v := (9 : Int32)) hx hb dX8_isConstant_18 (by decide) ?_
    obtain ⟨w3, τ2, g1, hf⟩ := fw_b2s hf
    refine fw_ci hH (fw_rS (As := [.int x1, .int (0 : Int32), .int (9 : Int32)]) (rest := []) X hH (kX8_in  g1 _) qX8_in tw_4_17 ⟨Nat.le_of_ble_eq_true rfl, Nat.le_of_ble_eq_true rfl⟩ rfl rfl rfl hl.1 rfl (Nat.le_of_ble_eq_true rfl) dX8_isConstant_20) (fun H locs hH => ?_)
    obtain ⟨rfl, rfl, hz⟩ := fw_rzs hf
    exact fw_retz X hH hz dX8_isConstant_23
  · have hf := fw_pos hc hf
    refine lv_iload_n hx hb dX8_isConstant_5 rfl (lv_at hl 1 rfl) ?_
    refine lv_bipush (v := (-9 : Int32)) hx hb dX8_isConstant_6 (by decide) ?_
    refine lv_bipush (v := (18 : Int32)) hx hb dX8_isConstant_8 (by decide) ?_
    obtain ⟨w6, τ5, g4, hf⟩ := fw_b2s hf
    refine fw_ci hH (fw_rS (As := [.int x1, .int (-9 : Int32), .int (18 : Int32)]) (rest := []) X hH (kX8_in  g4 _) qX8_in tw_4_17 ⟨Nat.le_of_ble_eq_true rfl, Nat.le_of_ble_eq_true rfl⟩ rfl rfl rfl hl.1 rfl (Nat.le_of_ble_eq_true rfl) dX8_isConstant_10) (fun H locs hH => ?_)
    refine lv_goto (tgt := 23) hx hb dX8_isConstant_13 (by decide) ?_
    obtain ⟨rfl, rfl, hz⟩ := fw_rzs hf
    exact fw_retz X hH hz dX8_isConstant_23
abbrev rmX8_addFilter : Room := { frames := 2, cells := 0, slots := 0, locals := 43 }
theorem qX8_addFilter : fw_QV RX8 yX8_addFilter cX8_addFilter 6 (some .int) 4 := ⟨⟨tw_4_65, tw_4_66, tw_1_10, tw_4_67⟩, by decide +kernel⟩
def pX8_addFilter_21 (x1 : Int32) (x2 : Int32) (x3 : Int32) (x4 : Int32) (y0 : Int32) (y1 : Int32) (y2 : Int32) (σ : fw_T) : Option (Int32 × fw_T) :=
  fw_b2 (pX8_in y0 y1 y2 σ) fun w9 τ8 =>
  if w9 = 0 then
    fw_b2 (pX8_fail (-10002 : Int32) τ8) fun w12 τ11 =>
    some (w12, τ11)
  else
    fw_b2 (pX8_in x3 (0 : Int32) (3 : Int32) τ8) fun w15 τ14 =>
    if w15 = 0 then
      fw_b2 (pX8_fail (-10002 : Int32) τ14) fun w18 τ17 =>
      some (w18, τ17)
    else
      fw_b2 (pX8_isConstant x1 x4 τ14) fun w21 τ20 =>
      if w21 = 0 then
        fw_b2 (pX8_fail (-10002 : Int32) τ20) fun w47 τ46 =>
        some (w47, τ46)
      else
        (fw_rd τ20 1 52 (22 : Int32)).bind fun w22 =>
        if w22 = (6 : Int32) then
          fw_b2 (pX8_fail (-10004 : Int32) τ20) fun w44 τ43 =>
          some (w44, τ43)
        else
          (pX8_note τ20).bind fun τ25 =>
          (fw_rd τ25 1 52 (22 : Int32)).bind fun w26 =>
          (fw_wr τ25 1 52 ((23 : Int32) + ((4 : Int32) * w26)) x1).bind fun τ28 =>
          (fw_wr τ28 1 52 (((23 : Int32) + ((4 : Int32) * w26)) + (1 : Int32)) x2).bind fun τ30 =>
          (fw_wr τ30 1 52 (((23 : Int32) + ((4 : Int32) * w26)) + (2 : Int32)) x3).bind fun τ32 =>
          (fw_wr τ32 1 52 (((23 : Int32) + ((4 : Int32) * w26)) + (3 : Int32)) x4).bind fun τ34 =>
          (fw_rd τ34 1 52 (22 : Int32)).bind fun w36 =>
          (fw_wr τ34 1 52 (22 : Int32) (w36 + (1 : Int32))).bind fun τ38 =>
          (fw_rd τ38 1 52 (22 : Int32)).bind fun w40 =>
          some ((w40 - (1 : Int32)), τ38)
set_option maxRecDepth 100000 in
set_option maxHeartbeats 4000000 in
theorem wX8_addFilter_21 {args : Array Value} {r : Int32} {σ' : fw_T} (X : fmX p m c cX8_addFilter 6 s args RX8 meth (some .int) D cI cB)  : ∀ (x1 : Int32), ∀ (x2 : Int32), ∀ (x3 : Int32), ∀ (x4 : Int32), ∀ (y0 : Int32), ∀ (y1 : Int32), ∀ (y2 : Int32), ∀ (σ : fw_T), pX8_addFilter_21 x1 x2 x3 x4 y0 y1 y2 σ = some (r, σ') → ∀ (H : Heap) (locs : List Loc) (ls : Array Slot), fmH D cI cB adr A s H locs σ → lv_has ls 6 [(0, .ref (adr 0)), (1, .int x1), (2, .int x2), (3, .int x3), (4, .int x4)] → W p l e rmX8_addFilter s m args below meth c H locs 0 0 (fw_Qi D 7 adr (fw_M cI cB adr) A below args s r σ') (F0 m 21 ls [.int y2, .int y1, .int y0]) := by
  have hx := X.1.1
  have hb := X.1.2.1
  intro x1 x2 x3 x4 y0 y1 y2 σ hf H locs ls hH hl
  unfold pX8_addFilter_21 at hf
  obtain ⟨w9, τ8, g7, hf⟩ := fw_b2s hf
  refine fw_ci hH (fw_rS (As := [.int y0, .int y1, .int y2]) (rest := []) X hH (kX8_in  g7 _) qX8_in tw_4_17 ⟨Nat.le_of_ble_eq_true rfl, Nat.le_of_ble_eq_true rfl⟩ rfl rfl rfl hl.1 rfl (Nat.le_of_ble_eq_true rfl) dX8_addFilter_21) (fun H locs hH => ?_)
  refine lv_if_eq (tgt := 45) hx hb dX8_addFilter_24 (by decide) (fun hc => ?_) (fun hc => ?_)
  · have hf := fw_pos hc hf
    refine lv_aload_n hx hb dX8_addFilter_45 rfl (lv_at hl 0 rfl) ?_
    refine lv_sipush (v := (-10002 : Int32)) hx hb dX8_addFilter_46 (by decide) ?_
    obtain ⟨w12, τ11, g10, hf⟩ := fw_b2s hf
    refine fw_ci hH (fw_rV (As := [.int (-10002 : Int32)]) (rest := []) (id := 0) X hH (kX8_fail  g10 _) qX8_fail tw_4_20 ⟨Nat.le_of_ble_eq_true rfl, Nat.le_of_ble_eq_true rfl⟩ rfl rfl (by decide) rfl rfl rfl hl.1 rfl (Nat.le_of_ble_eq_true rfl) dX8_addFilter_49) (fun H locs hH => ?_)
    obtain ⟨rfl, rfl⟩ := fw_s2 hf
    exact fw_reti X hH dX8_addFilter_52
  · have hf := fw_neg hc hf
    refine lv_iload_n hx hb dX8_addFilter_27 rfl (lv_at hl 3 rfl) ?_
    refine lv_iconst (v := (0 : Int32)) hx hb dX8_addFilter_28 (by decide) ?_
    refine lv_iconst (v := (3 : Int32)) hx hb dX8_addFilter_29 (by decide) ?_
    obtain ⟨w15, τ14, g13, hf⟩ := fw_b2s hf
    refine fw_ci hH (fw_rS (As := [.int x3, .int (0 : Int32), .int (3 : Int32)]) (rest := []) X hH (kX8_in  g13 _) qX8_in tw_4_17 ⟨Nat.le_of_ble_eq_true rfl, Nat.le_of_ble_eq_true rfl⟩ rfl rfl rfl hl.1 rfl (Nat.le_of_ble_eq_true rfl) dX8_addFilter_30) (fun H locs hH => ?_)
    refine lv_if_eq (tgt := 45) hx hb dX8_addFilter_33 (by decide) (fun hc => ?_) (fun hc => ?_)
    · have hf := fw_pos hc hf
      refine lv_aload_n hx hb dX8_addFilter_45 rfl (lv_at hl 0 rfl) ?_
      refine lv_sipush (v := (-10002 : Int32)) hx hb dX8_addFilter_46 (by decide) ?_
      obtain ⟨w18, τ17, g16, hf⟩ := fw_b2s hf
      refine fw_ci hH (fw_rV (As := [.int (-10002 : Int32)]) (rest := []) (id := 0) X hH (kX8_fail  g16 _) qX8_fail tw_4_20 ⟨Nat.le_of_ble_eq_true rfl, Nat.le_of_ble_eq_true rfl⟩ rfl rfl (by decide) rfl rfl rfl hl.1 rfl (Nat.le_of_ble_eq_true rfl) dX8_addFilter_49) (fun H locs hH => ?_)
      obtain ⟨rfl, rfl⟩ := fw_s2 hf
      exact fw_reti X hH dX8_addFilter_52
    · have hf := fw_neg hc hf
      refine lv_iload_n hx hb dX8_addFilter_36 rfl (lv_at hl 1 rfl) ?_
      refine lv_iload hx hb dX8_addFilter_37 (lv_at hl 4 rfl) ?_
      obtain ⟨w21, τ20, g19, hf⟩ := fw_b2s hf
      refine fw_ci hH (fw_rS (As := [.int x1, .int x4]) (rest := []) X hH (kX8_isConstant  g19 _) qX8_isConstant tw_4_68 ⟨Nat.le_of_ble_eq_true rfl, Nat.le_of_ble_eq_true rfl⟩ rfl rfl rfl hl.1 rfl (Nat.le_of_ble_eq_true rfl) dX8_addFilter_39) (fun H locs hH => ?_)
      refine lv_if_ne (tgt := 53) hx hb dX8_addFilter_42 (by decide) (fun hc => ?_) (fun hc => ?_)
      · have hf := fw_neg hc hf
        refine lv_aload_n hx hb dX8_addFilter_53 rfl (lv_at hl 0 rfl) ?_
        refine fw_get (id := 0) (k := 0) (v := .ref (adr 1)) X hH (by decide) rfl rfl inX8 (by decide) rfl tw_3_202 dX8_addFilter_54 ?_
        refine lv_bipush (v := (22 : Int32)) hx hb dX8_addFilter_57 (by decide) ?_
        obtain ⟨w22, g23, hf⟩ := fw_bd hf
        refine fw_iald (id := 1) (n := 52) X hH (by decide) rfl rfl g23 dX8_addFilter_59 ?_
        refine lv_bipush (v := (6 : Int32)) hx hb dX8_addFilter_60 (by decide) ?_
        refine lv_icmp_ne (tgt := 73) hx hb dX8_addFilter_62 (by decide) (fun hc => ?_) (fun hc => ?_)
        · have hf := fw_neg hc hf
          refine lv_aload_n hx hb dX8_addFilter_73 rfl (lv_at hl 0 rfl) ?_
          obtain ⟨τ25, g24, hf⟩ := fw_bd hf
          refine fw_cv hH (fw_rV (As := []) (rest := []) (id := 0) X hH (kX8_note  g24 _) qX8_note tw_4_28 ⟨Nat.le_of_ble_eq_true rfl, Nat.le_of_ble_eq_true rfl⟩ rfl rfl (by decide) rfl rfl rfl hl.1 rfl (Nat.le_of_ble_eq_true rfl) dX8_addFilter_74) (fun H locs hH => ?_)
          refine lv_bipush (v := (23 : Int32)) hx hb dX8_addFilter_77 (by decide) ?_
          refine lv_iconst (v := (4 : Int32)) hx hb dX8_addFilter_79 (by decide) ?_
          refine lv_aload_n hx hb dX8_addFilter_80 rfl (lv_at hl 0 rfl) ?_
          refine fw_get (id := 0) (k := 0) (v := .ref (adr 1)) X hH (by decide) rfl rfl inX8 (by decide) rfl tw_3_202 dX8_addFilter_81 ?_
          refine lv_bipush (v := (22 : Int32)) hx hb dX8_addFilter_84 (by decide) ?_
          obtain ⟨w26, g27, hf⟩ := fw_bd hf
          refine fw_iald (id := 1) (n := 52) X hH (by decide) rfl rfl g27 dX8_addFilter_86 ?_
          refine lv_imul hx hb dX8_addFilter_87 ?_
          refine lv_iadd hx hb dX8_addFilter_88 ?_
          refine lv_istore (lv' := [(5, .int ((23 : Int32) + ((4 : Int32) * w26))), (0, .ref (adr 0)), (1, .int x1), (2, .int x2), (3, .int x3), (4, .int x4)]) hx hb dX8_addFilter_89 hl (by decide) rfl (fun ls hl => ?_)
          refine lv_aload_n hx hb dX8_addFilter_91 rfl (lv_at hl 1 rfl) ?_
          refine fw_get (id := 0) (k := 0) (v := .ref (adr 1)) X hH (by decide) rfl rfl inX8 (by decide) rfl tw_3_202 dX8_addFilter_92 ?_
          refine lv_iload hx hb dX8_addFilter_95 (lv_at hl 0 rfl) ?_
          refine lv_iload_n hx hb dX8_addFilter_97 rfl (lv_at hl 2 rfl) ?_
          obtain ⟨τ28, g29, hf⟩ := fw_bd hf
          refine fw_iast (id := 1) (n := 52) X hH (by decide) (fun σ => rfl) (fun k x j h => fm_ne h) rfl g29 dX8_addFilter_98 (fun H locs hH => ?_)
          refine lv_aload_n hx hb dX8_addFilter_99 rfl (lv_at hl 1 rfl) ?_
          refine fw_get (id := 0) (k := 0) (v := .ref (adr 1)) X hH (by decide) rfl rfl inX8 (by decide) rfl tw_3_202 dX8_addFilter_100 ?_
          refine lv_iload hx hb dX8_addFilter_103 (lv_at hl 0 rfl) ?_
          refine lv_iconst (v := (1 : Int32)) hx hb dX8_addFilter_105 (by decide) ?_
          refine lv_iadd hx hb dX8_addFilter_106 ?_
          refine lv_iload_n hx hb dX8_addFilter_107 rfl (lv_at hl 3 rfl) ?_
          obtain ⟨τ30, g31, hf⟩ := fw_bd hf
          refine fw_iast (id := 1) (n := 52) X hH (by decide) (fun σ => rfl) (fun k x j h => fm_ne h) rfl g31 dX8_addFilter_108 (fun H locs hH => ?_)
          refine lv_aload_n hx hb dX8_addFilter_109 rfl (lv_at hl 1 rfl) ?_
          refine fw_get (id := 0) (k := 0) (v := .ref (adr 1)) X hH (by decide) rfl rfl inX8 (by decide) rfl tw_3_202 dX8_addFilter_110 ?_
          refine lv_iload hx hb dX8_addFilter_113 (lv_at hl 0 rfl) ?_
          refine lv_iconst (v := (2 : Int32)) hx hb dX8_addFilter_115 (by decide) ?_
          refine lv_iadd hx hb dX8_addFilter_116 ?_
          refine lv_iload_n hx hb dX8_addFilter_117 rfl (lv_at hl 4 rfl) ?_
          obtain ⟨τ32, g33, hf⟩ := fw_bd hf
          refine fw_iast (id := 1) (n := 52) X hH (by decide) (fun σ => rfl) (fun k x j h => fm_ne h) rfl g33 dX8_addFilter_118 (fun H locs hH => ?_)
          refine lv_aload_n hx hb dX8_addFilter_119 rfl (lv_at hl 1 rfl) ?_
          refine fw_get (id := 0) (k := 0) (v := .ref (adr 1)) X hH (by decide) rfl rfl inX8 (by decide) rfl tw_3_202 dX8_addFilter_120 ?_
          refine lv_iload hx hb dX8_addFilter_123 (lv_at hl 0 rfl) ?_
          refine lv_iconst (v := (3 : Int32)) hx hb dX8_addFilter_125 (by decide) ?_
          refine lv_iadd hx hb dX8_addFilter_126 ?_
          refine lv_iload hx hb dX8_addFilter_127 (lv_at hl 5 rfl) ?_
          obtain ⟨τ34, g35, hf⟩ := fw_bd hf
          refine fw_iast (id := 1) (n := 52) X hH (by decide) (fun σ => rfl) (fun k x j h => fm_ne h) rfl g35 dX8_addFilter_129 (fun H locs hH => ?_)
          refine lv_aload_n hx hb dX8_addFilter_130 rfl (lv_at hl 1 rfl) ?_
          refine fw_get (id := 0) (k := 0) (v := .ref (adr 1)) X hH (by decide) rfl rfl inX8 (by decide) rfl tw_3_202 dX8_addFilter_131 ?_
          refine lv_bipush (v := (22 : Int32)) hx hb dX8_addFilter_134 (by decide) ?_
          refine lv_dup2_11 hx hb dX8_addFilter_136 rfl rfl ?_
          obtain ⟨w36, g37, hf⟩ := fw_bd hf
          refine fw_iald (id := 1) (n := 52) X hH (by decide) rfl rfl g37 dX8_addFilter_137 ?_
          refine lv_iconst (v := (1 : Int32)) hx hb dX8_addFilter_138 (by decide) ?_
          refine lv_iadd hx hb dX8_addFilter_139 ?_
          obtain ⟨τ38, g39, hf⟩ := fw_bd hf
          refine fw_iast (id := 1) (n := 52) X hH (by decide) (fun σ => rfl) (fun k x j h => fm_ne h) rfl g39 dX8_addFilter_140 (fun H locs hH => ?_)
          refine lv_aload_n hx hb dX8_addFilter_141 rfl (lv_at hl 1 rfl) ?_
          refine fw_get (id := 0) (k := 0) (v := .ref (adr 1)) X hH (by decide) rfl rfl inX8 (by decide) rfl tw_3_202 dX8_addFilter_142 ?_
          refine lv_bipush (v := (22 : Int32)) hx hb dX8_addFilter_145 (by decide) ?_
          obtain ⟨w40, g41, hf⟩ := fw_bd hf
          refine fw_iald (id := 1) (n := 52) X hH (by decide) rfl rfl g41 dX8_addFilter_147 ?_
          refine lv_iconst (v := (1 : Int32)) hx hb dX8_addFilter_148 (by decide) ?_
          refine lv_isub hx hb dX8_addFilter_149 ?_
          obtain ⟨rfl, rfl⟩ := fw_s2 hf
          exact fw_reti X hH dX8_addFilter_150
        · have hf := fw_pos hc hf
          refine lv_aload_n hx hb dX8_addFilter_65 rfl (lv_at hl 0 rfl) ?_
          refine lv_sipush (v := (-10004 : Int32)) hx hb dX8_addFilter_66 (by decide) ?_
          obtain ⟨w44, τ43, g42, hf⟩ := fw_b2s hf
          refine fw_ci hH (fw_rV (As := [.int (-10004 : Int32)]) (rest := []) (id := 0) X hH (kX8_fail  g42 _) qX8_fail tw_4_20 ⟨Nat.le_of_ble_eq_true rfl, Nat.le_of_ble_eq_true rfl⟩ rfl rfl (by decide) rfl rfl rfl hl.1 rfl (Nat.le_of_ble_eq_true rfl) dX8_addFilter_69) (fun H locs hH => ?_)
          obtain ⟨rfl, rfl⟩ := fw_s2 hf
          exact fw_reti X hH dX8_addFilter_72
      · have hf := fw_pos hc hf
        refine lv_aload_n hx hb dX8_addFilter_45 rfl (lv_at hl 0 rfl) ?_
        refine lv_sipush (v := (-10002 : Int32)) hx hb dX8_addFilter_46 (by decide) ?_
        obtain ⟨w47, τ46, g45, hf⟩ := fw_b2s hf
        refine fw_ci hH (fw_rV (As := [.int (-10002 : Int32)]) (rest := []) (id := 0) X hH (kX8_fail  g45 _) qX8_fail tw_4_20 ⟨Nat.le_of_ble_eq_true rfl, Nat.le_of_ble_eq_true rfl⟩ rfl rfl (by decide) rfl rfl rfl hl.1 rfl (Nat.le_of_ble_eq_true rfl) dX8_addFilter_49) (fun H locs hH => ?_)
        obtain ⟨rfl, rfl⟩ := fw_s2 hf
        exact fw_reti X hH dX8_addFilter_52
def pX8_addFilter (x1 : Int32) (x2 : Int32) (x3 : Int32) (x4 : Int32) (σ : fw_T) : Option (Int32 × fw_T) :=
  fw_b2 (pX8_in x1 (0 : Int32) (2 : Int32) σ) fun w3 τ2 =>
  if w3 = 0 then
    fw_b2 (pX8_fail (-10002 : Int32) τ2) fun w6 τ5 =>
    some (w6, τ5)
  else
    if x1 = (2 : Int32) then
      pX8_addFilter_21 x1 x2 x3 x4 x2 (0 : Int32) (2 : Int32) τ2
    else
      pX8_addFilter_21 x1 x2 x3 x4 x2 (0 : Int32) (1 : Int32) τ2
set_option maxRecDepth 100000 in
set_option maxHeartbeats 4000000 in
theorem kX8_addFilter {x1 : Int32} {x2 : Int32} {x3 : Int32} {x4 : Int32} {r : Int32} {σ σ' : fw_T} (hf : pX8_addFilter x1 x2 x3 x4 σ = some (r, σ')) : fw_Ci l yX8_addFilter (Cond.code yX8_addFilter cX8_addFilter 6 (some .int) :: lwT) rmX8_addFilter [.ref (adr 0), .int x1, .int x2, .int x3, .int x4] D 7 adr (fw_M cI cB adr) (fmT cI cB) [] σ r σ' := by
  refine fw_start (Qc := (fun A => va_Qi (fun r' (_ : Unit) => r' = r) (fun _ t => va_P D vwCl (fw_ws 7 adr (fw_M cI cB adr σ')) t.heap) A)) (by decide) (by simp [lg_sl, Value.category]) rfl ?_
  intro p e s m below meth c A X hH ls hl
  have hx := X.1.1
  have hb := X.1.2.1
  have hl : lv_has ls 6 [(0, .ref (adr 0)), (1, .int x1), (2, .int x2), (3, .int x3), (4, .int x4)] := hl
  unfold pX8_addFilter at hf
  refine lv_iload_n hx hb dX8_addFilter_0 rfl (lv_at hl 1 rfl) ?_
  refine lv_iconst (v := (0 : Int32)) hx hb dX8_addFilter_1 (by decide) ?_
  refine lv_iconst (v := (2 : Int32)) hx hb dX8_addFilter_2 (by decide) ?_
  obtain ⟨w3, τ2, g1, hf⟩ := fw_b2s hf
  refine fw_ci hH (fw_rS (As := [.int x1, .int (0 : Int32), .int (2 : Int32)]) (rest := []) X hH (kX8_in  g1 _) qX8_in tw_4_17 ⟨Nat.le_of_ble_eq_true rfl, Nat.le_of_ble_eq_true rfl⟩ rfl rfl rfl hl.1 rfl (Nat.le_of_ble_eq_true rfl) dX8_addFilter_3) (fun H locs hH => ?_)
  refine lv_if_eq (tgt := 45) hx hb dX8_addFilter_6 (by decide) (fun hc => ?_) (fun hc => ?_)
  · have hf := fw_pos hc hf
    refine lv_aload_n hx hb dX8_addFilter_45 rfl (lv_at hl 0 rfl) ?_
    refine lv_sipush (v := (-10002 : Int32)) hx hb dX8_addFilter_46 (by decide) ?_
    obtain ⟨w6, τ5, g4, hf⟩ := fw_b2s hf
    refine fw_ci hH (fw_rV (As := [.int (-10002 : Int32)]) (rest := []) (id := 0) X hH (kX8_fail  g4 _) qX8_fail tw_4_20 ⟨Nat.le_of_ble_eq_true rfl, Nat.le_of_ble_eq_true rfl⟩ rfl rfl (by decide) rfl rfl rfl hl.1 rfl (Nat.le_of_ble_eq_true rfl) dX8_addFilter_49) (fun H locs hH => ?_)
    obtain ⟨rfl, rfl⟩ := fw_s2 hf
    exact fw_reti X hH dX8_addFilter_52
  · have hf := fw_neg hc hf
    refine lv_iload_n hx hb dX8_addFilter_9 rfl (lv_at hl 2 rfl) ?_
    refine lv_iconst (v := (0 : Int32)) hx hb dX8_addFilter_10 (by decide) ?_
    refine lv_iload_n hx hb dX8_addFilter_11 rfl (lv_at hl 1 rfl) ?_
    refine lv_iconst (v := (2 : Int32)) hx hb dX8_addFilter_12 (by decide) ?_
    refine lv_icmp_ne (tgt := 20) hx hb dX8_addFilter_13 (by decide) (fun hc => ?_) (fun hc => ?_)
    · have hf := fw_neg hc hf
      refine lv_iconst (v := (1 : Int32)) hx hb dX8_addFilter_20 (by decide) ?_
      exact wX8_addFilter_21 X x1 x2 x3 x4 x2 (0 : Int32) (1 : Int32) τ2 hf _ _ _ hH (lv_sub hl [0, 1, 2, 3, 4] rfl)
    · have hf := fw_pos hc hf
      refine lv_iconst (v := (2 : Int32)) hx hb dX8_addFilter_16 (by decide) ?_
      refine lv_goto (tgt := 21) hx hb dX8_addFilter_17 (by decide) ?_
      exact wX8_addFilter_21 X x1 x2 x3 x4 x2 (0 : Int32) (2 : Int32) τ2 hf _ _ _ hH (lv_sub hl [0, 1, 2, 3, 4] rfl)
abbrev rmX8_isFilter : Room := { frames := 1, cells := 0, slots := 0, locals := 22 }
theorem qX8_isFilter : fw_QV RX8 yX8_isFilter cX8_isFilter 2 (some .boolean) 1 := ⟨⟨tw_4_77, tv_X8_isFilter, tw_1_10, tw_4_78⟩, by decide +kernel⟩
def pX8_isFilter (x1 : Int32) (σ : fw_T) : Option (Int32 × fw_T) :=
  (fw_rd σ 1 52 (22 : Int32)).bind fun w1 =>
  fw_b2 (pX8_in x1 (0 : Int32) (w1 - (1 : Int32)) σ) fun w5 τ4 =>
  fw_rz w5 τ4
set_option maxRecDepth 100000 in
set_option maxHeartbeats 4000000 in
theorem kX8_isFilter {x1 : Int32} {r : Int32} {σ σ' : fw_T} (hf : pX8_isFilter x1 σ = some (r, σ')) : fw_Ci l yX8_isFilter (Cond.code yX8_isFilter cX8_isFilter 2 (some .boolean) :: lwT) rmX8_isFilter [.ref (adr 0), .int x1] D 7 adr (fw_M cI cB adr) (fmT cI cB) [] σ r σ' := by
  refine fw_start (Qc := (fun A => va_Qi (fun r' (_ : Unit) => r' = r) (fun _ t => va_P D vwCl (fw_ws 7 adr (fw_M cI cB adr σ')) t.heap) A)) (by decide) (by simp [lg_sl, Value.category]) rfl ?_
  intro p e s m below meth c A X hH ls hl
  have hx := X.1.1
  have hb := X.1.2.1
  have hl : lv_has ls 2 [(0, .ref (adr 0)), (1, .int x1)] := hl
  unfold pX8_isFilter at hf
  refine lv_iload_n hx hb dX8_isFilter_0 rfl (lv_at hl 1 rfl) ?_
  refine lv_iconst (v := (0 : Int32)) hx hb dX8_isFilter_1 (by decide) ?_
  refine lv_aload_n hx hb dX8_isFilter_2 rfl (lv_at hl 0 rfl) ?_
  refine fw_get (id := 0) (k := 0) (v := .ref (adr 1)) X hH (by decide) rfl rfl inX8 (by decide) rfl tw_3_202 dX8_isFilter_3 ?_
  refine lv_bipush (v := (22 : Int32)) hx hb dX8_isFilter_6 (by decide) ?_
  obtain ⟨w1, g2, hf⟩ := fw_bd hf
  refine fw_iald (id := 1) (n := 52) X hH (by decide) rfl rfl g2 dX8_isFilter_8 ?_
  refine lv_iconst (v := (1 : Int32)) hx hb dX8_isFilter_9 (by decide) ?_
  refine lv_isub hx hb dX8_isFilter_10 ?_
  obtain ⟨w5, τ4, g3, hf⟩ := fw_b2s hf
  refine fw_ci hH (fw_rS (As := [.int x1, .int (0 : Int32), .int (w1 - (1 : Int32))]) (rest := []) X hH (kX8_in  g3 _) qX8_in tw_4_17 ⟨Nat.le_of_ble_eq_true rfl, Nat.le_of_ble_eq_true rfl⟩ rfl rfl rfl hl.1 rfl (Nat.le_of_ble_eq_true rfl) dX8_isFilter_11) (fun H locs hH => ?_)
  obtain ⟨rfl, rfl, hz⟩ := fw_rzs hf
  exact fw_retz X hH hz dX8_isFilter_14
abbrev rmX8_dropFilter : Room := { frames := 0, cells := 0, slots := 0, locals := 0 }
theorem qX8_dropFilter : fw_QV RX8 yX8_dropFilter cX8_dropFilter 3 none 1 := ⟨⟨tw_4_81, tv_X8_dropFilter, tw_1_10, tw_4_82⟩, by decide +kernel⟩
def pX8_dropFilter_7 : Nat → Int32 → fw_T → Option (fw_T)
  | 0, _, _ => none
  | n + 1, x2, σ =>
    if (47 : Int32) ≤ (x2 + (4 : Int32)) then
      (fw_rd σ 1 52 (22 : Int32)).bind fun w1 =>
      (fw_wr σ 1 52 (22 : Int32) (w1 - (1 : Int32))).bind fun τ3 =>
      some τ3
    else
      (fw_rd σ 1 52 (x2 + (4 : Int32))).bind fun w5 =>
      (fw_wr σ 1 52 x2 w5).bind fun τ7 =>
      pX8_dropFilter_7 n (x2 + (1 : Int32)) τ7
set_option maxRecDepth 100000 in
set_option maxHeartbeats 4000000 in
theorem wX8_dropFilter_7 {args : Array Value} {σ' : fw_T} (X : fmX p m c cX8_dropFilter 3 s args RX8 meth none D cI cB)  : ∀ (n : Nat), ∀ (x2 : Int32), ∀ (σ : fw_T), pX8_dropFilter_7 n x2 σ = some σ' → ∀ (H : Heap) (locs : List Loc) (ls : Array Slot), fmH D cI cB adr A s H locs σ → lv_has ls 3 [(0, .ref (adr 0)), (2, .int x2)] → W p l e rmX8_dropFilter s m args below meth c H locs 0 0 (fw_Qv D 7 adr (fw_M cI cB adr) A below args s σ') (F0 m 7 ls []) := by
  have hx := X.1.1
  have hb := X.1.2.1
  intro n
  induction n with
  | zero =>
    intro x2 σ hf
    exact absurd hf (by simp [pX8_dropFilter_7])
  | succ n ih =>
    intro x2 σ hf H locs ls hH hl
    rw [pX8_dropFilter_7] at hf
    refine lv_iload_n hx hb dX8_dropFilter_7 rfl (lv_at hl 1 rfl) ?_
    refine lv_iconst (v := (4 : Int32)) hx hb dX8_dropFilter_8 (by decide) ?_
    refine lv_iadd hx hb dX8_dropFilter_9 ?_
    refine lv_bipush (v := (47 : Int32)) hx hb dX8_dropFilter_10 (by decide) ?_
    refine lv_icmp_ge (tgt := 35) hx hb dX8_dropFilter_12 (by decide) (fun hc => ?_) (fun hc => ?_)
    · have hf := fw_pos hc hf
      refine lv_aload_n hx hb dX8_dropFilter_35 rfl (lv_at hl 0 rfl) ?_
      refine fw_get (id := 0) (k := 0) (v := .ref (adr 1)) X hH (by decide) rfl rfl inX8 (by decide) rfl tw_3_202 dX8_dropFilter_36 ?_
      refine lv_bipush (v := (22 : Int32)) hx hb dX8_dropFilter_39 (by decide) ?_
      refine lv_dup2_11 hx hb dX8_dropFilter_41 rfl rfl ?_
      obtain ⟨w1, g2, hf⟩ := fw_bd hf
      refine fw_iald (id := 1) (n := 52) X hH (by decide) rfl rfl g2 dX8_dropFilter_42 ?_
      refine lv_iconst (v := (1 : Int32)) hx hb dX8_dropFilter_43 (by decide) ?_
      refine lv_isub hx hb dX8_dropFilter_44 ?_
      obtain ⟨τ3, g4, hf⟩ := fw_bd hf
      refine fw_iast (id := 1) (n := 52) X hH (by decide) (fun σ => rfl) (fun k x j h => fm_ne h) rfl g4 dX8_dropFilter_45 (fun H locs hH => ?_)
      obtain rfl := Option.some.inj hf
      exact fw_retv X hH dX8_dropFilter_46
    · have hf := fw_neg hc hf
      refine lv_aload_n hx hb dX8_dropFilter_15 rfl (lv_at hl 0 rfl) ?_
      refine fw_get (id := 0) (k := 0) (v := .ref (adr 1)) X hH (by decide) rfl rfl inX8 (by decide) rfl tw_3_202 dX8_dropFilter_16 ?_
      refine lv_iload_n hx hb dX8_dropFilter_19 rfl (lv_at hl 1 rfl) ?_
      refine lv_aload_n hx hb dX8_dropFilter_20 rfl (lv_at hl 0 rfl) ?_
      refine fw_get (id := 0) (k := 0) (v := .ref (adr 1)) X hH (by decide) rfl rfl inX8 (by decide) rfl tw_3_202 dX8_dropFilter_21 ?_
      refine lv_iload_n hx hb dX8_dropFilter_24 rfl (lv_at hl 1 rfl) ?_
      refine lv_iconst (v := (4 : Int32)) hx hb dX8_dropFilter_25 (by decide) ?_
      refine lv_iadd hx hb dX8_dropFilter_26 ?_
      obtain ⟨w5, g6, hf⟩ := fw_bd hf
      refine fw_iald (id := 1) (n := 52) X hH (by decide) rfl rfl g6 dX8_dropFilter_27 ?_
      obtain ⟨τ7, g8, hf⟩ := fw_bd hf
      refine fw_iast (id := 1) (n := 52) X hH (by decide) (fun σ => rfl) (fun k x j h => fm_ne h) rfl g8 dX8_dropFilter_28 (fun H locs hH => ?_)
      refine lv_iinc (v := (x2 + (1 : Int32))) (lv' := [(2, .int (x2 + (1 : Int32))), (0, .ref (adr 0))]) hx hb dX8_dropFilter_29 hl (k := 1) rfl rfl (by decide) rfl (fun ls hl => ?_)
      refine lv_goto (tgt := 7) hx hb dX8_dropFilter_32 (by decide) ?_
      exact ih (x2 + (1 : Int32)) τ7 hf _ _ _ hH (lv_sub hl [1, 0] rfl)
def pX8_dropFilter (x1 : Int32) (σ : fw_T) : Option (fw_T) :=
  pX8_dropFilter_7 400 ((23 : Int32) + ((4 : Int32) * x1)) σ
set_option maxRecDepth 100000 in
set_option maxHeartbeats 4000000 in
theorem kX8_dropFilter {x1 : Int32} {σ σ' : fw_T} (hf : pX8_dropFilter x1 σ = some σ') : fw_Cv l yX8_dropFilter (Cond.code yX8_dropFilter cX8_dropFilter 3 none :: lwT) rmX8_dropFilter [.ref (adr 0), .int x1] D 7 adr (fw_M cI cB adr) (fmT cI cB) [] σ σ' := by
  refine fw_start (Qc := (fun A => va_Qv (fun (_ : Unit) => True) (fun _ t => va_P D vwCl (fw_ws 7 adr (fw_M cI cB adr σ')) t.heap) A)) (by decide) (by simp [lg_sl, Value.category]) rfl ?_
  intro p e s m below meth c A X hH ls hl
  have hx := X.1.1
  have hb := X.1.2.1
  have hl : lv_has ls 3 [(0, .ref (adr 0)), (1, .int x1)] := hl
  unfold pX8_dropFilter at hf
  refine lv_bipush (v := (23 : Int32)) hx hb dX8_dropFilter_0 (by decide) ?_
  refine lv_iconst (v := (4 : Int32)) hx hb dX8_dropFilter_2 (by decide) ?_
  refine lv_iload_n hx hb dX8_dropFilter_3 rfl (lv_at hl 1 rfl) ?_
  refine lv_imul hx hb dX8_dropFilter_4 ?_
  refine lv_iadd hx hb dX8_dropFilter_5 ?_
  refine lv_istore_n (lv' := [(2, .int ((23 : Int32) + ((4 : Int32) * x1))), (0, .ref (adr 0)), (1, .int x1)]) hx hb dX8_dropFilter_6 rfl hl (by decide) rfl (fun ls hl => ?_)
  exact wX8_dropFilter_7 X 400 ((23 : Int32) + ((4 : Int32) * x1)) σ hf _ _ _ hH (lv_sub hl [1, 0] rfl)
abbrev rmX8_removeFilter : Room := { frames := 2, cells := 0, slots := 0, locals := 43 }
theorem qX8_removeFilter : fw_QV RX8 yX8_removeFilter cX8_removeFilter 2 (some .int) 1 := ⟨⟨tw_4_72, tw_4_73, tw_1_10, tw_4_74⟩, by decide +kernel⟩
def pX8_removeFilter (x1 : Int32) (σ : fw_T) : Option (Int32 × fw_T) :=
  fw_b2 (pX8_isFilter x1 σ) fun w3 τ2 =>
  if w3 = 0 then
    fw_b2 (pX8_fail (-10002 : Int32) τ2) fun w12 τ11 =>
    some (w12, τ11)
  else
    (pX8_note τ2).bind fun τ5 =>
    (pX8_dropFilter x1 τ5).bind fun τ7 =>
    (fw_rd τ7 1 52 (22 : Int32)).bind fun w8 =>
    some (w8, τ7)
set_option maxRecDepth 100000 in
set_option maxHeartbeats 4000000 in
theorem kX8_removeFilter {x1 : Int32} {r : Int32} {σ σ' : fw_T} (hf : pX8_removeFilter x1 σ = some (r, σ')) : fw_Ci l yX8_removeFilter (Cond.code yX8_removeFilter cX8_removeFilter 2 (some .int) :: lwT) rmX8_removeFilter [.ref (adr 0), .int x1] D 7 adr (fw_M cI cB adr) (fmT cI cB) [] σ r σ' := by
  refine fw_start (Qc := (fun A => va_Qi (fun r' (_ : Unit) => r' = r) (fun _ t => va_P D vwCl (fw_ws 7 adr (fw_M cI cB adr σ')) t.heap) A)) (by decide) (by simp [lg_sl, Value.category]) rfl ?_
  intro p e s m below meth c A X hH ls hl
  have hx := X.1.1
  have hb := X.1.2.1
  have hl : lv_has ls 2 [(0, .ref (adr 0)), (1, .int x1)] := hl
  unfold pX8_removeFilter at hf
  refine lv_aload_n hx hb dX8_removeFilter_0 rfl (lv_at hl 0 rfl) ?_
  refine lv_iload_n hx hb dX8_removeFilter_1 rfl (lv_at hl 1 rfl) ?_
  obtain ⟨w3, τ2, g1, hf⟩ := fw_b2s hf
  refine fw_ci hH (fw_rV (As := [.int x1]) (rest := []) (id := 0) X hH (kX8_isFilter  g1 _) qX8_isFilter tw_4_75 ⟨Nat.le_of_ble_eq_true rfl, Nat.le_of_ble_eq_true rfl⟩ rfl rfl (by decide) rfl rfl rfl hl.1 rfl (Nat.le_of_ble_eq_true rfl) dX8_removeFilter_2) (fun H locs hH => ?_)
  refine lv_if_ne (tgt := 16) hx hb dX8_removeFilter_5 (by decide) (fun hc => ?_) (fun hc => ?_)
  · have hf := fw_neg hc hf
    refine lv_aload_n hx hb dX8_removeFilter_16 rfl (lv_at hl 0 rfl) ?_
    obtain ⟨τ5, g4, hf⟩ := fw_bd hf
    refine fw_cv hH (fw_rV (As := []) (rest := []) (id := 0) X hH (kX8_note  g4 _) qX8_note tw_4_28 ⟨Nat.le_of_ble_eq_true rfl, Nat.le_of_ble_eq_true rfl⟩ rfl rfl (by decide) rfl rfl rfl hl.1 rfl (Nat.le_of_ble_eq_true rfl) dX8_removeFilter_17) (fun H locs hH => ?_)
    refine lv_aload_n hx hb dX8_removeFilter_20 rfl (lv_at hl 0 rfl) ?_
    refine lv_iload_n hx hb dX8_removeFilter_21 rfl (lv_at hl 1 rfl) ?_
    obtain ⟨τ7, g6, hf⟩ := fw_bd hf
    refine fw_cv hH (fw_rV (As := [.int x1]) (rest := []) (id := 0) X hH (kX8_dropFilter  g6 _) qX8_dropFilter tw_4_79 ⟨Nat.le_of_ble_eq_true rfl, Nat.le_of_ble_eq_true rfl⟩ rfl rfl (by decide) rfl rfl rfl hl.1 rfl (Nat.le_of_ble_eq_true rfl) dX8_removeFilter_22) (fun H locs hH => ?_)
    refine lv_aload_n hx hb dX8_removeFilter_25 rfl (lv_at hl 0 rfl) ?_
    refine fw_get (id := 0) (k := 0) (v := .ref (adr 1)) X hH (by decide) rfl rfl inX8 (by decide) rfl tw_3_202 dX8_removeFilter_26 ?_
    refine lv_bipush (v := (22 : Int32)) hx hb dX8_removeFilter_29 (by decide) ?_
    obtain ⟨w8, g9, hf⟩ := fw_bd hf
    refine fw_iald (id := 1) (n := 52) X hH (by decide) rfl rfl g9 dX8_removeFilter_31 ?_
    obtain ⟨rfl, rfl⟩ := fw_s2 hf
    exact fw_reti X hH dX8_removeFilter_32
  · have hf := fw_pos hc hf
    refine lv_aload_n hx hb dX8_removeFilter_8 rfl (lv_at hl 0 rfl) ?_
    refine lv_sipush (v := (-10002 : Int32)) hx hb dX8_removeFilter_9 (by decide) ?_
    obtain ⟨w12, τ11, g10, hf⟩ := fw_b2s hf
    refine fw_ci hH (fw_rV (As := [.int (-10002 : Int32)]) (rest := []) (id := 0) X hH (kX8_fail  g10 _) qX8_fail tw_4_20 ⟨Nat.le_of_ble_eq_true rfl, Nat.le_of_ble_eq_true rfl⟩ rfl rfl (by decide) rfl rfl rfl hl.1 rfl (Nat.le_of_ble_eq_true rfl) dX8_removeFilter_12) (fun H locs hH => ?_)
    obtain ⟨rfl, rfl⟩ := fw_s2 hf
    exact fw_reti X hH dX8_removeFilter_15
abbrev rmX8_of : Room := { frames := 0, cells := 0, slots := 0, locals := 0 }
theorem qX8_of : fw_QV RX8 yX8_of cX8_of 3 (some .int) 2 := ⟨⟨tw_4_89, tv_X8_of, tw_1_10, tw_4_90⟩, by decide +kernel⟩
def pX8_of (x1 : Int32) (x2 : Int32) (σ : fw_T) : Option (Int32 × fw_T) :=
  (fw_rd σ 1 52 (((23 : Int32) + ((4 : Int32) * x1)) + x2)).bind fun w1 =>
  some (w1, σ)
set_option maxRecDepth 100000 in
set_option maxHeartbeats 4000000 in
theorem kX8_of {x1 : Int32} {x2 : Int32} {r : Int32} {σ σ' : fw_T} (hf : pX8_of x1 x2 σ = some (r, σ')) : fw_Ci l yX8_of (Cond.code yX8_of cX8_of 3 (some .int) :: lwT) rmX8_of [.ref (adr 0), .int x1, .int x2] D 7 adr (fw_M cI cB adr) (fmT cI cB) [] σ r σ' := by
  refine fw_start (Qc := (fun A => va_Qi (fun r' (_ : Unit) => r' = r) (fun _ t => va_P D vwCl (fw_ws 7 adr (fw_M cI cB adr σ')) t.heap) A)) (by decide) (by simp [lg_sl, Value.category]) rfl ?_
  intro p e s m below meth c A X hH ls hl
  have hx := X.1.1
  have hb := X.1.2.1
  have hl : lv_has ls 3 [(0, .ref (adr 0)), (1, .int x1), (2, .int x2)] := hl
  unfold pX8_of at hf
  refine lv_aload_n hx hb dX8_of_0 rfl (lv_at hl 0 rfl) ?_
  refine fw_get (id := 0) (k := 0) (v := .ref (adr 1)) X hH (by decide) rfl rfl inX8 (by decide) rfl tw_3_202 dX8_of_1 ?_
  refine lv_bipush (v := (23 : Int32)) hx hb dX8_of_4 (by decide) ?_
  refine lv_iconst (v := (4 : Int32)) hx hb dX8_of_6 (by decide) ?_
  refine lv_iload_n hx hb dX8_of_7 rfl (lv_at hl 1 rfl) ?_
  refine lv_imul hx hb dX8_of_8 ?_
  refine lv_iadd hx hb dX8_of_9 ?_
  refine lv_iload_n hx hb dX8_of_10 rfl (lv_at hl 2 rfl) ?_
  refine lv_iadd hx hb dX8_of_11 ?_
  obtain ⟨w1, g2, hf⟩ := fw_bd hf
  refine fw_iald (id := 1) (n := 52) X hH (by decide) rfl rfl g2 dX8_of_12 ?_
  obtain ⟨rfl, rfl⟩ := fw_s2 hf
  exact fw_reti X hH dX8_of_13
abbrev rmX8_setConstant : Room := { frames := 2, cells := 0, slots := 0, locals := 43 }
theorem qX8_setConstant : fw_QV RX8 yX8_setConstant cX8_setConstant 4 (some .int) 2 := ⟨⟨tw_4_84, tw_4_85, tw_1_10, tw_4_86⟩, by decide +kernel⟩
def pX8_setConstant (x1 : Int32) (x2 : Int32) (σ : fw_T) : Option (Int32 × fw_T) :=
  fw_b2 (pX8_isFilter x1 σ) fun w3 τ2 =>
  if w3 = 0 then
    fw_b2 (pX8_fail (-10002 : Int32) τ2) fun w6 τ5 =>
    some (w6, τ5)
  else
    fw_b2 (pX8_of x1 (0 : Int32) τ2) fun w9 τ8 =>
    fw_b2 (pX8_isConstant w9 x2 τ8) fun w12 τ11 =>
    if w12 = 0 then
      fw_b2 (pX8_fail (-10002 : Int32) τ11) fun w22 τ21 =>
      some (w22, τ21)
    else
      (pX8_note τ11).bind fun τ14 =>
      fw_b2 (pX8_of x1 (3 : Int32) τ14) fun w17 τ16 =>
      (fw_wr τ16 1 52 (((23 : Int32) + ((4 : Int32) * x1)) + (3 : Int32)) x2).bind fun τ18 =>
      some (w17, τ18)
set_option maxRecDepth 100000 in
set_option maxHeartbeats 4000000 in
theorem kX8_setConstant {x1 : Int32} {x2 : Int32} {r : Int32} {σ σ' : fw_T} (hf : pX8_setConstant x1 x2 σ = some (r, σ')) : fw_Ci l yX8_setConstant (Cond.code yX8_setConstant cX8_setConstant 4 (some .int) :: lwT) rmX8_setConstant [.ref (adr 0), .int x1, .int x2] D 7 adr (fw_M cI cB adr) (fmT cI cB) [] σ r σ' := by
  refine fw_start (Qc := (fun A => va_Qi (fun r' (_ : Unit) => r' = r) (fun _ t => va_P D vwCl (fw_ws 7 adr (fw_M cI cB adr σ')) t.heap) A)) (by decide) (by simp [lg_sl, Value.category]) rfl ?_
  intro p e s m below meth c A X hH ls hl
  have hx := X.1.1
  have hb := X.1.2.1
  have hl : lv_has ls 4 [(0, .ref (adr 0)), (1, .int x1), (2, .int x2)] := hl
  unfold pX8_setConstant at hf
  refine lv_aload_n hx hb dX8_setConstant_0 rfl (lv_at hl 0 rfl) ?_
  refine lv_iload_n hx hb dX8_setConstant_1 rfl (lv_at hl 1 rfl) ?_
  obtain ⟨w3, τ2, g1, hf⟩ := fw_b2s hf
  refine fw_ci hH (fw_rV (As := [.int x1]) (rest := []) (id := 0) X hH (kX8_isFilter  g1 _) qX8_isFilter tw_4_75 ⟨Nat.le_of_ble_eq_true rfl, Nat.le_of_ble_eq_true rfl⟩ rfl rfl (by decide) rfl rfl rfl hl.1 rfl (Nat.le_of_ble_eq_true rfl) dX8_setConstant_2) (fun H locs hH => ?_)
  refine lv_if_eq (tgt := 21) hx hb dX8_setConstant_5 (by decide) (fun hc => ?_) (fun hc => ?_)
  · have hf := fw_pos hc hf
    refine lv_aload_n hx hb dX8_setConstant_21 rfl (lv_at hl 0 rfl) ?_
    refine lv_sipush (v := (-10002 : Int32)) hx hb dX8_setConstant_22 (by decide) ?_
    obtain ⟨w6, τ5, g4, hf⟩ := fw_b2s hf
    refine fw_ci hH (fw_rV (As := [.int (-10002 : Int32)]) (rest := []) (id := 0) X hH (kX8_fail  g4 _) qX8_fail tw_4_20 ⟨Nat.le_of_ble_eq_true rfl, Nat.le_of_ble_eq_true rfl⟩ rfl rfl (by decide) rfl rfl rfl hl.1 rfl (Nat.le_of_ble_eq_true rfl) dX8_setConstant_25) (fun H locs hH => ?_)
    obtain ⟨rfl, rfl⟩ := fw_s2 hf
    exact fw_reti X hH dX8_setConstant_28
  · have hf := fw_neg hc hf
    refine lv_aload_n hx hb dX8_setConstant_8 rfl (lv_at hl 0 rfl) ?_
    refine lv_iload_n hx hb dX8_setConstant_9 rfl (lv_at hl 1 rfl) ?_
    refine lv_iconst (v := (0 : Int32)) hx hb dX8_setConstant_10 (by decide) ?_
    obtain ⟨w9, τ8, g7, hf⟩ := fw_b2s hf
    refine fw_ci hH (fw_rV (As := [.int x1, .int (0 : Int32)]) (rest := []) (id := 0) X hH (kX8_of  g7 _) qX8_of tw_4_87 ⟨Nat.le_of_ble_eq_true rfl, Nat.le_of_ble_eq_true rfl⟩ rfl rfl (by decide) rfl rfl rfl hl.1 rfl (Nat.le_of_ble_eq_true rfl) dX8_setConstant_11) (fun H locs hH => ?_)
    refine lv_iload_n hx hb dX8_setConstant_14 rfl (lv_at hl 2 rfl) ?_
    obtain ⟨w12, τ11, g10, hf⟩ := fw_b2s hf
    refine fw_ci hH (fw_rS (As := [.int w9, .int x2]) (rest := []) X hH (kX8_isConstant  g10 _) qX8_isConstant tw_4_68 ⟨Nat.le_of_ble_eq_true rfl, Nat.le_of_ble_eq_true rfl⟩ rfl rfl rfl hl.1 rfl (Nat.le_of_ble_eq_true rfl) dX8_setConstant_15) (fun H locs hH => ?_)
    refine lv_if_ne (tgt := 29) hx hb dX8_setConstant_18 (by decide) (fun hc => ?_) (fun hc => ?_)
    · have hf := fw_neg hc hf
      refine lv_aload_n hx hb dX8_setConstant_29 rfl (lv_at hl 0 rfl) ?_
      obtain ⟨τ14, g13, hf⟩ := fw_bd hf
      refine fw_cv hH (fw_rV (As := []) (rest := []) (id := 0) X hH (kX8_note  g13 _) qX8_note tw_4_28 ⟨Nat.le_of_ble_eq_true rfl, Nat.le_of_ble_eq_true rfl⟩ rfl rfl (by decide) rfl rfl rfl hl.1 rfl (Nat.le_of_ble_eq_true rfl) dX8_setConstant_30) (fun H locs hH => ?_)
      refine lv_aload_n hx hb dX8_setConstant_33 rfl (lv_at hl 0 rfl) ?_
      refine lv_iload_n hx hb dX8_setConstant_34 rfl (lv_at hl 1 rfl) ?_
      refine lv_iconst (v := (3 : Int32)) hx hb dX8_setConstant_35 (by decide) ?_
      obtain ⟨w17, τ16, g15, hf⟩ := fw_b2s hf
      refine fw_ci hH (fw_rV (As := [.int x1, .int (3 : Int32)]) (rest := []) (id := 0) X hH (kX8_of  g15 _) qX8_of tw_4_87 ⟨Nat.le_of_ble_eq_true rfl, Nat.le_of_ble_eq_true rfl⟩ rfl rfl (by decide) rfl rfl rfl hl.1 rfl (Nat.le_of_ble_eq_true rfl) dX8_setConstant_36) (fun H locs hH => ?_)
      refine lv_istore_n (lv' := [(3, .int w17), (0, .ref (adr 0)), (1, .int x1), (2, .int x2)]) hx hb dX8_setConstant_39 rfl hl (by decide) rfl (fun ls hl => ?_)
      refine lv_aload_n hx hb dX8_setConstant_40 rfl (lv_at hl 1 rfl) ?_
      refine fw_get (id := 0) (k := 0) (v := .ref (adr 1)) X hH (by decide) rfl rfl inX8 (by decide) rfl tw_3_202 dX8_setConstant_41 ?_
      refine lv_bipush (v := (23 : Int32)) hx hb dX8_setConstant_44 (by decide) ?_
      refine lv_iconst (v := (4 : Int32)) hx hb dX8_setConstant_46 (by decide) ?_
      refine lv_iload_n hx hb dX8_setConstant_47 rfl (lv_at hl 2 rfl) ?_
      refine lv_imul hx hb dX8_setConstant_48 ?_
      refine lv_iadd hx hb dX8_setConstant_49 ?_
      refine lv_iconst (v := (3 : Int32)) hx hb dX8_setConstant_50 (by decide) ?_
      refine lv_iadd hx hb dX8_setConstant_51 ?_
      refine lv_iload_n hx hb dX8_setConstant_52 rfl (lv_at hl 3 rfl) ?_
      obtain ⟨τ18, g19, hf⟩ := fw_bd hf
      refine fw_iast (id := 1) (n := 52) X hH (by decide) (fun σ => rfl) (fun k x j h => fm_ne h) rfl g19 dX8_setConstant_53 (fun H locs hH => ?_)
      refine lv_iload_n hx hb dX8_setConstant_54 rfl (lv_at hl 0 rfl) ?_
      obtain ⟨rfl, rfl⟩ := fw_s2 hf
      exact fw_reti X hH dX8_setConstant_55
    · have hf := fw_pos hc hf
      refine lv_aload_n hx hb dX8_setConstant_21 rfl (lv_at hl 0 rfl) ?_
      refine lv_sipush (v := (-10002 : Int32)) hx hb dX8_setConstant_22 (by decide) ?_
      obtain ⟨w22, τ21, g20, hf⟩ := fw_b2s hf
      refine fw_ci hH (fw_rV (As := [.int (-10002 : Int32)]) (rest := []) (id := 0) X hH (kX8_fail  g20 _) qX8_fail tw_4_20 ⟨Nat.le_of_ble_eq_true rfl, Nat.le_of_ble_eq_true rfl⟩ rfl rfl (by decide) rfl rfl rfl hl.1 rfl (Nat.le_of_ble_eq_true rfl) dX8_setConstant_25) (fun H locs hH => ?_)
      obtain ⟨rfl, rfl⟩ := fw_s2 hf
      exact fw_reti X hH dX8_setConstant_28
abbrev rmX8_filterCount : Room := { frames := 0, cells := 0, slots := 0, locals := 0 }
theorem qX8_filterCount : fw_QV RX8 yX8_filterCount cX8_filterCount 1 (some .int) 0 := ⟨⟨tw_4_92, tw_4_93, tw_1_10, tw_4_94⟩, by decide +kernel⟩
def pX8_filterCount (σ : fw_T) : Option (Int32 × fw_T) :=
  (fw_rd σ 1 52 (22 : Int32)).bind fun w1 =>
  some (w1, σ)
set_option maxRecDepth 100000 in
set_option maxHeartbeats 4000000 in
theorem kX8_filterCount {r : Int32} {σ σ' : fw_T} (hf : pX8_filterCount σ = some (r, σ')) : fw_Ci l yX8_filterCount (Cond.code yX8_filterCount cX8_filterCount 1 (some .int) :: lwT) rmX8_filterCount [.ref (adr 0)] D 7 adr (fw_M cI cB adr) (fmT cI cB) [] σ r σ' := by
  refine fw_start (Qc := (fun A => va_Qi (fun r' (_ : Unit) => r' = r) (fun _ t => va_P D vwCl (fw_ws 7 adr (fw_M cI cB adr σ')) t.heap) A)) (by decide) (by simp [lg_sl, Value.category]) rfl ?_
  intro p e s m below meth c A X hH ls hl
  have hx := X.1.1
  have hb := X.1.2.1
  have hl : lv_has ls 1 [(0, .ref (adr 0))] := hl
  unfold pX8_filterCount at hf
  refine lv_aload_n hx hb dX8_filterCount_0 rfl (lv_at hl 0 rfl) ?_
  refine fw_get (id := 0) (k := 0) (v := .ref (adr 1)) X hH (by decide) rfl rfl inX8 (by decide) rfl tw_3_202 dX8_filterCount_1 ?_
  refine lv_bipush (v := (22 : Int32)) hx hb dX8_filterCount_4 (by decide) ?_
  obtain ⟨w1, g2, hf⟩ := fw_bd hf
  refine fw_iald (id := 1) (n := 52) X hH (by decide) rfl rfl g2 dX8_filterCount_6 ?_
  obtain ⟨rfl, rfl⟩ := fw_s2 hf
  exact fw_reti X hH dX8_filterCount_7
abbrev rmX8_constant : Room := { frames := 2, cells := 0, slots := 0, locals := 43 }
theorem qX8_constant : fw_QV RX8 yX8_constant cX8_constant 2 (some .int) 1 := ⟨⟨tw_4_96, tw_4_97, tw_1_10, tw_4_98⟩, by decide +kernel⟩
def pX8_constant (x1 : Int32) (σ : fw_T) : Option (Int32 × fw_T) :=
  fw_b2 (pX8_isFilter x1 σ) fun w3 τ2 =>
  if w3 = 0 then
    fw_b2 (pX8_fail (-10002 : Int32) τ2) fun w6 τ5 =>
    some (w6, τ5)
  else
    fw_b2 (pX8_of x1 (3 : Int32) τ2) fun w9 τ8 =>
    some (w9, τ8)
set_option maxRecDepth 100000 in
set_option maxHeartbeats 4000000 in
theorem kX8_constant {x1 : Int32} {r : Int32} {σ σ' : fw_T} (hf : pX8_constant x1 σ = some (r, σ')) : fw_Ci l yX8_constant (Cond.code yX8_constant cX8_constant 2 (some .int) :: lwT) rmX8_constant [.ref (adr 0), .int x1] D 7 adr (fw_M cI cB adr) (fmT cI cB) [] σ r σ' := by
  refine fw_start (Qc := (fun A => va_Qi (fun r' (_ : Unit) => r' = r) (fun _ t => va_P D vwCl (fw_ws 7 adr (fw_M cI cB adr σ')) t.heap) A)) (by decide) (by simp [lg_sl, Value.category]) rfl ?_
  intro p e s m below meth c A X hH ls hl
  have hx := X.1.1
  have hb := X.1.2.1
  have hl : lv_has ls 2 [(0, .ref (adr 0)), (1, .int x1)] := hl
  unfold pX8_constant at hf
  refine lv_aload_n hx hb dX8_constant_0 rfl (lv_at hl 0 rfl) ?_
  refine lv_iload_n hx hb dX8_constant_1 rfl (lv_at hl 1 rfl) ?_
  obtain ⟨w3, τ2, g1, hf⟩ := fw_b2s hf
  refine fw_ci hH (fw_rV (As := [.int x1]) (rest := []) (id := 0) X hH (kX8_isFilter  g1 _) qX8_isFilter tw_4_75 ⟨Nat.le_of_ble_eq_true rfl, Nat.le_of_ble_eq_true rfl⟩ rfl rfl (by decide) rfl rfl rfl hl.1 rfl (Nat.le_of_ble_eq_true rfl) dX8_constant_2) (fun H locs hH => ?_)
  refine lv_if_eq (tgt := 17) hx hb dX8_constant_5 (by decide) (fun hc => ?_) (fun hc => ?_)
  · have hf := fw_pos hc hf
    refine lv_aload_n hx hb dX8_constant_17 rfl (lv_at hl 0 rfl) ?_
    refine lv_sipush (v := (-10002 : Int32)) hx hb dX8_constant_18 (by decide) ?_
    obtain ⟨w6, τ5, g4, hf⟩ := fw_b2s hf
    refine fw_ci hH (fw_rV (As := [.int (-10002 : Int32)]) (rest := []) (id := 0) X hH (kX8_fail  g4 _) qX8_fail tw_4_20 ⟨Nat.le_of_ble_eq_true rfl, Nat.le_of_ble_eq_true rfl⟩ rfl rfl (by decide) rfl rfl rfl hl.1 rfl (Nat.le_of_ble_eq_true rfl) dX8_constant_21) (fun H locs hH => ?_)
    obtain ⟨rfl, rfl⟩ := fw_s2 hf
    exact fw_reti X hH dX8_constant_24
  · have hf := fw_neg hc hf
    refine lv_aload_n hx hb dX8_constant_8 rfl (lv_at hl 0 rfl) ?_
    refine lv_iload_n hx hb dX8_constant_9 rfl (lv_at hl 1 rfl) ?_
    refine lv_iconst (v := (3 : Int32)) hx hb dX8_constant_10 (by decide) ?_
    obtain ⟨w9, τ8, g7, hf⟩ := fw_b2s hf
    refine fw_ci hH (fw_rV (As := [.int x1, .int (3 : Int32)]) (rest := []) (id := 0) X hH (kX8_of  g7 _) qX8_of tw_4_87 ⟨Nat.le_of_ble_eq_true rfl, Nat.le_of_ble_eq_true rfl⟩ rfl rfl (by decide) rfl rfl rfl hl.1 rfl (Nat.le_of_ble_eq_true rfl) dX8_constant_11) (fun H locs hH => ?_)
    refine lv_goto (tgt := 24) hx hb dX8_constant_14 (by decide) ?_
    obtain ⟨rfl, rfl⟩ := fw_s2 hf
    exact fw_reti X hH dX8_constant_24
abbrev rmX8_columnOf : Room := { frames := 0, cells := 0, slots := 0, locals := 0 }
theorem qX8_columnOf : fw_QS yX8_columnOf cX8_columnOf 5 (some .int) 5 := ⟨⟨tw_4_112, tw_1_10, tw_4_113⟩, by decide +kernel⟩
def pX8_columnOf (x0 : Int32) (x1 : Int32) (x2 : Int32) (x3 : Int32) (x4 : Int32) (σ : fw_T) : Option (Int32 × fw_T) :=
  if x0 = 0 then
    if x1 = 0 then
      some (x2, σ)
    else
      some (x3, σ)
  else
    if x0 = (1 : Int32) then
      if x1 = 0 then
        some (x3, σ)
      else
        some (x4, σ)
    else
      if x1 = 0 then
        some ((x2 - x4), σ)
      else
        if x1 = (1 : Int32) then
          some ((x2 + x4), σ)
        else
          some (x3, σ)
set_option maxRecDepth 100000 in
set_option maxHeartbeats 4000000 in
theorem kX8_columnOf {x0 : Int32} {x1 : Int32} {x2 : Int32} {x3 : Int32} {x4 : Int32} {r : Int32} {σ σ' : fw_T} (hf : pX8_columnOf x0 x1 x2 x3 x4 σ = some (r, σ')) : fw_Ci l yX8_columnOf (Cond.code yX8_columnOf cX8_columnOf 5 (some .int) :: lwT) rmX8_columnOf [.int x0, .int x1, .int x2, .int x3, .int x4] D 7 adr (fw_M cI cB adr) (fmT cI cB) [] σ r σ' := by
  refine fw_start (Qc := (fun A => va_Qi (fun r' (_ : Unit) => r' = r) (fun _ t => va_P D vwCl (fw_ws 7 adr (fw_M cI cB adr σ')) t.heap) A)) (by decide) (by simp [lg_sl, Value.category]) rfl ?_
  intro p e s m below meth c A X hH ls hl
  have hx := X.1.1
  have hb := X.1.2.1
  have hl : lv_has ls 5 [(0, .int x0), (1, .int x1), (2, .int x2), (3, .int x3), (4, .int x4)] := hl
  unfold pX8_columnOf at hf
  refine lv_iload_n hx hb dX8_columnOf_0 rfl (lv_at hl 0 rfl) ?_
  refine lv_if_ne (tgt := 14) hx hb dX8_columnOf_1 (by decide) (fun hc => ?_) (fun hc => ?_)
  · have hf := fw_neg hc hf
    refine lv_iload_n hx hb dX8_columnOf_14 rfl (lv_at hl 0 rfl) ?_
    refine lv_iconst (v := (1 : Int32)) hx hb dX8_columnOf_15 (by decide) ?_
    refine lv_icmp_ne (tgt := 30) hx hb dX8_columnOf_16 (by decide) (fun hc => ?_) (fun hc => ?_)
    · have hf := fw_neg hc hf
      refine lv_iload_n hx hb dX8_columnOf_30 rfl (lv_at hl 1 rfl) ?_
      refine lv_if_ne (tgt := 41) hx hb dX8_columnOf_31 (by decide) (fun hc => ?_) (fun hc => ?_)
      · have hf := fw_neg hc hf
        refine lv_iload_n hx hb dX8_columnOf_41 rfl (lv_at hl 1 rfl) ?_
        refine lv_iconst (v := (1 : Int32)) hx hb dX8_columnOf_42 (by decide) ?_
        refine lv_icmp_ne (tgt := 53) hx hb dX8_columnOf_43 (by decide) (fun hc => ?_) (fun hc => ?_)
        · have hf := fw_neg hc hf
          refine lv_iload_n hx hb dX8_columnOf_53 rfl (lv_at hl 3 rfl) ?_
          obtain ⟨rfl, rfl⟩ := fw_s2 hf
          exact fw_reti X hH dX8_columnOf_54
        · have hf := fw_pos hc hf
          refine lv_iload_n hx hb dX8_columnOf_46 rfl (lv_at hl 2 rfl) ?_
          refine lv_iload hx hb dX8_columnOf_47 (lv_at hl 4 rfl) ?_
          refine lv_iadd hx hb dX8_columnOf_49 ?_
          refine lv_goto (tgt := 54) hx hb dX8_columnOf_50 (by decide) ?_
          obtain ⟨rfl, rfl⟩ := fw_s2 hf
          exact fw_reti X hH dX8_columnOf_54
      · have hf := fw_pos hc hf
        refine lv_iload_n hx hb dX8_columnOf_34 rfl (lv_at hl 2 rfl) ?_
        refine lv_iload hx hb dX8_columnOf_35 (lv_at hl 4 rfl) ?_
        refine lv_isub hx hb dX8_columnOf_37 ?_
        refine lv_goto (tgt := 54) hx hb dX8_columnOf_38 (by decide) ?_
        obtain ⟨rfl, rfl⟩ := fw_s2 hf
        exact fw_reti X hH dX8_columnOf_54
    · have hf := fw_pos hc hf
      refine lv_iload_n hx hb dX8_columnOf_19 rfl (lv_at hl 1 rfl) ?_
      refine lv_if_ne (tgt := 27) hx hb dX8_columnOf_20 (by decide) (fun hc => ?_) (fun hc => ?_)
      · have hf := fw_neg hc hf
        refine lv_iload hx hb dX8_columnOf_27 (lv_at hl 4 rfl) ?_
        obtain ⟨rfl, rfl⟩ := fw_s2 hf
        exact fw_reti X hH dX8_columnOf_29
      · have hf := fw_pos hc hf
        refine lv_iload_n hx hb dX8_columnOf_23 rfl (lv_at hl 3 rfl) ?_
        refine lv_goto (tgt := 29) hx hb dX8_columnOf_24 (by decide) ?_
        obtain ⟨rfl, rfl⟩ := fw_s2 hf
        exact fw_reti X hH dX8_columnOf_29
  · have hf := fw_pos hc hf
    refine lv_iload_n hx hb dX8_columnOf_4 rfl (lv_at hl 1 rfl) ?_
    refine lv_if_ne (tgt := 12) hx hb dX8_columnOf_5 (by decide) (fun hc => ?_) (fun hc => ?_)
    · have hf := fw_neg hc hf
      refine lv_iload_n hx hb dX8_columnOf_12 rfl (lv_at hl 3 rfl) ?_
      obtain ⟨rfl, rfl⟩ := fw_s2 hf
      exact fw_reti X hH dX8_columnOf_13
    · have hf := fw_pos hc hf
      refine lv_iload_n hx hb dX8_columnOf_8 rfl (lv_at hl 2 rfl) ?_
      refine lv_goto (tgt := 13) hx hb dX8_columnOf_9 (by decide) ?_
      obtain ⟨rfl, rfl⟩ := fw_s2 hf
      exact fw_reti X hH dX8_columnOf_13
end
