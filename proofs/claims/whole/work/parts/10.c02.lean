section
variable {p : Program} {l : Launch} {e : Env} {s : State} {m : MethodId} {below : List Frame} {meth : Method} {c : Code} {D : va_G} {cI cO cB : ClassId} {adr : Nat → Nat} {A : Nat → Prop}
abbrev rmX2_firstsOf : Room := { frames := 2, cells := 0, slots := 0, locals := 42 }
theorem qX2_firstsOf : fw_QV RX2 yX2_firstsOf cX2_firstsOf 4 (some .int) 1 := ⟨⟨tw_2_182, tw_2_183, tw_1_4, tw_2_184⟩, by decide +kernel⟩
def pX2_firstsOf_4 (h : Nat) : Nat → Int32 → Int32 → Int32 → fw_T → Option (Int32 × fw_T)
  | 0, _, _, _, _ => none
  | n + 1, x1, x2, x3, σ =>
    if (fw_g σ h 2) ≤ x3 then
      some (x2, σ)
    else
      fw_b2 (pX2_secondAt h x3 σ) fun w3 τ2 =>
      if w3 = x1 then
        fw_b2 (pX2_firstAt h x3 τ2) fun w6 τ5 =>
        pX2_firstsOf_4 h n x1 (x2 ||| ((1 : Int32) <<< (w6 &&& 31))) (x3 + (1 : Int32)) τ5
      else
        pX2_firstsOf_4 h n x1 x2 (x3 + (1 : Int32)) τ2
set_option maxRecDepth 100000 in
set_option maxHeartbeats 4000000 in
theorem wX2_firstsOf_4 {h : Nat} (hk : fw_PL h) {args : Array Value} {r : Int32} {σ' : fw_T} (X : fcX p m c cX2_firstsOf 4 s args RX2 meth (some .int) D cI cO)  : ∀ (n : Nat), ∀ (x1 : Int32), ∀ (x2 : Int32), ∀ (x3 : Int32), ∀ (σ : fw_T), pX2_firstsOf_4 h n x1 x2 x3 σ = some (r, σ') → ∀ (H : Heap) (locs : List Loc) (ls : Array Slot), fcH D cI cO adr A s H locs σ → lv_has ls 4 [(0, .ref (adr h)), (1, .int x1), (2, .int x2), (3, .int x3)] → W p l e rmX2_firstsOf s m args below meth c H locs 0 0 (fw_Qi D 96 adr (fw_C cI cO adr) A below args s r σ') (F0 m 4 ls []) := by
  have hx := X.1.1
  have hb := X.1.2.1
  intro n
  induction n with
  | zero =>
    intro x1 x2 x3 σ hf
    exact absurd hf (by simp [pX2_firstsOf_4])
  | succ n ih =>
    intro x1 x2 x3 σ hf H locs ls hH hl
    rw [pX2_firstsOf_4] at hf
    refine lv_iload_n hx hb dX2_firstsOf_4 rfl (lv_at hl 3 rfl) ?_
    refine lv_aload_n hx hb dX2_firstsOf_5 rfl (lv_at hl 0 rfl) ?_
    refine fw_get (id := h) (k := 2) (v := .int (fw_g σ h 2)) X hH hk.2.1 (fc_13 hk.1) rfl inX2 (by decide) rfl tw_1_45 dX2_firstsOf_6 ?_
    refine lv_icmp_ge (tgt := 37) hx hb dX2_firstsOf_9 (by decide) (fun hc => ?_) (fun hc => ?_)
    · have hf := fw_pos hc hf
      refine lv_iload_n hx hb dX2_firstsOf_37 rfl (lv_at hl 2 rfl) ?_
      obtain ⟨rfl, rfl⟩ := fw_s2 hf
      exact fw_reti X hH dX2_firstsOf_38
    · have hf := fw_neg hc hf
      refine lv_aload_n hx hb dX2_firstsOf_12 rfl (lv_at hl 0 rfl) ?_
      refine lv_iload_n hx hb dX2_firstsOf_13 rfl (lv_at hl 3 rfl) ?_
      obtain ⟨w3, τ2, g1, hf⟩ := fw_b2s hf
      refine fw_ci hH (fw_rV (As := [.int x3]) (rest := []) (id := h) X hH (kX2_secondAt hk g1 _) qX2_secondAt tw_2_180 ⟨Nat.le_of_ble_eq_true rfl, Nat.le_of_ble_eq_true rfl⟩ rfl rfl hk.2.1 (fc_13 hk.1) rfl rfl hl.1 rfl (Nat.le_of_ble_eq_true rfl) dX2_firstsOf_14) (fun H locs hH => ?_)
      refine lv_iload_n hx hb dX2_firstsOf_17 rfl (lv_at hl 1 rfl) ?_
      refine lv_icmp_ne (tgt := 31) hx hb dX2_firstsOf_18 (by decide) (fun hc => ?_) (fun hc => ?_)
      · have hf := fw_neg hc hf
        refine lv_iinc (v := (x3 + (1 : Int32))) (lv' := [(3, .int (x3 + (1 : Int32))), (0, .ref (adr h)), (1, .int x1), (2, .int x2)]) hx hb dX2_firstsOf_31 hl (k := 3) rfl rfl (by decide) rfl (fun ls hl => ?_)
        refine lv_goto (tgt := 4) hx hb dX2_firstsOf_34 (by decide) ?_
        exact ih x1 x2 (x3 + (1 : Int32)) τ2 hf _ _ _ hH (lv_sub hl [1, 2, 3, 0] rfl)
      · have hf := fw_pos hc hf
        refine lv_iload_n hx hb dX2_firstsOf_21 rfl (lv_at hl 2 rfl) ?_
        refine lv_iconst (v := (1 : Int32)) hx hb dX2_firstsOf_22 (by decide) ?_
        refine lv_aload_n hx hb dX2_firstsOf_23 rfl (lv_at hl 0 rfl) ?_
        refine lv_iload_n hx hb dX2_firstsOf_24 rfl (lv_at hl 3 rfl) ?_
        obtain ⟨w6, τ5, g4, hf⟩ := fw_b2s hf
        refine fw_ci hH (fw_rV (As := [.int x3]) (rest := [.int (1 : Int32), .int x2]) (id := h) X hH (kX2_firstAt hk g4 _) qX2_firstAt tw_2_179 ⟨Nat.le_of_ble_eq_true rfl, Nat.le_of_ble_eq_true rfl⟩ rfl rfl hk.2.1 (fc_13 hk.1) rfl rfl hl.1 rfl (Nat.le_of_ble_eq_true rfl) dX2_firstsOf_25) (fun H locs hH => ?_)
        refine lv_ishl hx hb dX2_firstsOf_28 ?_
        refine lv_ior hx hb dX2_firstsOf_29 ?_
        refine lv_istore_n (lv' := [(2, .int (x2 ||| ((1 : Int32) <<< (w6 &&& 31)))), (0, .ref (adr h)), (1, .int x1), (3, .int x3)]) hx hb dX2_firstsOf_30 rfl hl (by decide) rfl (fun ls hl => ?_)
        refine lv_iinc (v := (x3 + (1 : Int32))) (lv' := [(3, .int (x3 + (1 : Int32))), (2, .int (x2 ||| ((1 : Int32) <<< (w6 &&& 31)))), (0, .ref (adr h)), (1, .int x1)]) hx hb dX2_firstsOf_31 hl (k := 3) rfl rfl (by decide) rfl (fun ls hl => ?_)
        refine lv_goto (tgt := 4) hx hb dX2_firstsOf_34 (by decide) ?_
        exact ih x1 (x2 ||| ((1 : Int32) <<< (w6 &&& 31))) (x3 + (1 : Int32)) τ5 hf _ _ _ hH (lv_sub hl [2, 3, 1, 0] rfl)
def pX2_firstsOf (h : Nat) (x1 : Int32) (σ : fw_T) : Option (Int32 × fw_T) :=
  pX2_firstsOf_4 h 400 x1 (0 : Int32) (0 : Int32) σ
set_option maxRecDepth 100000 in
set_option maxHeartbeats 4000000 in
theorem kX2_firstsOf {h : Nat} (hk : fw_PL h) {x1 : Int32} {r : Int32} {σ σ' : fw_T} (hf : pX2_firstsOf h x1 σ = some (r, σ')) : fw_Ci l yX2_firstsOf (Cond.code yX2_firstsOf cX2_firstsOf 4 (some .int) :: lwT) rmX2_firstsOf [.ref (adr h), .int x1] D 96 adr (fw_C cI cO adr) (fcT cI cO) nwC σ r σ' := by
  refine fw_start (Qc := (fun A => va_Qi (fun r' (_ : Unit) => r' = r) (fun _ t => va_P D vwCl (fw_ws 96 adr (fw_C cI cO adr σ')) t.heap) A)) (by decide) (by simp [lg_sl, Value.category]) rfl ?_
  intro p e s m below meth c A X hH ls hl
  have hx := X.1.1
  have hb := X.1.2.1
  have hl : lv_has ls 4 [(0, .ref (adr h)), (1, .int x1)] := hl
  unfold pX2_firstsOf at hf
  refine lv_iconst (v := (0 : Int32)) hx hb dX2_firstsOf_0 (by decide) ?_
  refine lv_istore_n (lv' := [(2, .int (0 : Int32)), (0, .ref (adr h)), (1, .int x1)]) hx hb dX2_firstsOf_1 rfl hl (by decide) rfl (fun ls hl => ?_)
  refine lv_iconst (v := (0 : Int32)) hx hb dX2_firstsOf_2 (by decide) ?_
  refine lv_istore_n (lv' := [(3, .int (0 : Int32)), (2, .int (0 : Int32)), (0, .ref (adr h)), (1, .int x1)]) hx hb dX2_firstsOf_3 rfl hl (by decide) rfl (fun ls hl => ?_)
  exact wX2_firstsOf_4 hk X 400 x1 (0 : Int32) (0 : Int32) σ hf _ _ _ hH (lv_sub hl [2, 3, 1, 0] rfl)
abbrev rmX3_joinedBs : Room := { frames := 3, cells := 0, slots := 0, locals := 65 }
theorem qX3_joinedBs : fw_QV RX3 yX3_joinedBs cX3_joinedBs 3 (some .int) 2 := ⟨⟨tw_2_173, tv_X3_joinedBs, tw_1_2, tw_2_174⟩, by decide +kernel⟩
def pX3_joinedBs (x1 : Int32) (x2 : Int32) (σ : fw_T) : Option (Int32 × fw_T) :=
  fw_b2 (pX2_secondsOf 13 x1 σ) fun w3 τ2 =>
  fw_b2 (pX2_firstsOf 15 x2 τ2) fun w6 τ5 =>
  some ((w3 &&& w6), τ5)
set_option maxRecDepth 100000 in
set_option maxHeartbeats 4000000 in
theorem kX3_joinedBs {x1 : Int32} {x2 : Int32} {r : Int32} {σ σ' : fw_T} (hf : pX3_joinedBs x1 x2 σ = some (r, σ')) : fw_Ci l yX3_joinedBs (Cond.code yX3_joinedBs cX3_joinedBs 3 (some .int) :: lwT) rmX3_joinedBs [.ref (adr 1), .int x1, .int x2] D 96 adr (fw_C cI cO adr) (fcT cI cO) nwC σ r σ' := by
  refine fw_start (Qc := (fun A => va_Qi (fun r' (_ : Unit) => r' = r) (fun _ t => va_P D vwCl (fw_ws 96 adr (fw_C cI cO adr σ')) t.heap) A)) (by decide) (by simp [lg_sl, Value.category]) rfl ?_
  intro p e s m below meth c A X hH ls hl
  have hx := X.1.1
  have hb := X.1.2.1
  have hl : lv_has ls 3 [(0, .ref (adr 1)), (1, .int x1), (2, .int x2)] := hl
  unfold pX3_joinedBs at hf
  refine lv_aload_n hx hb dX3_joinedBs_0 rfl (lv_at hl 0 rfl) ?_
  refine fw_get (id := 1) (k := 0) (v := .ref (adr 12)) X hH (by decide) (fc_1 (by decide)) rfl inX3 (by decide) rfl tw_1_105 dX3_joinedBs_1 ?_
  refine fw_getN (id := 12) (k := 0) (v := .ref (adr 13)) X hH (by decide) (fc_12 (by decide)) rfl inX5 (by decide) rfl nw_1_86 dX3_joinedBs_4 ?_
  refine lv_iload_n hx hb dX3_joinedBs_7 rfl (lv_at hl 1 rfl) ?_
  obtain ⟨w3, τ2, g1, hf⟩ := fw_b2s hf
  refine fw_ci hH (fw_rV (As := [.int x1]) (rest := []) (id := 13) X hH (kX2_secondsOf (by unfold fw_PL; decide) g1 _) qX2_secondsOf tw_2_175 ⟨Nat.le_of_ble_eq_true rfl, Nat.le_of_ble_eq_true rfl⟩ rfl rfl (by decide) (fc_13 (by decide)) rfl rfl hl.1 rfl (Nat.le_of_ble_eq_true rfl) dX3_joinedBs_8) (fun H locs hH => ?_)
  refine lv_aload_n hx hb dX3_joinedBs_11 rfl (lv_at hl 0 rfl) ?_
  refine fw_get (id := 1) (k := 0) (v := .ref (adr 12)) X hH (by decide) (fc_1 (by decide)) rfl inX3 (by decide) rfl tw_1_105 dX3_joinedBs_12 ?_
  refine fw_getN (id := 12) (k := 1) (v := .ref (adr 15)) X hH (by decide) (fc_12 (by decide)) rfl inX5 (by decide) rfl nw_1_89 dX3_joinedBs_15 ?_
  refine lv_iload_n hx hb dX3_joinedBs_18 rfl (lv_at hl 2 rfl) ?_
  obtain ⟨w6, τ5, g4, hf⟩ := fw_b2s hf
  refine fw_ci hH (fw_rV (As := [.int x2]) (rest := [.int w3]) (id := 15) X hH (kX2_firstsOf (by unfold fw_PL; decide) g4 _) qX2_firstsOf tw_2_181 ⟨Nat.le_of_ble_eq_true rfl, Nat.le_of_ble_eq_true rfl⟩ rfl rfl (by decide) (fc_13 (by decide)) rfl rfl hl.1 rfl (Nat.le_of_ble_eq_true rfl) dX3_joinedBs_19) (fun H locs hH => ?_)
  refine lv_iand hx hb dX3_joinedBs_22 ?_
  obtain ⟨rfl, rfl⟩ := fw_s2 hf
  exact fw_reti X hH dX3_joinedBs_23
abbrev rmX7_isIn : Room := { frames := 0, cells := 0, slots := 0, locals := 0 }
theorem qX7_isIn : fw_QS yX7_isIn cX7_isIn 2 (some .boolean) 2 := ⟨⟨tw_2_186, tw_1_1, tw_2_187⟩, by decide +kernel⟩
def pX7_isIn (x0 : Int32) (x1 : Int32) (σ : fw_T) : Option (Int32 × fw_T) :=
  if (x0 &&& ((1 : Int32) <<< (x1 &&& 31))) = 0 then
    fw_rz (0 : Int32) σ
  else
    fw_rz (1 : Int32) σ
set_option maxRecDepth 100000 in
set_option maxHeartbeats 4000000 in
theorem kX7_isIn {x0 : Int32} {x1 : Int32} {r : Int32} {σ σ' : fw_T} (hf : pX7_isIn x0 x1 σ = some (r, σ')) : fw_Ci l yX7_isIn (Cond.code yX7_isIn cX7_isIn 2 (some .boolean) :: lwT) rmX7_isIn [.int x0, .int x1] D 96 adr (fw_C cI cO adr) (fcT cI cO) nwC σ r σ' := by
  refine fw_start (Qc := (fun A => va_Qi (fun r' (_ : Unit) => r' = r) (fun _ t => va_P D vwCl (fw_ws 96 adr (fw_C cI cO adr σ')) t.heap) A)) (by decide) (by simp [lg_sl, Value.category]) rfl ?_
  intro p e s m below meth c A X hH ls hl
  have hx := X.1.1
  have hb := X.1.2.1
  have hl : lv_has ls 2 [(0, .int x0), (1, .int x1)] := hl
  unfold pX7_isIn at hf
  refine lv_iload_n hx hb dX7_isIn_0 rfl (lv_at hl 0 rfl) ?_
  refine lv_iconst (v := (1 : Int32)) hx hb dX7_isIn_1 (by decide) ?_
  refine lv_iload_n hx hb dX7_isIn_2 rfl (lv_at hl 1 rfl) ?_
  refine lv_ishl hx hb dX7_isIn_3 ?_
  refine lv_iand hx hb dX7_isIn_4 ?_
  refine lv_if_eq (tgt := 12) hx hb dX7_isIn_5 (by decide) (fun hc => ?_) (fun hc => ?_)
  · have hf := fw_pos hc hf
    refine lv_iconst (v := (0 : Int32)) hx hb dX7_isIn_12 (by decide) ?_
    obtain ⟨rfl, rfl, hz⟩ := fw_rzs hf
    exact fw_retz X hH hz dX7_isIn_13
  · have hf := fw_neg hc hf
    refine lv_iconst (v := (1 : Int32)) hx hb dX7_isIn_8 (by decide) ?_
    refine lv_goto (tgt := 13) hx hb dX7_isIn_9 (by decide) ?_
    obtain ⟨rfl, rfl, hz⟩ := fw_rzs hf
    exact fw_retz X hH hz dX7_isIn_13
abbrev rmX3_countMatches : Room := { frames := 4, cells := 0, slots := 0, locals := 87 }
theorem qX3_countMatches : fw_QV RX3 yX3_countMatches cX3_countMatches 6 (some .int) 2 := ⟨⟨tw_2_168, tw_2_169, tw_1_2, tw_2_170⟩, by decide +kernel⟩
def pX3_countMatches_13 : Nat → Int32 → Int32 → Int32 → Int32 → Int32 → fw_T → Option (Int32 × fw_T)
  | 0, _, _, _, _, _, _ => none
  | n + 1, x1, x2, x3, x4, x5, σ =>
    if (10 : Int32) ≤ x5 then
      some (x4, σ)
    else
      fw_b2 (pX7_isIn x3 x5 σ) fun w6 τ5 =>
      if w6 = 0 then
        pX3_countMatches_13 n x1 x2 x3 x4 (x5 + (1 : Int32)) τ5
      else
        fw_b2 (pX0_rejecters 17 x1 x5 x2 τ5) fun w9 τ8 =>
        if w9 = 0 then
          pX3_countMatches_13 n x1 x2 x3 (x4 + (1 : Int32)) (x5 + (1 : Int32)) τ8
        else
          pX3_countMatches_13 n x1 x2 x3 x4 (x5 + (1 : Int32)) τ8
set_option maxRecDepth 100000 in
set_option maxHeartbeats 4000000 in
theorem wX3_countMatches_13 {args : Array Value} {r : Int32} {σ' : fw_T} (X : fcX p m c cX3_countMatches 6 s args RX3 meth (some .int) D cI cO)  : ∀ (n : Nat), ∀ (x1 : Int32), ∀ (x2 : Int32), ∀ (x3 : Int32), ∀ (x4 : Int32), ∀ (x5 : Int32), ∀ (σ : fw_T), pX3_countMatches_13 n x1 x2 x3 x4 x5 σ = some (r, σ') → ∀ (H : Heap) (locs : List Loc) (ls : Array Slot), fcH D cI cO adr A s H locs σ → lv_has ls 6 [(0, .ref (adr 1)), (1, .int x1), (2, .int x2), (3, .int x3), (4, .int x4), (5, .int x5)] → W p l e rmX3_countMatches s m args below meth c H locs 0 0 (fw_Qi D 96 adr (fw_C cI cO adr) A below args s r σ') (F0 m 13 ls []) := by
  have hx := X.1.1
  have hb := X.1.2.1
  intro n
  induction n with
  | zero =>
    intro x1 x2 x3 x4 x5 σ hf
    exact absurd hf (by simp [pX3_countMatches_13])
  | succ n ih =>
    intro x1 x2 x3 x4 x5 σ hf H locs ls hH hl
    rw [pX3_countMatches_13] at hf
    refine lv_iload hx hb dX3_countMatches_13 (lv_at hl 5 rfl) ?_
    refine lv_bipush (v := (10 : Int32)) hx hb dX3_countMatches_15 (by decide) ?_
    refine lv_icmp_ge (tgt := 55) hx hb dX3_countMatches_17 (by decide) (fun hc => ?_) (fun hc => ?_)
    · have hf := fw_pos hc hf
      refine lv_iload hx hb dX3_countMatches_55 (lv_at hl 4 rfl) ?_
      obtain ⟨rfl, rfl⟩ := fw_s2 hf
      exact fw_reti X hH dX3_countMatches_57
    · have hf := fw_neg hc hf
      refine lv_iload_n hx hb dX3_countMatches_20 rfl (lv_at hl 3 rfl) ?_
      refine lv_iload hx hb dX3_countMatches_21 (lv_at hl 5 rfl) ?_
      obtain ⟨w6, τ5, g4, hf⟩ := fw_b2s hf
      refine fw_ci hH (fw_rN (As := [.int x3, .int x5]) (rest := []) X hH (kX7_isIn  g4 _) qX7_isIn nw_2_185 ⟨Nat.le_of_ble_eq_true rfl, Nat.le_of_ble_eq_true rfl⟩ rfl rfl rfl hl.1 rfl (Nat.le_of_ble_eq_true rfl) dX3_countMatches_23) (fun H locs hH => ?_)
      refine lv_if_eq (tgt := 49) hx hb dX3_countMatches_26 (by decide) (fun hc => ?_) (fun hc => ?_)
      · have hf := fw_pos hc hf
        refine lv_iinc (v := (x5 + (1 : Int32))) (lv' := [(5, .int (x5 + (1 : Int32))), (0, .ref (adr 1)), (1, .int x1), (2, .int x2), (3, .int x3), (4, .int x4)]) hx hb dX3_countMatches_49 hl (k := 5) rfl rfl (by decide) rfl (fun ls hl => ?_)
        refine lv_goto (tgt := 13) hx hb dX3_countMatches_52 (by decide) ?_
        exact ih x1 x2 x3 x4 (x5 + (1 : Int32)) τ5 hf _ _ _ hH (lv_sub hl [1, 2, 3, 4, 5, 0] rfl)
      · have hf := fw_neg hc hf
        refine lv_aload_n hx hb dX3_countMatches_29 rfl (lv_at hl 0 rfl) ?_
        refine fw_get (id := 1) (k := 0) (v := .ref (adr 12)) X hH (by decide) (fc_1 (by decide)) rfl inX3 (by decide) rfl tw_1_105 dX3_countMatches_30 ?_
        refine fw_getN (id := 12) (k := 2) (v := .ref (adr 17)) X hH (by decide) (fc_12 (by decide)) rfl inX5 (by decide) rfl nw_1_91 dX3_countMatches_33 ?_
        refine lv_iload_n hx hb dX3_countMatches_36 rfl (lv_at hl 1 rfl) ?_
        refine lv_iload hx hb dX3_countMatches_37 (lv_at hl 5 rfl) ?_
        refine lv_iload_n hx hb dX3_countMatches_39 rfl (lv_at hl 2 rfl) ?_
        obtain ⟨w9, τ8, g7, hf⟩ := fw_b2s hf
        refine fw_ci hH (fw_rV (As := [.int x1, .int x5, .int x2]) (rest := []) (id := 17) X hH (kX0_rejecters (by unfold fw_FL; decide) g7 _) qX0_rejecters tw_2_149 ⟨Nat.le_of_ble_eq_true rfl, Nat.le_of_ble_eq_true rfl⟩ rfl rfl (by decide) (fc_15 (by decide)) rfl rfl hl.1 rfl (Nat.le_of_ble_eq_true rfl) dX3_countMatches_40) (fun H locs hH => ?_)
        refine lv_if_ne (tgt := 49) hx hb dX3_countMatches_43 (by decide) (fun hc => ?_) (fun hc => ?_)
        · have hf := fw_neg hc hf
          refine lv_iinc (v := (x5 + (1 : Int32))) (lv' := [(5, .int (x5 + (1 : Int32))), (0, .ref (adr 1)), (1, .int x1), (2, .int x2), (3, .int x3), (4, .int x4)]) hx hb dX3_countMatches_49 hl (k := 5) rfl rfl (by decide) rfl (fun ls hl => ?_)
          refine lv_goto (tgt := 13) hx hb dX3_countMatches_52 (by decide) ?_
          exact ih x1 x2 x3 x4 (x5 + (1 : Int32)) τ8 hf _ _ _ hH (lv_sub hl [1, 2, 3, 4, 5, 0] rfl)
        · have hf := fw_pos hc hf
          refine lv_iinc (v := (x4 + (1 : Int32))) (lv' := [(4, .int (x4 + (1 : Int32))), (0, .ref (adr 1)), (1, .int x1), (2, .int x2), (3, .int x3), (5, .int x5)]) hx hb dX3_countMatches_46 hl (k := 4) rfl rfl (by decide) rfl (fun ls hl => ?_)
          refine lv_iinc (v := (x5 + (1 : Int32))) (lv' := [(5, .int (x5 + (1 : Int32))), (4, .int (x4 + (1 : Int32))), (0, .ref (adr 1)), (1, .int x1), (2, .int x2), (3, .int x3)]) hx hb dX3_countMatches_49 hl (k := 5) rfl rfl (by decide) rfl (fun ls hl => ?_)
          refine lv_goto (tgt := 13) hx hb dX3_countMatches_52 (by decide) ?_
          exact ih x1 x2 x3 (x4 + (1 : Int32)) (x5 + (1 : Int32)) τ8 hf _ _ _ hH (lv_sub hl [2, 3, 4, 5, 1, 0] rfl)
def pX3_countMatches (x1 : Int32) (x2 : Int32) (σ : fw_T) : Option (Int32 × fw_T) :=
  fw_b2 (pX3_joinedBs x1 x2 σ) fun w3 τ2 =>
  pX3_countMatches_13 400 x1 x2 w3 (0 : Int32) (0 : Int32) τ2
set_option maxRecDepth 100000 in
set_option maxHeartbeats 4000000 in
theorem kX3_countMatches {x1 : Int32} {x2 : Int32} {r : Int32} {σ σ' : fw_T} (hf : pX3_countMatches x1 x2 σ = some (r, σ')) : fw_Ci l yX3_countMatches (Cond.code yX3_countMatches cX3_countMatches 6 (some .int) :: lwT) rmX3_countMatches [.ref (adr 1), .int x1, .int x2] D 96 adr (fw_C cI cO adr) (fcT cI cO) nwC σ r σ' := by
  refine fw_start (Qc := (fun A => va_Qi (fun r' (_ : Unit) => r' = r) (fun _ t => va_P D vwCl (fw_ws 96 adr (fw_C cI cO adr σ')) t.heap) A)) (by decide) (by simp [lg_sl, Value.category]) rfl ?_
  intro p e s m below meth c A X hH ls hl
  have hx := X.1.1
  have hb := X.1.2.1
  have hl : lv_has ls 6 [(0, .ref (adr 1)), (1, .int x1), (2, .int x2)] := hl
  unfold pX3_countMatches at hf
  refine lv_aload_n hx hb dX3_countMatches_0 rfl (lv_at hl 0 rfl) ?_
  refine lv_iload_n hx hb dX3_countMatches_1 rfl (lv_at hl 1 rfl) ?_
  refine lv_iload_n hx hb dX3_countMatches_2 rfl (lv_at hl 2 rfl) ?_
  obtain ⟨w3, τ2, g1, hf⟩ := fw_b2s hf
  refine fw_ci hH (fw_rV (As := [.int x1, .int x2]) (rest := []) (id := 1) X hH (kX3_joinedBs  g1 _) qX3_joinedBs tw_2_171 ⟨Nat.le_of_ble_eq_true rfl, Nat.le_of_ble_eq_true rfl⟩ rfl rfl (by decide) (fc_1 (by decide)) rfl rfl hl.1 rfl (Nat.le_of_ble_eq_true rfl) dX3_countMatches_3) (fun H locs hH => ?_)
  refine lv_istore_n (lv' := [(3, .int w3), (0, .ref (adr 1)), (1, .int x1), (2, .int x2)]) hx hb dX3_countMatches_6 rfl hl (by decide) rfl (fun ls hl => ?_)
  refine lv_iconst (v := (0 : Int32)) hx hb dX3_countMatches_7 (by decide) ?_
  refine lv_istore (lv' := [(4, .int (0 : Int32)), (3, .int w3), (0, .ref (adr 1)), (1, .int x1), (2, .int x2)]) hx hb dX3_countMatches_8 hl (by decide) rfl (fun ls hl => ?_)
  refine lv_iconst (v := (0 : Int32)) hx hb dX3_countMatches_10 (by decide) ?_
  refine lv_istore (lv' := [(5, .int (0 : Int32)), (4, .int (0 : Int32)), (3, .int w3), (0, .ref (adr 1)), (1, .int x1), (2, .int x2)]) hx hb dX3_countMatches_11 hl (by decide) rfl (fun ls hl => ?_)
  exact wX3_countMatches_13 X 400 x1 x2 w3 (0 : Int32) (0 : Int32) τ2 hf _ _ _ hH (lv_sub hl [3, 4, 5, 2, 1, 0] rfl)
abbrev rmX7_matchCount : Room := { frames := 5, cells := 0, slots := 0, locals := 112 }
theorem qX7_matchCount : fw_QV RX7 yX7_matchCount cX7_matchCount 3 (some .int) 2 := ⟨⟨tw_2_163, tw_2_164, tw_1_1, tw_2_165⟩, by decide +kernel⟩
def pX7_matchCount (x1 : Int32) (x2 : Int32) (σ : fw_T) : Option (Int32 × fw_T) :=
  fw_b2 (pX7_isPair x1 x2 σ) fun w3 τ2 =>
  if w3 = 0 then
    fw_b2 (pX7_report (-10002 : Int32) τ2) fun w6 τ5 =>
    some (w6, τ5)
  else
    fw_b2 (pX3_countMatches x1 x2 τ2) fun w9 τ8 =>
    fw_b2 (pX7_report w9 τ8) fun w12 τ11 =>
    some (w12, τ11)
set_option maxRecDepth 100000 in
set_option maxHeartbeats 4000000 in
theorem kX7_matchCount {x1 : Int32} {x2 : Int32} {r : Int32} {σ σ' : fw_T} (hf : pX7_matchCount x1 x2 σ = some (r, σ')) : fw_Ci l yX7_matchCount (Cond.code yX7_matchCount cX7_matchCount 3 (some .int) :: lwT) rmX7_matchCount [.ref (adr 0), .int x1, .int x2] D 96 adr (fw_C cI cO adr) (fcT cI cO) nwC σ r σ' := by
  refine fw_start (Qc := (fun A => va_Qi (fun r' (_ : Unit) => r' = r) (fun _ t => va_P D vwCl (fw_ws 96 adr (fw_C cI cO adr σ')) t.heap) A)) (by decide) (by simp [lg_sl, Value.category]) rfl ?_
  intro p e s m below meth c A X hH ls hl
  have hx := X.1.1
  have hb := X.1.2.1
  have hl : lv_has ls 3 [(0, .ref (adr 0)), (1, .int x1), (2, .int x2)] := hl
  unfold pX7_matchCount at hf
  refine lv_aload_n hx hb dX7_matchCount_0 rfl (lv_at hl 0 rfl) ?_
  refine lv_iload_n hx hb dX7_matchCount_1 rfl (lv_at hl 1 rfl) ?_
  refine lv_iload_n hx hb dX7_matchCount_2 rfl (lv_at hl 2 rfl) ?_
  obtain ⟨w3, τ2, g1, hf⟩ := fw_b2s hf
  refine fw_ci hH (fw_rS (As := [.int x1, .int x2]) (rest := [.ref (adr 0)]) X hH (kX7_isPair  g1 _) qX7_isPair tw_2_166 ⟨Nat.le_of_ble_eq_true rfl, Nat.le_of_ble_eq_true rfl⟩ rfl rfl rfl hl.1 rfl (Nat.le_of_ble_eq_true rfl) dX7_matchCount_3) (fun H locs hH => ?_)
  refine lv_if_eq (tgt := 21) hx hb dX7_matchCount_6 (by decide) (fun hc => ?_) (fun hc => ?_)
  · have hf := fw_pos hc hf
    refine lv_sipush (v := (-10002 : Int32)) hx hb dX7_matchCount_21 (by decide) ?_
    obtain ⟨w6, τ5, g4, hf⟩ := fw_b2s hf
    refine fw_ci hH (fw_rV (As := [.int (-10002 : Int32)]) (rest := []) (id := 0) X hH (kX7_report  g4 _) qX7_report tw_2_10 ⟨Nat.le_of_ble_eq_true rfl, Nat.le_of_ble_eq_true rfl⟩ rfl rfl (by decide) (fc_0 (by decide)) rfl rfl hl.1 rfl (Nat.le_of_ble_eq_true rfl) dX7_matchCount_24) (fun H locs hH => ?_)
    obtain ⟨rfl, rfl⟩ := fw_s2 hf
    exact fw_reti X hH dX7_matchCount_27
  · have hf := fw_neg hc hf
    refine lv_aload_n hx hb dX7_matchCount_9 rfl (lv_at hl 0 rfl) ?_
    refine fw_get (id := 0) (k := 0) (v := .ref (adr 1)) X hH (by decide) (fc_0 (by decide)) rfl inX7 (by decide) rfl tw_1_177 dX7_matchCount_10 ?_
    refine lv_iload_n hx hb dX7_matchCount_13 rfl (lv_at hl 1 rfl) ?_
    refine lv_iload_n hx hb dX7_matchCount_14 rfl (lv_at hl 2 rfl) ?_
    obtain ⟨w9, τ8, g7, hf⟩ := fw_b2s hf
    refine fw_ci hH (fw_rV (As := [.int x1, .int x2]) (rest := [.ref (adr 0)]) (id := 1) X hH (kX3_countMatches  g7 _) qX3_countMatches tw_2_167 ⟨Nat.le_of_ble_eq_true rfl, Nat.le_of_ble_eq_true rfl⟩ rfl rfl (by decide) (fc_1 (by decide)) rfl rfl hl.1 rfl (Nat.le_of_ble_eq_true rfl) dX7_matchCount_15) (fun H locs hH => ?_)
    refine lv_goto (tgt := 24) hx hb dX7_matchCount_18 (by decide) ?_
    obtain ⟨w12, τ11, g10, hf⟩ := fw_b2s hf
    refine fw_ci hH (fw_rV (As := [.int w9]) (rest := []) (id := 0) X hH (kX7_report  g10 _) qX7_report tw_2_10 ⟨Nat.le_of_ble_eq_true rfl, Nat.le_of_ble_eq_true rfl⟩ rfl rfl (by decide) (fc_0 (by decide)) rfl rfl hl.1 rfl (Nat.le_of_ble_eq_true rfl) dX7_matchCount_24) (fun H locs hH => ?_)
    obtain ⟨rfl, rfl⟩ := fw_s2 hf
    exact fw_reti X hH dX7_matchCount_27
abbrev rmX3_acceptedBs : Room := { frames := 2, cells := 0, slots := 0, locals := 48 }
theorem qX3_acceptedBs : fw_QV RX3 yX3_acceptedBs cX3_acceptedBs 7 (some .int) 4 := ⟨⟨tw_2_202, tv_X3_acceptedBs, tw_1_2, tw_2_203⟩, by decide +kernel⟩
def pX3_acceptedBs_6 : Nat → Int32 → Int32 → Int32 → Int32 → Int32 → Int32 → fw_T → Option (Int32 × fw_T)
  | 0, _, _, _, _, _, _, _ => none
  | n + 1, x1, x2, x3, x4, x5, x6, σ =>
    if (10 : Int32) ≤ x6 then
      some (x5, σ)
    else
      fw_b2 (pX7_isIn x2 x6 σ) fun w3 τ2 =>
      if w3 = 0 then
        pX3_acceptedBs_6 n x1 x2 x3 x4 x5 (x6 + (1 : Int32)) τ2
      else
        fw_b2 (pX0_accepts 17 x1 x3 x6 x4 τ2) fun w6 τ5 =>
        if w6 = 0 then
          pX3_acceptedBs_6 n x1 x2 x3 x4 x5 (x6 + (1 : Int32)) τ5
        else
          pX3_acceptedBs_6 n x1 x2 x3 x4 (x5 ||| ((1 : Int32) <<< (x6 &&& 31))) (x6 + (1 : Int32)) τ5
set_option maxRecDepth 100000 in
set_option maxHeartbeats 4000000 in
theorem wX3_acceptedBs_6 {args : Array Value} {r : Int32} {σ' : fw_T} (X : fcX p m c cX3_acceptedBs 7 s args RX3 meth (some .int) D cI cO)  : ∀ (n : Nat), ∀ (x1 : Int32), ∀ (x2 : Int32), ∀ (x3 : Int32), ∀ (x4 : Int32), ∀ (x5 : Int32), ∀ (x6 : Int32), ∀ (σ : fw_T), pX3_acceptedBs_6 n x1 x2 x3 x4 x5 x6 σ = some (r, σ') → ∀ (H : Heap) (locs : List Loc) (ls : Array Slot), fcH D cI cO adr A s H locs σ → lv_has ls 7 [(0, .ref (adr 1)), (1, .int x1), (2, .int x2), (3, .int x3), (4, .int x4), (5, .int x5), (6, .int x6)] → W p l e rmX3_acceptedBs s m args below meth c H locs 0 0 (fw_Qi D 96 adr (fw_C cI cO adr) A below args s r σ') (F0 m 6 ls []) := by
  have hx := X.1.1
  have hb := X.1.2.1
  intro n
  induction n with
  | zero =>
    intro x1 x2 x3 x4 x5 x6 σ hf
    exact absurd hf (by simp [pX3_acceptedBs_6])
  | succ n ih =>
    intro x1 x2 x3 x4 x5 x6 σ hf H locs ls hH hl
    rw [pX3_acceptedBs_6] at hf
    refine lv_iload hx hb dX3_acceptedBs_6 (lv_at hl 6 rfl) ?_
    refine lv_bipush (v := (10 : Int32)) hx hb dX3_acceptedBs_8 (by decide) ?_
    refine lv_icmp_ge (tgt := 56) hx hb dX3_acceptedBs_10 (by decide) (fun hc => ?_) (fun hc => ?_)
    · have hf := fw_pos hc hf
      refine lv_iload hx hb dX3_acceptedBs_56 (lv_at hl 5 rfl) ?_
      obtain ⟨rfl, rfl⟩ := fw_s2 hf
      exact fw_reti X hH dX3_acceptedBs_58
    · have hf := fw_neg hc hf
      refine lv_iload_n hx hb dX3_acceptedBs_13 rfl (lv_at hl 2 rfl) ?_
      refine lv_iload hx hb dX3_acceptedBs_14 (lv_at hl 6 rfl) ?_
      obtain ⟨w3, τ2, g1, hf⟩ := fw_b2s hf
      refine fw_ci hH (fw_rN (As := [.int x2, .int x6]) (rest := []) X hH (kX7_isIn  g1 _) qX7_isIn nw_2_185 ⟨Nat.le_of_ble_eq_true rfl, Nat.le_of_ble_eq_true rfl⟩ rfl rfl rfl hl.1 rfl (Nat.le_of_ble_eq_true rfl) dX3_acceptedBs_16) (fun H locs hH => ?_)
      refine lv_if_eq (tgt := 50) hx hb dX3_acceptedBs_19 (by decide) (fun hc => ?_) (fun hc => ?_)
      · have hf := fw_pos hc hf
        refine lv_iinc (v := (x6 + (1 : Int32))) (lv' := [(6, .int (x6 + (1 : Int32))), (0, .ref (adr 1)), (1, .int x1), (2, .int x2), (3, .int x3), (4, .int x4), (5, .int x5)]) hx hb dX3_acceptedBs_50 hl (k := 6) rfl rfl (by decide) rfl (fun ls hl => ?_)
        refine lv_goto (tgt := 6) hx hb dX3_acceptedBs_53 (by decide) ?_
        exact ih x1 x2 x3 x4 x5 (x6 + (1 : Int32)) τ2 hf _ _ _ hH (lv_sub hl [1, 2, 3, 4, 5, 6, 0] rfl)
      · have hf := fw_neg hc hf
        refine lv_aload_n hx hb dX3_acceptedBs_22 rfl (lv_at hl 0 rfl) ?_
        refine fw_get (id := 1) (k := 0) (v := .ref (adr 12)) X hH (by decide) (fc_1 (by decide)) rfl inX3 (by decide) rfl tw_1_105 dX3_acceptedBs_23 ?_
        refine fw_getN (id := 12) (k := 2) (v := .ref (adr 17)) X hH (by decide) (fc_12 (by decide)) rfl inX5 (by decide) rfl nw_1_91 dX3_acceptedBs_26 ?_
        refine lv_iload_n hx hb dX3_acceptedBs_29 rfl (lv_at hl 1 rfl) ?_
        refine lv_iload_n hx hb dX3_acceptedBs_30 rfl (lv_at hl 3 rfl) ?_
        refine lv_iload hx hb dX3_acceptedBs_31 (lv_at hl 6 rfl) ?_
        refine lv_iload hx hb dX3_acceptedBs_33 (lv_at hl 4 rfl) ?_
        obtain ⟨w6, τ5, g4, hf⟩ := fw_b2s hf
        refine fw_ci hH (fw_rV (As := [.int x1, .int x3, .int x6, .int x4]) (rest := []) (id := 17) X hH (kX0_accepts (by unfold fw_FL; decide) g4 _) qX0_accepts tw_2_115 ⟨Nat.le_of_ble_eq_true rfl, Nat.le_of_ble_eq_true rfl⟩ rfl rfl (by decide) (fc_15 (by decide)) rfl rfl hl.1 rfl (Nat.le_of_ble_eq_true rfl) dX3_acceptedBs_35) (fun H locs hH => ?_)
        refine lv_if_eq (tgt := 50) hx hb dX3_acceptedBs_38 (by decide) (fun hc => ?_) (fun hc => ?_)
        · have hf := fw_pos hc hf
          refine lv_iinc (v := (x6 + (1 : Int32))) (lv' := [(6, .int (x6 + (1 : Int32))), (0, .ref (adr 1)), (1, .int x1), (2, .int x2), (3, .int x3), (4, .int x4), (5, .int x5)]) hx hb dX3_acceptedBs_50 hl (k := 6) rfl rfl (by decide) rfl (fun ls hl => ?_)
          refine lv_goto (tgt := 6) hx hb dX3_acceptedBs_53 (by decide) ?_
          exact ih x1 x2 x3 x4 x5 (x6 + (1 : Int32)) τ5 hf _ _ _ hH (lv_sub hl [1, 2, 3, 4, 5, 6, 0] rfl)
        · have hf := fw_neg hc hf
          refine lv_iload hx hb dX3_acceptedBs_41 (lv_at hl 5 rfl) ?_
          refine lv_iconst (v := (1 : Int32)) hx hb dX3_acceptedBs_43 (by decide) ?_
          refine lv_iload hx hb dX3_acceptedBs_44 (lv_at hl 6 rfl) ?_
          refine lv_ishl hx hb dX3_acceptedBs_46 ?_
          refine lv_ior hx hb dX3_acceptedBs_47 ?_
          refine lv_istore (lv' := [(5, .int (x5 ||| ((1 : Int32) <<< (x6 &&& 31)))), (0, .ref (adr 1)), (1, .int x1), (2, .int x2), (3, .int x3), (4, .int x4), (6, .int x6)]) hx hb dX3_acceptedBs_48 hl (by decide) rfl (fun ls hl => ?_)
          refine lv_iinc (v := (x6 + (1 : Int32))) (lv' := [(6, .int (x6 + (1 : Int32))), (5, .int (x5 ||| ((1 : Int32) <<< (x6 &&& 31)))), (0, .ref (adr 1)), (1, .int x1), (2, .int x2), (3, .int x3), (4, .int x4)]) hx hb dX3_acceptedBs_50 hl (k := 6) rfl rfl (by decide) rfl (fun ls hl => ?_)
          refine lv_goto (tgt := 6) hx hb dX3_acceptedBs_53 (by decide) ?_
          exact ih x1 x2 x3 x4 (x5 ||| ((1 : Int32) <<< (x6 &&& 31))) (x6 + (1 : Int32)) τ5 hf _ _ _ hH (lv_sub hl [2, 3, 4, 5, 6, 1, 0] rfl)
def pX3_acceptedBs (x1 : Int32) (x2 : Int32) (x3 : Int32) (x4 : Int32) (σ : fw_T) : Option (Int32 × fw_T) :=
  pX3_acceptedBs_6 400 x1 x2 x3 x4 (0 : Int32) (0 : Int32) σ
set_option maxRecDepth 100000 in
set_option maxHeartbeats 4000000 in
theorem kX3_acceptedBs {x1 : Int32} {x2 : Int32} {x3 : Int32} {x4 : Int32} {r : Int32} {σ σ' : fw_T} (hf : pX3_acceptedBs x1 x2 x3 x4 σ = some (r, σ')) : fw_Ci l yX3_acceptedBs (Cond.code yX3_acceptedBs cX3_acceptedBs 7 (some .int) :: lwT) rmX3_acceptedBs [.ref (adr 1), .int x1, .int x2, .int x3, .int x4] D 96 adr (fw_C cI cO adr) (fcT cI cO) nwC σ r σ' := by
  refine fw_start (Qc := (fun A => va_Qi (fun r' (_ : Unit) => r' = r) (fun _ t => va_P D vwCl (fw_ws 96 adr (fw_C cI cO adr σ')) t.heap) A)) (by decide) (by simp [lg_sl, Value.category]) rfl ?_
  intro p e s m below meth c A X hH ls hl
  have hx := X.1.1
  have hb := X.1.2.1
  have hl : lv_has ls 7 [(0, .ref (adr 1)), (1, .int x1), (2, .int x2), (3, .int x3), (4, .int x4)] := hl
  unfold pX3_acceptedBs at hf
  refine lv_iconst (v := (0 : Int32)) hx hb dX3_acceptedBs_0 (by decide) ?_
  refine lv_istore (lv' := [(5, .int (0 : Int32)), (0, .ref (adr 1)), (1, .int x1), (2, .int x2), (3, .int x3), (4, .int x4)]) hx hb dX3_acceptedBs_1 hl (by decide) rfl (fun ls hl => ?_)
  refine lv_iconst (v := (0 : Int32)) hx hb dX3_acceptedBs_3 (by decide) ?_
  refine lv_istore (lv' := [(6, .int (0 : Int32)), (5, .int (0 : Int32)), (0, .ref (adr 1)), (1, .int x1), (2, .int x2), (3, .int x3), (4, .int x4)]) hx hb dX3_acceptedBs_4 hl (by decide) rfl (fun ls hl => ?_)
  exact wX3_acceptedBs_6 X 400 x1 x2 x3 x4 (0 : Int32) (0 : Int32) σ hf _ _ _ hH (lv_sub hl [2, 3, 4, 5, 6, 1, 0] rfl)
abbrev rmX3_emptyingFilter : Room := { frames := 3, cells := 0, slots := 0, locals := 74 }
theorem qX3_emptyingFilter : fw_QV RX3 yX3_emptyingFilter cX3_emptyingFilter 7 (some .int) 4 := ⟨⟨tw_2_198, tv_X3_emptyingFilter, tw_1_2, tw_2_199⟩, by decide +kernel⟩
def pX3_emptyingFilter_6 : Nat → Int32 → Int32 → Int32 → Int32 → Int32 → fw_T → Option (Int32 × fw_T)
  | 0, _, _, _, _, _, _ => none
  | n + 1, x1, x3, x4, x5, x6, σ =>
    if (fw_g σ 17 4) ≤ x6 then
      some ((-10001 : Int32), σ)
    else
      fw_b2 (pX0_isAtStage 17 x6 x1 σ) fun w3 τ2 =>
      if w3 = 0 then
        pX3_emptyingFilter_6 n x1 x3 x4 x5 (x6 + (1 : Int32)) τ2
      else
        fw_b2 (pX3_acceptedBs x6 x5 x3 x4 τ2) fun w6 τ5 =>
        if w6 = 0 then
          some (x6, τ5)
        else
          pX3_emptyingFilter_6 n x1 x3 x4 w6 (x6 + (1 : Int32)) τ5
set_option maxRecDepth 100000 in
set_option maxHeartbeats 4000000 in
theorem wX3_emptyingFilter_6 {args : Array Value} {r : Int32} {σ' : fw_T} (X : fcX p m c cX3_emptyingFilter 7 s args RX3 meth (some .int) D cI cO)  : ∀ (n : Nat), ∀ (x1 : Int32), ∀ (x3 : Int32), ∀ (x4 : Int32), ∀ (x5 : Int32), ∀ (x6 : Int32), ∀ (σ : fw_T), pX3_emptyingFilter_6 n x1 x3 x4 x5 x6 σ = some (r, σ') → ∀ (H : Heap) (locs : List Loc) (ls : Array Slot), fcH D cI cO adr A s H locs σ → lv_has ls 7 [(0, .ref (adr 1)), (1, .int x1), (3, .int x3), (4, .int x4), (5, .int x5), (6, .int x6)] → W p l e rmX3_emptyingFilter s m args below meth c H locs 0 0 (fw_Qi D 96 adr (fw_C cI cO adr) A below args s r σ') (F0 m 6 ls []) := by
  have hx := X.1.1
  have hb := X.1.2.1
  intro n
  induction n with
  | zero =>
    intro x1 x3 x4 x5 x6 σ hf
    exact absurd hf (by simp [pX3_emptyingFilter_6])
  | succ n ih =>
    intro x1 x3 x4 x5 x6 σ hf H locs ls hH hl
    rw [pX3_emptyingFilter_6] at hf
    refine lv_iload hx hb dX3_emptyingFilter_6 (lv_at hl 5 rfl) ?_
    refine lv_aload_n hx hb dX3_emptyingFilter_8 rfl (lv_at hl 0 rfl) ?_
    refine fw_get (id := 1) (k := 0) (v := .ref (adr 12)) X hH (by decide) (fc_1 (by decide)) rfl inX3 (by decide) rfl tw_1_105 dX3_emptyingFilter_9 ?_
    refine fw_getN (id := 12) (k := 2) (v := .ref (adr 17)) X hH (by decide) (fc_12 (by decide)) rfl inX5 (by decide) rfl nw_1_91 dX3_emptyingFilter_12 ?_
    refine fw_getN (id := 17) (k := 4) (v := .int (fw_g σ 17 4)) X hH (by decide) (fc_15 (by decide)) rfl inX0 (by decide) rfl nw_1_72 dX3_emptyingFilter_15 ?_
    refine lv_icmp_ge (tgt := 64) hx hb dX3_emptyingFilter_18 (by decide) (fun hc => ?_) (fun hc => ?_)
    · have hf := fw_pos hc hf
      refine lv_sipush (v := (-10001 : Int32)) hx hb dX3_emptyingFilter_64 (by decide) ?_
      obtain ⟨rfl, rfl⟩ := fw_s2 hf
      exact fw_reti X hH dX3_emptyingFilter_67
    · have hf := fw_neg hc hf
      refine lv_aload_n hx hb dX3_emptyingFilter_21 rfl (lv_at hl 0 rfl) ?_
      refine fw_get (id := 1) (k := 0) (v := .ref (adr 12)) X hH (by decide) (fc_1 (by decide)) rfl inX3 (by decide) rfl tw_1_105 dX3_emptyingFilter_22 ?_
      refine fw_getN (id := 12) (k := 2) (v := .ref (adr 17)) X hH (by decide) (fc_12 (by decide)) rfl inX5 (by decide) rfl nw_1_91 dX3_emptyingFilter_25 ?_
      refine lv_iload hx hb dX3_emptyingFilter_28 (lv_at hl 5 rfl) ?_
      refine lv_iload_n hx hb dX3_emptyingFilter_30 rfl (lv_at hl 1 rfl) ?_
      obtain ⟨w3, τ2, g1, hf⟩ := fw_b2s hf
      refine fw_ci hH (fw_rV (As := [.int x6, .int x1]) (rest := []) (id := 17) X hH (kX0_isAtStage (by unfold fw_FL; decide) g1 _) qX0_isAtStage tw_2_98 ⟨Nat.le_of_ble_eq_true rfl, Nat.le_of_ble_eq_true rfl⟩ rfl rfl (by decide) (fc_15 (by decide)) rfl rfl hl.1 rfl (Nat.le_of_ble_eq_true rfl) dX3_emptyingFilter_31) (fun H locs hH => ?_)
      refine lv_if_eq (tgt := 58) hx hb dX3_emptyingFilter_34 (by decide) (fun hc => ?_) (fun hc => ?_)
      · have hf := fw_pos hc hf
        refine lv_iinc (v := (x6 + (1 : Int32))) (lv' := [(6, .int (x6 + (1 : Int32))), (0, .ref (adr 1)), (1, .int x1), (3, .int x3), (4, .int x4), (5, .int x5)]) hx hb dX3_emptyingFilter_58 hl (k := 5) rfl rfl (by decide) rfl (fun ls hl => ?_)
        refine lv_goto (tgt := 6) hx hb dX3_emptyingFilter_61 (by decide) ?_
        exact ih x1 x3 x4 x5 (x6 + (1 : Int32)) τ2 hf _ _ _ hH (lv_sub hl [1, 2, 3, 4, 5, 0] rfl)
      · have hf := fw_neg hc hf
        refine lv_aload_n hx hb dX3_emptyingFilter_37 rfl (lv_at hl 0 rfl) ?_
        refine lv_iload hx hb dX3_emptyingFilter_38 (lv_at hl 5 rfl) ?_
        refine lv_iload hx hb dX3_emptyingFilter_40 (lv_at hl 4 rfl) ?_
        refine lv_iload_n hx hb dX3_emptyingFilter_42 rfl (lv_at hl 2 rfl) ?_
        refine lv_iload hx hb dX3_emptyingFilter_43 (lv_at hl 3 rfl) ?_
        obtain ⟨w6, τ5, g4, hf⟩ := fw_b2s hf
        refine fw_ci hH (fw_rV (As := [.int x6, .int x5, .int x3, .int x4]) (rest := []) (id := 1) X hH (kX3_acceptedBs  g4 _) qX3_acceptedBs tw_2_200 ⟨Nat.le_of_ble_eq_true rfl, Nat.le_of_ble_eq_true rfl⟩ rfl rfl (by decide) (fc_1 (by decide)) rfl rfl hl.1 rfl (Nat.le_of_ble_eq_true rfl) dX3_emptyingFilter_45) (fun H locs hH => ?_)
        refine lv_istore (lv' := [(5, .int w6), (0, .ref (adr 1)), (1, .int x1), (3, .int x3), (4, .int x4), (6, .int x6)]) hx hb dX3_emptyingFilter_48 hl (by decide) rfl (fun ls hl => ?_)
        refine lv_iload hx hb dX3_emptyingFilter_50 (lv_at hl 0 rfl) ?_
        refine lv_if_ne (tgt := 58) hx hb dX3_emptyingFilter_52 (by decide) (fun hc => ?_) (fun hc => ?_)
        · have hf := fw_neg hc hf
          refine lv_iinc (v := (x6 + (1 : Int32))) (lv' := [(6, .int (x6 + (1 : Int32))), (5, .int w6), (0, .ref (adr 1)), (1, .int x1), (3, .int x3), (4, .int x4)]) hx hb dX3_emptyingFilter_58 hl (k := 5) rfl rfl (by decide) rfl (fun ls hl => ?_)
          refine lv_goto (tgt := 6) hx hb dX3_emptyingFilter_61 (by decide) ?_
          exact ih x1 x3 x4 w6 (x6 + (1 : Int32)) τ5 hf _ _ _ hH (lv_sub hl [2, 3, 4, 5, 1, 0] rfl)
        · have hf := fw_pos hc hf
          refine lv_iload hx hb dX3_emptyingFilter_55 (lv_at hl 5 rfl) ?_
          obtain ⟨rfl, rfl⟩ := fw_s2 hf
          exact fw_reti X hH dX3_emptyingFilter_57
def pX3_emptyingFilter (x1 : Int32) (x2 : Int32) (x3 : Int32) (x4 : Int32) (σ : fw_T) : Option (Int32 × fw_T) :=
  pX3_emptyingFilter_6 400 x1 x3 x4 x2 (0 : Int32) σ
set_option maxRecDepth 100000 in
set_option maxHeartbeats 4000000 in
theorem kX3_emptyingFilter {x1 : Int32} {x2 : Int32} {x3 : Int32} {x4 : Int32} {r : Int32} {σ σ' : fw_T} (hf : pX3_emptyingFilter x1 x2 x3 x4 σ = some (r, σ')) : fw_Ci l yX3_emptyingFilter (Cond.code yX3_emptyingFilter cX3_emptyingFilter 7 (some .int) :: lwT) rmX3_emptyingFilter [.ref (adr 1), .int x1, .int x2, .int x3, .int x4] D 96 adr (fw_C cI cO adr) (fcT cI cO) nwC σ r σ' := by
  refine fw_start (Qc := (fun A => va_Qi (fun r' (_ : Unit) => r' = r) (fun _ t => va_P D vwCl (fw_ws 96 adr (fw_C cI cO adr σ')) t.heap) A)) (by decide) (by simp [lg_sl, Value.category]) rfl ?_
  intro p e s m below meth c A X hH ls hl
  have hx := X.1.1
  have hb := X.1.2.1
  have hl : lv_has ls 7 [(0, .ref (adr 1)), (1, .int x1), (2, .int x2), (3, .int x3), (4, .int x4)] := hl
  unfold pX3_emptyingFilter at hf
  refine lv_iload_n hx hb dX3_emptyingFilter_0 rfl (lv_at hl 2 rfl) ?_
  refine lv_istore (lv' := [(5, .int x2), (0, .ref (adr 1)), (1, .int x1), (2, .int x2), (3, .int x3), (4, .int x4)]) hx hb dX3_emptyingFilter_1 hl (by decide) rfl (fun ls hl => ?_)
  refine lv_iconst (v := (0 : Int32)) hx hb dX3_emptyingFilter_3 (by decide) ?_
  refine lv_istore (lv' := [(6, .int (0 : Int32)), (5, .int x2), (0, .ref (adr 1)), (1, .int x1), (2, .int x2), (3, .int x3), (4, .int x4)]) hx hb dX3_emptyingFilter_4 hl (by decide) rfl (fun ls hl => ?_)
  exact wX3_emptyingFilter_6 X 400 x1 x3 x4 x2 (0 : Int32) σ hf _ _ _ hH (lv_sub hl [2, 3, 5, 6, 1, 0] rfl)
abbrev rmX3_survivors : Room := { frames := 3, cells := 0, slots := 0, locals := 74 }
theorem qX3_survivors : fw_QV RX3 yX3_survivors cX3_survivors 7 (some .int) 4 := ⟨⟨tw_2_206, tv_X3_survivors, tw_1_2, tw_2_207⟩, by decide +kernel⟩
def pX3_survivors_6 : Nat → Int32 → Int32 → Int32 → Int32 → Int32 → fw_T → Option (Int32 × fw_T)
  | 0, _, _, _, _, _, _ => none
  | n + 1, x1, x3, x4, x5, x6, σ =>
    if (fw_g σ 17 4) ≤ x6 then
      some (x5, σ)
    else
      fw_b2 (pX0_isAtStage 17 x6 x1 σ) fun w3 τ2 =>
      if w3 = 0 then
        pX3_survivors_6 n x1 x3 x4 x5 (x6 + (1 : Int32)) τ2
      else
        fw_b2 (pX3_acceptedBs x6 x5 x3 x4 τ2) fun w6 τ5 =>
        pX3_survivors_6 n x1 x3 x4 w6 (x6 + (1 : Int32)) τ5
set_option maxRecDepth 100000 in
set_option maxHeartbeats 4000000 in
theorem wX3_survivors_6 {args : Array Value} {r : Int32} {σ' : fw_T} (X : fcX p m c cX3_survivors 7 s args RX3 meth (some .int) D cI cO)  : ∀ (n : Nat), ∀ (x1 : Int32), ∀ (x3 : Int32), ∀ (x4 : Int32), ∀ (x5 : Int32), ∀ (x6 : Int32), ∀ (σ : fw_T), pX3_survivors_6 n x1 x3 x4 x5 x6 σ = some (r, σ') → ∀ (H : Heap) (locs : List Loc) (ls : Array Slot), fcH D cI cO adr A s H locs σ → lv_has ls 7 [(0, .ref (adr 1)), (1, .int x1), (3, .int x3), (4, .int x4), (5, .int x5), (6, .int x6)] → W p l e rmX3_survivors s m args below meth c H locs 0 0 (fw_Qi D 96 adr (fw_C cI cO adr) A below args s r σ') (F0 m 6 ls []) := by
  have hx := X.1.1
  have hb := X.1.2.1
  intro n
  induction n with
  | zero =>
    intro x1 x3 x4 x5 x6 σ hf
    exact absurd hf (by simp [pX3_survivors_6])
  | succ n ih =>
    intro x1 x3 x4 x5 x6 σ hf H locs ls hH hl
    rw [pX3_survivors_6] at hf
    refine lv_iload hx hb dX3_survivors_6 (lv_at hl 5 rfl) ?_
    refine lv_aload_n hx hb dX3_survivors_8 rfl (lv_at hl 0 rfl) ?_
    refine fw_get (id := 1) (k := 0) (v := .ref (adr 12)) X hH (by decide) (fc_1 (by decide)) rfl inX3 (by decide) rfl tw_1_105 dX3_survivors_9 ?_
    refine fw_getN (id := 12) (k := 2) (v := .ref (adr 17)) X hH (by decide) (fc_12 (by decide)) rfl inX5 (by decide) rfl nw_1_91 dX3_survivors_12 ?_
    refine fw_getN (id := 17) (k := 4) (v := .int (fw_g σ 17 4)) X hH (by decide) (fc_15 (by decide)) rfl inX0 (by decide) rfl nw_1_72 dX3_survivors_15 ?_
    refine lv_icmp_ge (tgt := 56) hx hb dX3_survivors_18 (by decide) (fun hc => ?_) (fun hc => ?_)
    · have hf := fw_pos hc hf
      refine lv_iload hx hb dX3_survivors_56 (lv_at hl 4 rfl) ?_
      obtain ⟨rfl, rfl⟩ := fw_s2 hf
      exact fw_reti X hH dX3_survivors_58
    · have hf := fw_neg hc hf
      refine lv_aload_n hx hb dX3_survivors_21 rfl (lv_at hl 0 rfl) ?_
      refine fw_get (id := 1) (k := 0) (v := .ref (adr 12)) X hH (by decide) (fc_1 (by decide)) rfl inX3 (by decide) rfl tw_1_105 dX3_survivors_22 ?_
      refine fw_getN (id := 12) (k := 2) (v := .ref (adr 17)) X hH (by decide) (fc_12 (by decide)) rfl inX5 (by decide) rfl nw_1_91 dX3_survivors_25 ?_
      refine lv_iload hx hb dX3_survivors_28 (lv_at hl 5 rfl) ?_
      refine lv_iload_n hx hb dX3_survivors_30 rfl (lv_at hl 1 rfl) ?_
      obtain ⟨w3, τ2, g1, hf⟩ := fw_b2s hf
      refine fw_ci hH (fw_rV (As := [.int x6, .int x1]) (rest := []) (id := 17) X hH (kX0_isAtStage (by unfold fw_FL; decide) g1 _) qX0_isAtStage tw_2_98 ⟨Nat.le_of_ble_eq_true rfl, Nat.le_of_ble_eq_true rfl⟩ rfl rfl (by decide) (fc_15 (by decide)) rfl rfl hl.1 rfl (Nat.le_of_ble_eq_true rfl) dX3_survivors_31) (fun H locs hH => ?_)
      refine lv_if_eq (tgt := 50) hx hb dX3_survivors_34 (by decide) (fun hc => ?_) (fun hc => ?_)
      · have hf := fw_pos hc hf
        refine lv_iinc (v := (x6 + (1 : Int32))) (lv' := [(6, .int (x6 + (1 : Int32))), (0, .ref (adr 1)), (1, .int x1), (3, .int x3), (4, .int x4), (5, .int x5)]) hx hb dX3_survivors_50 hl (k := 5) rfl rfl (by decide) rfl (fun ls hl => ?_)
        refine lv_goto (tgt := 6) hx hb dX3_survivors_53 (by decide) ?_
        exact ih x1 x3 x4 x5 (x6 + (1 : Int32)) τ2 hf _ _ _ hH (lv_sub hl [1, 2, 3, 4, 5, 0] rfl)
      · have hf := fw_neg hc hf
        refine lv_aload_n hx hb dX3_survivors_37 rfl (lv_at hl 0 rfl) ?_
        refine lv_iload hx hb dX3_survivors_38 (lv_at hl 5 rfl) ?_
        refine lv_iload hx hb dX3_survivors_40 (lv_at hl 4 rfl) ?_
        refine lv_iload_n hx hb dX3_survivors_42 rfl (lv_at hl 2 rfl) ?_
        refine lv_iload hx hb dX3_survivors_43 (lv_at hl 3 rfl) ?_
        obtain ⟨w6, τ5, g4, hf⟩ := fw_b2s hf
        refine fw_ci hH (fw_rV (As := [.int x6, .int x5, .int x3, .int x4]) (rest := []) (id := 1) X hH (kX3_acceptedBs  g4 _) qX3_acceptedBs tw_2_200 ⟨Nat.le_of_ble_eq_true rfl, Nat.le_of_ble_eq_true rfl⟩ rfl rfl (by decide) (fc_1 (by decide)) rfl rfl hl.1 rfl (Nat.le_of_ble_eq_true rfl) dX3_survivors_45) (fun H locs hH => ?_)
        refine lv_istore (lv' := [(5, .int w6), (0, .ref (adr 1)), (1, .int x1), (3, .int x3), (4, .int x4), (6, .int x6)]) hx hb dX3_survivors_48 hl (by decide) rfl (fun ls hl => ?_)
        refine lv_iinc (v := (x6 + (1 : Int32))) (lv' := [(6, .int (x6 + (1 : Int32))), (5, .int w6), (0, .ref (adr 1)), (1, .int x1), (3, .int x3), (4, .int x4)]) hx hb dX3_survivors_50 hl (k := 5) rfl rfl (by decide) rfl (fun ls hl => ?_)
        refine lv_goto (tgt := 6) hx hb dX3_survivors_53 (by decide) ?_
        exact ih x1 x3 x4 w6 (x6 + (1 : Int32)) τ5 hf _ _ _ hH (lv_sub hl [2, 3, 4, 5, 1, 0] rfl)
def pX3_survivors (x1 : Int32) (x2 : Int32) (x3 : Int32) (x4 : Int32) (σ : fw_T) : Option (Int32 × fw_T) :=
  pX3_survivors_6 400 x1 x3 x4 x2 (0 : Int32) σ
set_option maxRecDepth 100000 in
set_option maxHeartbeats 4000000 in
theorem kX3_survivors {x1 : Int32} {x2 : Int32} {x3 : Int32} {x4 : Int32} {r : Int32} {σ σ' : fw_T} (hf : pX3_survivors x1 x2 x3 x4 σ = some (r, σ')) : fw_Ci l yX3_survivors (Cond.code yX3_survivors cX3_survivors 7 (some .int) :: lwT) rmX3_survivors [.ref (adr 1), .int x1, .int x2, .int x3, .int x4] D 96 adr (fw_C cI cO adr) (fcT cI cO) nwC σ r σ' := by
  refine fw_start (Qc := (fun A => va_Qi (fun r' (_ : Unit) => r' = r) (fun _ t => va_P D vwCl (fw_ws 96 adr (fw_C cI cO adr σ')) t.heap) A)) (by decide) (by simp [lg_sl, Value.category]) rfl ?_
  intro p e s m below meth c A X hH ls hl
  have hx := X.1.1
  have hb := X.1.2.1
  have hl : lv_has ls 7 [(0, .ref (adr 1)), (1, .int x1), (2, .int x2), (3, .int x3), (4, .int x4)] := hl
  unfold pX3_survivors at hf
  refine lv_iload_n hx hb dX3_survivors_0 rfl (lv_at hl 2 rfl) ?_
  refine lv_istore (lv' := [(5, .int x2), (0, .ref (adr 1)), (1, .int x1), (2, .int x2), (3, .int x3), (4, .int x4)]) hx hb dX3_survivors_1 hl (by decide) rfl (fun ls hl => ?_)
  refine lv_iconst (v := (0 : Int32)) hx hb dX3_survivors_3 (by decide) ?_
  refine lv_istore (lv' := [(6, .int (0 : Int32)), (5, .int x2), (0, .ref (adr 1)), (1, .int x1), (2, .int x2), (3, .int x3), (4, .int x4)]) hx hb dX3_survivors_4 hl (by decide) rfl (fun ls hl => ?_)
  exact wX3_survivors_6 X 400 x1 x3 x4 x2 (0 : Int32) σ hf _ _ _ hH (lv_sub hl [2, 3, 5, 6, 1, 0] rfl)
abbrev rmX3_firstCause : Room := { frames := 4, cells := 0, slots := 0, locals := 100 }
theorem qX3_firstCause : fw_QV RX3 yX3_firstCause cX3_firstCause 7 (some .int) 2 := ⟨⟨tw_2_193, tw_2_194, tw_1_2, tw_2_195⟩, by decide +kernel⟩
def pX3_firstCause (x1 : Int32) (x2 : Int32) (σ : fw_T) : Option (Int32 × fw_T) :=
  fw_b2 (pX2_secondsOf 13 x1 σ) fun w3 τ2 =>
  if w3 = 0 then
    some ((0 : Int32), τ2)
  else
    fw_b2 (pX3_emptyingFilter (0 : Int32) w3 x1 x2 τ2) fun w6 τ5 =>
    if w6 = (-10001 : Int32) then
      fw_b2 (pX2_firstsOf 15 x2 τ5) fun w9 τ8 =>
      if w9 = 0 then
        some ((1 : Int32), τ8)
      else
        fw_b2 (pX3_emptyingFilter (1 : Int32) w9 x1 x2 τ8) fun w12 τ11 =>
        if w12 = (-10001 : Int32) then
          fw_b2 (pX3_survivors (0 : Int32) w3 x1 x2 τ11) fun w15 τ14 =>
          fw_b2 (pX3_survivors (1 : Int32) w9 x1 x2 τ14) fun w18 τ17 =>
          if (w15 &&& w18) = 0 then
            some ((2 : Int32), τ17)
          else
            fw_b2 (pX3_emptyingFilter (2 : Int32) (w15 &&& w18) x1 x2 τ17) fun w21 τ20 =>
            if w21 = (-10001 : Int32) then
              some ((9 : Int32), τ20)
            else
              some (((10 : Int32) + w21), τ20)
        else
          some (((10 : Int32) + w12), τ11)
    else
      some (((10 : Int32) + w6), τ5)
set_option maxRecDepth 100000 in
set_option maxHeartbeats 4000000 in
theorem kX3_firstCause {x1 : Int32} {x2 : Int32} {r : Int32} {σ σ' : fw_T} (hf : pX3_firstCause x1 x2 σ = some (r, σ')) : fw_Ci l yX3_firstCause (Cond.code yX3_firstCause cX3_firstCause 7 (some .int) :: lwT) rmX3_firstCause [.ref (adr 1), .int x1, .int x2] D 96 adr (fw_C cI cO adr) (fcT cI cO) nwC σ r σ' := by
  refine fw_start (Qc := (fun A => va_Qi (fun r' (_ : Unit) => r' = r) (fun _ t => va_P D vwCl (fw_ws 96 adr (fw_C cI cO adr σ')) t.heap) A)) (by decide) (by simp [lg_sl, Value.category]) rfl ?_
  intro p e s m below meth c A X hH ls hl
  have hx := X.1.1
  have hb := X.1.2.1
  have hl : lv_has ls 7 [(0, .ref (adr 1)), (1, .int x1), (2, .int x2)] := hl
  unfold pX3_firstCause at hf
  refine lv_aload_n hx hb dX3_firstCause_0 rfl (lv_at hl 0 rfl) ?_
  refine fw_get (id := 1) (k := 0) (v := .ref (adr 12)) X hH (by decide) (fc_1 (by decide)) rfl inX3 (by decide) rfl tw_1_105 dX3_firstCause_1 ?_
  refine fw_getN (id := 12) (k := 0) (v := .ref (adr 13)) X hH (by decide) (fc_12 (by decide)) rfl inX5 (by decide) rfl nw_1_86 dX3_firstCause_4 ?_
  refine lv_iload_n hx hb dX3_firstCause_7 rfl (lv_at hl 1 rfl) ?_
  obtain ⟨w3, τ2, g1, hf⟩ := fw_b2s hf
  refine fw_ci hH (fw_rV (As := [.int x1]) (rest := []) (id := 13) X hH (kX2_secondsOf (by unfold fw_PL; decide) g1 _) qX2_secondsOf tw_2_175 ⟨Nat.le_of_ble_eq_true rfl, Nat.le_of_ble_eq_true rfl⟩ rfl rfl (by decide) (fc_13 (by decide)) rfl rfl hl.1 rfl (Nat.le_of_ble_eq_true rfl) dX3_firstCause_8) (fun H locs hH => ?_)
  refine lv_istore_n (lv' := [(3, .int w3), (0, .ref (adr 1)), (1, .int x1), (2, .int x2)]) hx hb dX3_firstCause_11 rfl hl (by decide) rfl (fun ls hl => ?_)
  refine lv_iload_n hx hb dX3_firstCause_12 rfl (lv_at hl 0 rfl) ?_
  refine lv_if_ne (tgt := 18) hx hb dX3_firstCause_13 (by decide) (fun hc => ?_) (fun hc => ?_)
  · have hf := fw_neg hc hf
    refine lv_aload_n hx hb dX3_firstCause_18 rfl (lv_at hl 1 rfl) ?_
    refine lv_iconst (v := (0 : Int32)) hx hb dX3_firstCause_19 (by decide) ?_
    refine lv_iload_n hx hb dX3_firstCause_20 rfl (lv_at hl 0 rfl) ?_
    refine lv_iload_n hx hb dX3_firstCause_21 rfl (lv_at hl 2 rfl) ?_
    refine lv_iload_n hx hb dX3_firstCause_22 rfl (lv_at hl 3 rfl) ?_
    obtain ⟨w6, τ5, g4, hf⟩ := fw_b2s hf
    refine fw_ci hH (fw_rV (As := [.int (0 : Int32), .int w3, .int x1, .int x2]) (rest := []) (id := 1) X hH (kX3_emptyingFilter  g4 _) qX3_emptyingFilter tw_2_196 ⟨Nat.le_of_ble_eq_true rfl, Nat.le_of_ble_eq_true rfl⟩ rfl rfl (by decide) (fc_1 (by decide)) rfl rfl hl.1 rfl (Nat.le_of_ble_eq_true rfl) dX3_firstCause_23) (fun H locs hH => ?_)
    refine lv_istore (lv' := [(4, .int w6), (3, .int w3), (0, .ref (adr 1)), (1, .int x1), (2, .int x2)]) hx hb dX3_firstCause_26 hl (by decide) rfl (fun ls hl => ?_)
    refine lv_iload hx hb dX3_firstCause_28 (lv_at hl 0 rfl) ?_
    refine lv_sipush (v := (-10001 : Int32)) hx hb dX3_firstCause_30 (by decide) ?_
    refine lv_icmp_eq (tgt := 42) hx hb dX3_firstCause_33 (by decide) (fun hc => ?_) (fun hc => ?_)
    · have hf := fw_pos hc hf
      refine lv_aload_n hx hb dX3_firstCause_42 rfl (lv_at hl 2 rfl) ?_
      refine fw_get (id := 1) (k := 0) (v := .ref (adr 12)) X hH (by decide) (fc_1 (by decide)) rfl inX3 (by decide) rfl tw_1_105 dX3_firstCause_43 ?_
      refine fw_getN (id := 12) (k := 1) (v := .ref (adr 15)) X hH (by decide) (fc_12 (by decide)) rfl inX5 (by decide) rfl nw_1_89 dX3_firstCause_46 ?_
      refine lv_iload_n hx hb dX3_firstCause_49 rfl (lv_at hl 4 rfl) ?_
      obtain ⟨w9, τ8, g7, hf⟩ := fw_b2s hf
      refine fw_ci hH (fw_rV (As := [.int x2]) (rest := []) (id := 15) X hH (kX2_firstsOf (by unfold fw_PL; decide) g7 _) qX2_firstsOf tw_2_181 ⟨Nat.le_of_ble_eq_true rfl, Nat.le_of_ble_eq_true rfl⟩ rfl rfl (by decide) (fc_13 (by decide)) rfl rfl hl.1 rfl (Nat.le_of_ble_eq_true rfl) dX3_firstCause_50) (fun H locs hH => ?_)
      refine lv_istore (lv' := [(5, .int w9), (4, .int w6), (3, .int w3), (0, .ref (adr 1)), (1, .int x1), (2, .int x2)]) hx hb dX3_firstCause_53 hl (by decide) rfl (fun ls hl => ?_)
      refine lv_iload hx hb dX3_firstCause_55 (lv_at hl 0 rfl) ?_
      refine lv_if_ne (tgt := 62) hx hb dX3_firstCause_57 (by decide) (fun hc => ?_) (fun hc => ?_)
      · have hf := fw_neg hc hf
        refine lv_aload_n hx hb dX3_firstCause_62 rfl (lv_at hl 3 rfl) ?_
        refine lv_iconst (v := (1 : Int32)) hx hb dX3_firstCause_63 (by decide) ?_
        refine lv_iload hx hb dX3_firstCause_64 (lv_at hl 0 rfl) ?_
        refine lv_iload_n hx hb dX3_firstCause_66 rfl (lv_at hl 4 rfl) ?_
        refine lv_iload_n hx hb dX3_firstCause_67 rfl (lv_at hl 5 rfl) ?_
        obtain ⟨w12, τ11, g10, hf⟩ := fw_b2s hf
        refine fw_ci hH (fw_rV (As := [.int (1 : Int32), .int w9, .int x1, .int x2]) (rest := []) (id := 1) X hH (kX3_emptyingFilter  g10 _) qX3_emptyingFilter tw_2_196 ⟨Nat.le_of_ble_eq_true rfl, Nat.le_of_ble_eq_true rfl⟩ rfl rfl (by decide) (fc_1 (by decide)) rfl rfl hl.1 rfl (Nat.le_of_ble_eq_true rfl) dX3_firstCause_68) (fun H locs hH => ?_)
        refine lv_istore (lv' := [(4, .int w12), (5, .int w9), (3, .int w3), (0, .ref (adr 1)), (1, .int x1), (2, .int x2)]) hx hb dX3_firstCause_71 hl (by decide) rfl (fun ls hl => ?_)
        refine lv_iload hx hb dX3_firstCause_73 (lv_at hl 0 rfl) ?_
        refine lv_sipush (v := (-10001 : Int32)) hx hb dX3_firstCause_75 (by decide) ?_
        refine lv_icmp_eq (tgt := 87) hx hb dX3_firstCause_78 (by decide) (fun hc => ?_) (fun hc => ?_)
        · have hf := fw_pos hc hf
          refine lv_aload_n hx hb dX3_firstCause_87 rfl (lv_at hl 3 rfl) ?_
          refine lv_iconst (v := (0 : Int32)) hx hb dX3_firstCause_88 (by decide) ?_
          refine lv_iload_n hx hb dX3_firstCause_89 rfl (lv_at hl 2 rfl) ?_
          refine lv_iload_n hx hb dX3_firstCause_90 rfl (lv_at hl 4 rfl) ?_
          refine lv_iload_n hx hb dX3_firstCause_91 rfl (lv_at hl 5 rfl) ?_
          obtain ⟨w15, τ14, g13, hf⟩ := fw_b2s hf
          refine fw_ci hH (fw_rV (As := [.int (0 : Int32), .int w3, .int x1, .int x2]) (rest := []) (id := 1) X hH (kX3_survivors  g13 _) qX3_survivors tw_2_204 ⟨Nat.le_of_ble_eq_true rfl, Nat.le_of_ble_eq_true rfl⟩ rfl rfl (by decide) (fc_1 (by decide)) rfl rfl hl.1 rfl (Nat.le_of_ble_eq_true rfl) dX3_firstCause_92) (fun H locs hH => ?_)
          refine lv_aload_n hx hb dX3_firstCause_95 rfl (lv_at hl 3 rfl) ?_
          refine lv_iconst (v := (1 : Int32)) hx hb dX3_firstCause_96 (by decide) ?_
          refine lv_iload hx hb dX3_firstCause_97 (lv_at hl 1 rfl) ?_
          refine lv_iload_n hx hb dX3_firstCause_99 rfl (lv_at hl 4 rfl) ?_
          refine lv_iload_n hx hb dX3_firstCause_100 rfl (lv_at hl 5 rfl) ?_
          obtain ⟨w18, τ17, g16, hf⟩ := fw_b2s hf
          refine fw_ci hH (fw_rV (As := [.int (1 : Int32), .int w9, .int x1, .int x2]) (rest := [.int w15]) (id := 1) X hH (kX3_survivors  g16 _) qX3_survivors tw_2_204 ⟨Nat.le_of_ble_eq_true rfl, Nat.le_of_ble_eq_true rfl⟩ rfl rfl (by decide) (fc_1 (by decide)) rfl rfl hl.1 rfl (Nat.le_of_ble_eq_true rfl) dX3_firstCause_101) (fun H locs hH => ?_)
          refine lv_iand hx hb dX3_firstCause_104 ?_
          refine lv_istore (lv' := [(6, .int (w15 &&& w18)), (4, .int w12), (5, .int w9), (3, .int w3), (0, .ref (adr 1)), (1, .int x1), (2, .int x2)]) hx hb dX3_firstCause_105 hl (by decide) rfl (fun ls hl => ?_)
          refine lv_iload hx hb dX3_firstCause_107 (lv_at hl 0 rfl) ?_
          refine lv_if_ne (tgt := 114) hx hb dX3_firstCause_109 (by decide) (fun hc => ?_) (fun hc => ?_)
          · have hf := fw_neg hc hf
            refine lv_aload_n hx hb dX3_firstCause_114 rfl (lv_at hl 4 rfl) ?_
            refine lv_iconst (v := (2 : Int32)) hx hb dX3_firstCause_115 (by decide) ?_
            refine lv_iload hx hb dX3_firstCause_116 (lv_at hl 0 rfl) ?_
            refine lv_iload_n hx hb dX3_firstCause_118 rfl (lv_at hl 5 rfl) ?_
            refine lv_iload_n hx hb dX3_firstCause_119 rfl (lv_at hl 6 rfl) ?_
            obtain ⟨w21, τ20, g19, hf⟩ := fw_b2s hf
            refine fw_ci hH (fw_rV (As := [.int (2 : Int32), .int (w15 &&& w18), .int x1, .int x2]) (rest := []) (id := 1) X hH (kX3_emptyingFilter  g19 _) qX3_emptyingFilter tw_2_196 ⟨Nat.le_of_ble_eq_true rfl, Nat.le_of_ble_eq_true rfl⟩ rfl rfl (by decide) (fc_1 (by decide)) rfl rfl hl.1 rfl (Nat.le_of_ble_eq_true rfl) dX3_firstCause_120) (fun H locs hH => ?_)
            refine lv_istore (lv' := [(4, .int w21), (6, .int (w15 &&& w18)), (5, .int w9), (3, .int w3), (0, .ref (adr 1)), (1, .int x1), (2, .int x2)]) hx hb dX3_firstCause_123 hl (by decide) rfl (fun ls hl => ?_)
            refine lv_iload hx hb dX3_firstCause_125 (lv_at hl 0 rfl) ?_
            refine lv_sipush (v := (-10001 : Int32)) hx hb dX3_firstCause_127 (by decide) ?_
            refine lv_icmp_eq (tgt := 141) hx hb dX3_firstCause_130 (by decide) (fun hc => ?_) (fun hc => ?_)
            · have hf := fw_pos hc hf
              refine lv_bipush (v := (9 : Int32)) hx hb dX3_firstCause_141 (by decide) ?_
              obtain ⟨rfl, rfl⟩ := fw_s2 hf
              exact fw_reti X hH dX3_firstCause_143
            · have hf := fw_neg hc hf
              refine lv_bipush (v := (10 : Int32)) hx hb dX3_firstCause_133 (by decide) ?_
              refine lv_iload hx hb dX3_firstCause_135 (lv_at hl 0 rfl) ?_
              refine lv_iadd hx hb dX3_firstCause_137 ?_
              refine lv_goto (tgt := 143) hx hb dX3_firstCause_138 (by decide) ?_
              obtain ⟨rfl, rfl⟩ := fw_s2 hf
              exact fw_reti X hH dX3_firstCause_143
          · have hf := fw_pos hc hf
            refine lv_iconst (v := (2 : Int32)) hx hb dX3_firstCause_112 (by decide) ?_
            obtain ⟨rfl, rfl⟩ := fw_s2 hf
            exact fw_reti X hH dX3_firstCause_113
        · have hf := fw_neg hc hf
          refine lv_bipush (v := (10 : Int32)) hx hb dX3_firstCause_81 (by decide) ?_
          refine lv_iload hx hb dX3_firstCause_83 (lv_at hl 0 rfl) ?_
          refine lv_iadd hx hb dX3_firstCause_85 ?_
          obtain ⟨rfl, rfl⟩ := fw_s2 hf
          exact fw_reti X hH dX3_firstCause_86
      · have hf := fw_pos hc hf
        refine lv_iconst (v := (1 : Int32)) hx hb dX3_firstCause_60 (by decide) ?_
        obtain ⟨rfl, rfl⟩ := fw_s2 hf
        exact fw_reti X hH dX3_firstCause_61
    · have hf := fw_neg hc hf
      refine lv_bipush (v := (10 : Int32)) hx hb dX3_firstCause_36 (by decide) ?_
      refine lv_iload hx hb dX3_firstCause_38 (lv_at hl 0 rfl) ?_
      refine lv_iadd hx hb dX3_firstCause_40 ?_
      obtain ⟨rfl, rfl⟩ := fw_s2 hf
      exact fw_reti X hH dX3_firstCause_41
  · have hf := fw_pos hc hf
    refine lv_iconst (v := (0 : Int32)) hx hb dX3_firstCause_16 (by decide) ?_
    obtain ⟨rfl, rfl⟩ := fw_s2 hf
    exact fw_reti X hH dX3_firstCause_17
abbrev rmX7_blame : Room := { frames := 5, cells := 0, slots := 0, locals := 126 }
theorem qX7_blame : fw_QV RX7 yX7_blame cX7_blame 3 (some .int) 2 := ⟨⟨tw_2_189, tw_2_190, tw_1_1, tw_2_191⟩, by decide +kernel⟩
def pX7_blame (x1 : Int32) (x2 : Int32) (σ : fw_T) : Option (Int32 × fw_T) :=
  fw_b2 (pX7_isPair x1 x2 σ) fun w3 τ2 =>
  if w3 = 0 then
    fw_b2 (pX7_report (-10002 : Int32) τ2) fun w6 τ5 =>
    some (w6, τ5)
  else
    fw_b2 (pX3_firstCause x1 x2 τ2) fun w9 τ8 =>
    fw_b2 (pX7_report w9 τ8) fun w12 τ11 =>
    some (w12, τ11)
set_option maxRecDepth 100000 in
set_option maxHeartbeats 4000000 in
theorem kX7_blame {x1 : Int32} {x2 : Int32} {r : Int32} {σ σ' : fw_T} (hf : pX7_blame x1 x2 σ = some (r, σ')) : fw_Ci l yX7_blame (Cond.code yX7_blame cX7_blame 3 (some .int) :: lwT) rmX7_blame [.ref (adr 0), .int x1, .int x2] D 96 adr (fw_C cI cO adr) (fcT cI cO) nwC σ r σ' := by
  refine fw_start (Qc := (fun A => va_Qi (fun r' (_ : Unit) => r' = r) (fun _ t => va_P D vwCl (fw_ws 96 adr (fw_C cI cO adr σ')) t.heap) A)) (by decide) (by simp [lg_sl, Value.category]) rfl ?_
  intro p e s m below meth c A X hH ls hl
  have hx := X.1.1
  have hb := X.1.2.1
  have hl : lv_has ls 3 [(0, .ref (adr 0)), (1, .int x1), (2, .int x2)] := hl
  unfold pX7_blame at hf
  refine lv_aload_n hx hb dX7_blame_0 rfl (lv_at hl 0 rfl) ?_
  refine lv_iload_n hx hb dX7_blame_1 rfl (lv_at hl 1 rfl) ?_
  refine lv_iload_n hx hb dX7_blame_2 rfl (lv_at hl 2 rfl) ?_
  obtain ⟨w3, τ2, g1, hf⟩ := fw_b2s hf
  refine fw_ci hH (fw_rS (As := [.int x1, .int x2]) (rest := [.ref (adr 0)]) X hH (kX7_isPair  g1 _) qX7_isPair tw_2_166 ⟨Nat.le_of_ble_eq_true rfl, Nat.le_of_ble_eq_true rfl⟩ rfl rfl rfl hl.1 rfl (Nat.le_of_ble_eq_true rfl) dX7_blame_3) (fun H locs hH => ?_)
  refine lv_if_eq (tgt := 21) hx hb dX7_blame_6 (by decide) (fun hc => ?_) (fun hc => ?_)
  · have hf := fw_pos hc hf
    refine lv_sipush (v := (-10002 : Int32)) hx hb dX7_blame_21 (by decide) ?_
    obtain ⟨w6, τ5, g4, hf⟩ := fw_b2s hf
    refine fw_ci hH (fw_rV (As := [.int (-10002 : Int32)]) (rest := []) (id := 0) X hH (kX7_report  g4 _) qX7_report tw_2_10 ⟨Nat.le_of_ble_eq_true rfl, Nat.le_of_ble_eq_true rfl⟩ rfl rfl (by decide) (fc_0 (by decide)) rfl rfl hl.1 rfl (Nat.le_of_ble_eq_true rfl) dX7_blame_24) (fun H locs hH => ?_)
    obtain ⟨rfl, rfl⟩ := fw_s2 hf
    exact fw_reti X hH dX7_blame_27
  · have hf := fw_neg hc hf
    refine lv_aload_n hx hb dX7_blame_9 rfl (lv_at hl 0 rfl) ?_
    refine fw_get (id := 0) (k := 0) (v := .ref (adr 1)) X hH (by decide) (fc_0 (by decide)) rfl inX7 (by decide) rfl tw_1_177 dX7_blame_10 ?_
    refine lv_iload_n hx hb dX7_blame_13 rfl (lv_at hl 1 rfl) ?_
    refine lv_iload_n hx hb dX7_blame_14 rfl (lv_at hl 2 rfl) ?_
    obtain ⟨w9, τ8, g7, hf⟩ := fw_b2s hf
    refine fw_ci hH (fw_rV (As := [.int x1, .int x2]) (rest := [.ref (adr 0)]) (id := 1) X hH (kX3_firstCause  g7 _) qX3_firstCause tw_2_192 ⟨Nat.le_of_ble_eq_true rfl, Nat.le_of_ble_eq_true rfl⟩ rfl rfl (by decide) (fc_1 (by decide)) rfl rfl hl.1 rfl (Nat.le_of_ble_eq_true rfl) dX7_blame_15) (fun H locs hH => ?_)
    refine lv_goto (tgt := 24) hx hb dX7_blame_18 (by decide) ?_
    obtain ⟨w12, τ11, g10, hf⟩ := fw_b2s hf
    refine fw_ci hH (fw_rV (As := [.int w9]) (rest := []) (id := 0) X hH (kX7_report  g10 _) qX7_report tw_2_10 ⟨Nat.le_of_ble_eq_true rfl, Nat.le_of_ble_eq_true rfl⟩ rfl rfl (by decide) (fc_0 (by decide)) rfl rfl hl.1 rfl (Nat.le_of_ble_eq_true rfl) dX7_blame_24) (fun H locs hH => ?_)
    obtain ⟨rfl, rfl⟩ := fw_s2 hf
    exact fw_reti X hH dX7_blame_27
abbrev rmJ6_bitCount_0f7a4 : Room := { frames := 0, cells := 0, slots := 0, locals := 0 }
theorem qJ6_bitCount_0f7a4 : fw_QS yJ6_bitCount_0f7a4 cJ6_bitCount_0f7a4 1 (some .int) 1 := ⟨⟨tw_2_220, tw_1_13, tw_2_221⟩, by decide +kernel⟩
def pJ6_bitCount_0f7a4 (x0 : Int32) (σ : fw_T) : Option (Int32 × fw_T) :=
  some (((((((((x0 - (((x0.toUInt32 >>> ((1 : Int32).toUInt32 &&& Int32.toUInt32 31)).toInt32) &&& (1431655765 : Int32))) &&& (858993459 : Int32)) + ((((x0 - (((x0.toUInt32 >>> ((1 : Int32).toUInt32 &&& Int32.toUInt32 31)).toInt32) &&& (1431655765 : Int32))).toUInt32 >>> ((2 : Int32).toUInt32 &&& Int32.toUInt32 31)).toInt32) &&& (858993459 : Int32))) + (((((x0 - (((x0.toUInt32 >>> ((1 : Int32).toUInt32 &&& Int32.toUInt32 31)).toInt32) &&& (1431655765 : Int32))) &&& (858993459 : Int32)) + ((((x0 - (((x0.toUInt32 >>> ((1 : Int32).toUInt32 &&& Int32.toUInt32 31)).toInt32) &&& (1431655765 : Int32))).toUInt32 >>> ((2 : Int32).toUInt32 &&& Int32.toUInt32 31)).toInt32) &&& (858993459 : Int32))).toUInt32 >>> ((4 : Int32).toUInt32 &&& Int32.toUInt32 31)).toInt32)) &&& (252645135 : Int32)) + (((((((x0 - (((x0.toUInt32 >>> ((1 : Int32).toUInt32 &&& Int32.toUInt32 31)).toInt32) &&& (1431655765 : Int32))) &&& (858993459 : Int32)) + ((((x0 - (((x0.toUInt32 >>> ((1 : Int32).toUInt32 &&& Int32.toUInt32 31)).toInt32) &&& (1431655765 : Int32))).toUInt32 >>> ((2 : Int32).toUInt32 &&& Int32.toUInt32 31)).toInt32) &&& (858993459 : Int32))) + (((((x0 - (((x0.toUInt32 >>> ((1 : Int32).toUInt32 &&& Int32.toUInt32 31)).toInt32) &&& (1431655765 : Int32))) &&& (858993459 : Int32)) + ((((x0 - (((x0.toUInt32 >>> ((1 : Int32).toUInt32 &&& Int32.toUInt32 31)).toInt32) &&& (1431655765 : Int32))).toUInt32 >>> ((2 : Int32).toUInt32 &&& Int32.toUInt32 31)).toInt32) &&& (858993459 : Int32))).toUInt32 >>> ((4 : Int32).toUInt32 &&& Int32.toUInt32 31)).toInt32)) &&& (252645135 : Int32)).toUInt32 >>> ((8 : Int32).toUInt32 &&& Int32.toUInt32 31)).toInt32)) + ((((((((x0 - (((x0.toUInt32 >>> ((1 : Int32).toUInt32 &&& Int32.toUInt32 31)).toInt32) &&& (1431655765 : Int32))) &&& (858993459 : Int32)) + ((((x0 - (((x0.toUInt32 >>> ((1 : Int32).toUInt32 &&& Int32.toUInt32 31)).toInt32) &&& (1431655765 : Int32))).toUInt32 >>> ((2 : Int32).toUInt32 &&& Int32.toUInt32 31)).toInt32) &&& (858993459 : Int32))) + (((((x0 - (((x0.toUInt32 >>> ((1 : Int32).toUInt32 &&& Int32.toUInt32 31)).toInt32) &&& (1431655765 : Int32))) &&& (858993459 : Int32)) + ((((x0 - (((x0.toUInt32 >>> ((1 : Int32).toUInt32 &&& Int32.toUInt32 31)).toInt32) &&& (1431655765 : Int32))).toUInt32 >>> ((2 : Int32).toUInt32 &&& Int32.toUInt32 31)).toInt32) &&& (858993459 : Int32))).toUInt32 >>> ((4 : Int32).toUInt32 &&& Int32.toUInt32 31)).toInt32)) &&& (252645135 : Int32)) + (((((((x0 - (((x0.toUInt32 >>> ((1 : Int32).toUInt32 &&& Int32.toUInt32 31)).toInt32) &&& (1431655765 : Int32))) &&& (858993459 : Int32)) + ((((x0 - (((x0.toUInt32 >>> ((1 : Int32).toUInt32 &&& Int32.toUInt32 31)).toInt32) &&& (1431655765 : Int32))).toUInt32 >>> ((2 : Int32).toUInt32 &&& Int32.toUInt32 31)).toInt32) &&& (858993459 : Int32))) + (((((x0 - (((x0.toUInt32 >>> ((1 : Int32).toUInt32 &&& Int32.toUInt32 31)).toInt32) &&& (1431655765 : Int32))) &&& (858993459 : Int32)) + ((((x0 - (((x0.toUInt32 >>> ((1 : Int32).toUInt32 &&& Int32.toUInt32 31)).toInt32) &&& (1431655765 : Int32))).toUInt32 >>> ((2 : Int32).toUInt32 &&& Int32.toUInt32 31)).toInt32) &&& (858993459 : Int32))).toUInt32 >>> ((4 : Int32).toUInt32 &&& Int32.toUInt32 31)).toInt32)) &&& (252645135 : Int32)).toUInt32 >>> ((8 : Int32).toUInt32 &&& Int32.toUInt32 31)).toInt32)).toUInt32 >>> ((16 : Int32).toUInt32 &&& Int32.toUInt32 31)).toInt32)) &&& (63 : Int32)), σ)
set_option maxRecDepth 100000 in
set_option maxHeartbeats 4000000 in
theorem kJ6_bitCount_0f7a4 {x0 : Int32} {r : Int32} {σ σ' : fw_T} (hf : pJ6_bitCount_0f7a4 x0 σ = some (r, σ')) : fw_Ci l yJ6_bitCount_0f7a4 (Cond.code yJ6_bitCount_0f7a4 cJ6_bitCount_0f7a4 1 (some .int) :: lwT) rmJ6_bitCount_0f7a4 [.int x0] D 96 adr (fw_C cI cO adr) (fcT cI cO) nwC σ r σ' := by
  refine fw_start (Qc := (fun A => va_Qi (fun r' (_ : Unit) => r' = r) (fun _ t => va_P D vwCl (fw_ws 96 adr (fw_C cI cO adr σ')) t.heap) A)) (by decide) (by simp [lg_sl, Value.category]) rfl ?_
  intro p e s m below meth c A X hH ls hl
  have hx := X.1.1
  have hb := X.1.2.1
  have hl : lv_has ls 1 [(0, .int x0)] := hl
  unfold pJ6_bitCount_0f7a4 at hf
  refine lv_iload_n hx hb dJ6_bitCount_0f7a4_0 rfl (lv_at hl 0 rfl) ?_
  refine lv_iload_n hx hb dJ6_bitCount_0f7a4_1 rfl (lv_at hl 0 rfl) ?_
  refine lv_iconst (v := (1 : Int32)) hx hb dJ6_bitCount_0f7a4_2 (by decide) ?_
  refine lv_iushr (v := ((x0.toUInt32 >>> ((1 : Int32).toUInt32 &&& Int32.toUInt32 31)).toInt32)) hx hb dJ6_bitCount_0f7a4_3 rfl ?_
  refine lv_ldcw (v := (1431655765 : Int32)) hx hb X.1.2.2.2.1 (X.1.2.2.2.2 _ tw_2_222) dJ6_bitCount_0f7a4_4 ?_
  refine lv_iand hx hb dJ6_bitCount_0f7a4_7 ?_
  refine lv_isub hx hb dJ6_bitCount_0f7a4_8 ?_
  refine lv_istore_n (lv' := [(0, .int (x0 - (((x0.toUInt32 >>> ((1 : Int32).toUInt32 &&& Int32.toUInt32 31)).toInt32) &&& (1431655765 : Int32))))]) hx hb dJ6_bitCount_0f7a4_9 rfl hl (by decide) rfl (fun ls hl => ?_)
  refine lv_iload_n hx hb dJ6_bitCount_0f7a4_10 rfl (lv_at hl 0 rfl) ?_
  refine lv_ldcw (v := (858993459 : Int32)) hx hb X.1.2.2.2.1 (X.1.2.2.2.2 _ tw_2_223) dJ6_bitCount_0f7a4_11 ?_
  refine lv_iand hx hb dJ6_bitCount_0f7a4_14 ?_
  refine lv_iload_n hx hb dJ6_bitCount_0f7a4_15 rfl (lv_at hl 0 rfl) ?_
  refine lv_iconst (v := (2 : Int32)) hx hb dJ6_bitCount_0f7a4_16 (by decide) ?_
  refine lv_iushr (v := (((x0 - (((x0.toUInt32 >>> ((1 : Int32).toUInt32 &&& Int32.toUInt32 31)).toInt32) &&& (1431655765 : Int32))).toUInt32 >>> ((2 : Int32).toUInt32 &&& Int32.toUInt32 31)).toInt32)) hx hb dJ6_bitCount_0f7a4_17 rfl ?_
  refine lv_ldcw (v := (858993459 : Int32)) hx hb X.1.2.2.2.1 (X.1.2.2.2.2 _ tw_2_223) dJ6_bitCount_0f7a4_18 ?_
  refine lv_iand hx hb dJ6_bitCount_0f7a4_21 ?_
  refine lv_iadd hx hb dJ6_bitCount_0f7a4_22 ?_
  refine lv_istore_n (lv' := [(0, .int (((x0 - (((x0.toUInt32 >>> ((1 : Int32).toUInt32 &&& Int32.toUInt32 31)).toInt32) &&& (1431655765 : Int32))) &&& (858993459 : Int32)) + ((((x0 - (((x0.toUInt32 >>> ((1 : Int32).toUInt32 &&& Int32.toUInt32 31)).toInt32) &&& (1431655765 : Int32))).toUInt32 >>> ((2 : Int32).toUInt32 &&& Int32.toUInt32 31)).toInt32) &&& (858993459 : Int32))))]) hx hb dJ6_bitCount_0f7a4_23 rfl hl (by decide) rfl (fun ls hl => ?_)
  refine lv_iload_n hx hb dJ6_bitCount_0f7a4_24 rfl (lv_at hl 0 rfl) ?_
  refine lv_iload_n hx hb dJ6_bitCount_0f7a4_25 rfl (lv_at hl 0 rfl) ?_
  refine lv_iconst (v := (4 : Int32)) hx hb dJ6_bitCount_0f7a4_26 (by decide) ?_
  refine lv_iushr (v := (((((x0 - (((x0.toUInt32 >>> ((1 : Int32).toUInt32 &&& Int32.toUInt32 31)).toInt32) &&& (1431655765 : Int32))) &&& (858993459 : Int32)) + ((((x0 - (((x0.toUInt32 >>> ((1 : Int32).toUInt32 &&& Int32.toUInt32 31)).toInt32) &&& (1431655765 : Int32))).toUInt32 >>> ((2 : Int32).toUInt32 &&& Int32.toUInt32 31)).toInt32) &&& (858993459 : Int32))).toUInt32 >>> ((4 : Int32).toUInt32 &&& Int32.toUInt32 31)).toInt32)) hx hb dJ6_bitCount_0f7a4_27 rfl ?_
  refine lv_iadd hx hb dJ6_bitCount_0f7a4_28 ?_
  refine lv_ldcw (v := (252645135 : Int32)) hx hb X.1.2.2.2.1 (X.1.2.2.2.2 _ tw_2_224) dJ6_bitCount_0f7a4_29 ?_
  refine lv_iand hx hb dJ6_bitCount_0f7a4_32 ?_
  refine lv_istore_n (lv' := [(0, .int (((((x0 - (((x0.toUInt32 >>> ((1 : Int32).toUInt32 &&& Int32.toUInt32 31)).toInt32) &&& (1431655765 : Int32))) &&& (858993459 : Int32)) + ((((x0 - (((x0.toUInt32 >>> ((1 : Int32).toUInt32 &&& Int32.toUInt32 31)).toInt32) &&& (1431655765 : Int32))).toUInt32 >>> ((2 : Int32).toUInt32 &&& Int32.toUInt32 31)).toInt32) &&& (858993459 : Int32))) + (((((x0 - (((x0.toUInt32 >>> ((1 : Int32).toUInt32 &&& Int32.toUInt32 31)).toInt32) &&& (1431655765 : Int32))) &&& (858993459 : Int32)) + ((((x0 - (((x0.toUInt32 >>> ((1 : Int32).toUInt32 &&& Int32.toUInt32 31)).toInt32) &&& (1431655765 : Int32))).toUInt32 >>> ((2 : Int32).toUInt32 &&& Int32.toUInt32 31)).toInt32) &&& (858993459 : Int32))).toUInt32 >>> ((4 : Int32).toUInt32 &&& Int32.toUInt32 31)).toInt32)) &&& (252645135 : Int32)))]) hx hb dJ6_bitCount_0f7a4_33 rfl hl (by decide) rfl (fun ls hl => ?_)
  refine lv_iload_n hx hb dJ6_bitCount_0f7a4_34 rfl (lv_at hl 0 rfl) ?_
  refine lv_iload_n hx hb dJ6_bitCount_0f7a4_35 rfl (lv_at hl 0 rfl) ?_
  refine lv_bipush (v := (8 : Int32)) hx hb dJ6_bitCount_0f7a4_36 (by decide) ?_
  refine lv_iushr (v := (((((((x0 - (((x0.toUInt32 >>> ((1 : Int32).toUInt32 &&& Int32.toUInt32 31)).toInt32) &&& (1431655765 : Int32))) &&& (858993459 : Int32)) + ((((x0 - (((x0.toUInt32 >>> ((1 : Int32).toUInt32 &&& Int32.toUInt32 31)).toInt32) &&& (1431655765 : Int32))).toUInt32 >>> ((2 : Int32).toUInt32 &&& Int32.toUInt32 31)).toInt32) &&& (858993459 : Int32))) + (((((x0 - (((x0.toUInt32 >>> ((1 : Int32).toUInt32 &&& Int32.toUInt32 31)).toInt32) &&& (1431655765 : Int32))) &&& (858993459 : Int32)) + ((((x0 - (((x0.toUInt32 >>> ((1 : Int32).toUInt32 &&& Int32.toUInt32 31)).toInt32) &&& (1431655765 : Int32))).toUInt32 >>> ((2 : Int32).toUInt32 &&& Int32.toUInt32 31)).toInt32) &&& (858993459 : Int32))).toUInt32 >>> ((4 : Int32).toUInt32 &&& Int32.toUInt32 31)).toInt32)) &&& (252645135 : Int32)).toUInt32 >>> ((8 : Int32).toUInt32 &&& Int32.toUInt32 31)).toInt32)) hx hb dJ6_bitCount_0f7a4_38 rfl ?_
  refine lv_iadd hx hb dJ6_bitCount_0f7a4_39 ?_
  refine lv_istore_n (lv' := [(0, .int ((((((x0 - (((x0.toUInt32 >>> ((1 : Int32).toUInt32 &&& Int32.toUInt32 31)).toInt32) &&& (1431655765 : Int32))) &&& (858993459 : Int32)) + ((((x0 - (((x0.toUInt32 >>> ((1 : Int32).toUInt32 &&& Int32.toUInt32 31)).toInt32) &&& (1431655765 : Int32))).toUInt32 >>> ((2 : Int32).toUInt32 &&& Int32.toUInt32 31)).toInt32) &&& (858993459 : Int32))) + (((((x0 - (((x0.toUInt32 >>> ((1 : Int32).toUInt32 &&& Int32.toUInt32 31)).toInt32) &&& (1431655765 : Int32))) &&& (858993459 : Int32)) + ((((x0 - (((x0.toUInt32 >>> ((1 : Int32).toUInt32 &&& Int32.toUInt32 31)).toInt32) &&& (1431655765 : Int32))).toUInt32 >>> ((2 : Int32).toUInt32 &&& Int32.toUInt32 31)).toInt32) &&& (858993459 : Int32))).toUInt32 >>> ((4 : Int32).toUInt32 &&& Int32.toUInt32 31)).toInt32)) &&& (252645135 : Int32)) + (((((((x0 - (((x0.toUInt32 >>> ((1 : Int32).toUInt32 &&& Int32.toUInt32 31)).toInt32) &&& (1431655765 : Int32))) &&& (858993459 : Int32)) + ((((x0 - (((x0.toUInt32 >>> ((1 : Int32).toUInt32 &&& Int32.toUInt32 31)).toInt32) &&& (1431655765 : Int32))).toUInt32 >>> ((2 : Int32).toUInt32 &&& Int32.toUInt32 31)).toInt32) &&& (858993459 : Int32))) + (((((x0 - (((x0.toUInt32 >>> ((1 : Int32).toUInt32 &&& Int32.toUInt32 31)).toInt32) &&& (1431655765 : Int32))) &&& (858993459 : Int32)) + ((((x0 - (((x0.toUInt32 >>> ((1 : Int32).toUInt32 &&& Int32.toUInt32 31)).toInt32) &&& (1431655765 : Int32))).toUInt32 >>> ((2 : Int32).toUInt32 &&& Int32.toUInt32 31)).toInt32) &&& (858993459 : Int32))).toUInt32 >>> ((4 : Int32).toUInt32 &&& Int32.toUInt32 31)).toInt32)) &&& (252645135 : Int32)).toUInt32 >>> ((8 : Int32).toUInt32 &&& Int32.toUInt32 31)).toInt32)))]) hx hb dJ6_bitCount_0f7a4_40 rfl hl (by decide) rfl (fun ls hl => ?_)
  refine lv_iload_n hx hb dJ6_bitCount_0f7a4_41 rfl (lv_at hl 0 rfl) ?_
  refine lv_iload_n hx hb dJ6_bitCount_0f7a4_42 rfl (lv_at hl 0 rfl) ?_
  refine lv_bipush (v := (16 : Int32)) hx hb dJ6_bitCount_0f7a4_43 (by decide) ?_
  refine lv_iushr (v := ((((((((x0 - (((x0.toUInt32 >>> ((1 : Int32).toUInt32 &&& Int32.toUInt32 31)).toInt32) &&& (1431655765 : Int32))) &&& (858993459 : Int32)) + ((((x0 - (((x0.toUInt32 >>> ((1 : Int32).toUInt32 &&& Int32.toUInt32 31)).toInt32) &&& (1431655765 : Int32))).toUInt32 >>> ((2 : Int32).toUInt32 &&& Int32.toUInt32 31)).toInt32) &&& (858993459 : Int32))) + (((((x0 - (((x0.toUInt32 >>> ((1 : Int32).toUInt32 &&& Int32.toUInt32 31)).toInt32) &&& (1431655765 : Int32))) &&& (858993459 : Int32)) + ((((x0 - (((x0.toUInt32 >>> ((1 : Int32).toUInt32 &&& Int32.toUInt32 31)).toInt32) &&& (1431655765 : Int32))).toUInt32 >>> ((2 : Int32).toUInt32 &&& Int32.toUInt32 31)).toInt32) &&& (858993459 : Int32))).toUInt32 >>> ((4 : Int32).toUInt32 &&& Int32.toUInt32 31)).toInt32)) &&& (252645135 : Int32)) + (((((((x0 - (((x0.toUInt32 >>> ((1 : Int32).toUInt32 &&& Int32.toUInt32 31)).toInt32) &&& (1431655765 : Int32))) &&& (858993459 : Int32)) + ((((x0 - (((x0.toUInt32 >>> ((1 : Int32).toUInt32 &&& Int32.toUInt32 31)).toInt32) &&& (1431655765 : Int32))).toUInt32 >>> ((2 : Int32).toUInt32 &&& Int32.toUInt32 31)).toInt32) &&& (858993459 : Int32))) + (((((x0 - (((x0.toUInt32 >>> ((1 : Int32).toUInt32 &&& Int32.toUInt32 31)).toInt32) &&& (1431655765 : Int32))) &&& (858993459 : Int32)) + ((((x0 - (((x0.toUInt32 >>> ((1 : Int32).toUInt32 &&& Int32.toUInt32 31)).toInt32) &&& (1431655765 : Int32))).toUInt32 >>> ((2 : Int32).toUInt32 &&& Int32.toUInt32 31)).toInt32) &&& (858993459 : Int32))).toUInt32 >>> ((4 : Int32).toUInt32 &&& Int32.toUInt32 31)).toInt32)) &&& (252645135 : Int32)).toUInt32 >>> ((8 : Int32).toUInt32 &&& Int32.toUInt32 31)).toInt32)).toUInt32 >>> ((16 : Int32).toUInt32 &&& Int32.toUInt32 31)).toInt32)) hx hb dJ6_bitCount_0f7a4_45 rfl ?_
  refine lv_iadd hx hb dJ6_bitCount_0f7a4_46 ?_
  refine lv_istore_n (lv' := [(0, .int (((((((x0 - (((x0.toUInt32 >>> ((1 : Int32).toUInt32 &&& Int32.toUInt32 31)).toInt32) &&& (1431655765 : Int32))) &&& (858993459 : Int32)) + ((((x0 - (((x0.toUInt32 >>> ((1 : Int32).toUInt32 &&& Int32.toUInt32 31)).toInt32) &&& (1431655765 : Int32))).toUInt32 >>> ((2 : Int32).toUInt32 &&& Int32.toUInt32 31)).toInt32) &&& (858993459 : Int32))) + (((((x0 - (((x0.toUInt32 >>> ((1 : Int32).toUInt32 &&& Int32.toUInt32 31)).toInt32) &&& (1431655765 : Int32))) &&& (858993459 : Int32)) + ((((x0 - (((x0.toUInt32 >>> ((1 : Int32).toUInt32 &&& Int32.toUInt32 31)).toInt32) &&& (1431655765 : Int32))).toUInt32 >>> ((2 : Int32).toUInt32 &&& Int32.toUInt32 31)).toInt32) &&& (858993459 : Int32))).toUInt32 >>> ((4 : Int32).toUInt32 &&& Int32.toUInt32 31)).toInt32)) &&& (252645135 : Int32)) + (((((((x0 - (((x0.toUInt32 >>> ((1 : Int32).toUInt32 &&& Int32.toUInt32 31)).toInt32) &&& (1431655765 : Int32))) &&& (858993459 : Int32)) + ((((x0 - (((x0.toUInt32 >>> ((1 : Int32).toUInt32 &&& Int32.toUInt32 31)).toInt32) &&& (1431655765 : Int32))).toUInt32 >>> ((2 : Int32).toUInt32 &&& Int32.toUInt32 31)).toInt32) &&& (858993459 : Int32))) + (((((x0 - (((x0.toUInt32 >>> ((1 : Int32).toUInt32 &&& Int32.toUInt32 31)).toInt32) &&& (1431655765 : Int32))) &&& (858993459 : Int32)) + ((((x0 - (((x0.toUInt32 >>> ((1 : Int32).toUInt32 &&& Int32.toUInt32 31)).toInt32) &&& (1431655765 : Int32))).toUInt32 >>> ((2 : Int32).toUInt32 &&& Int32.toUInt32 31)).toInt32) &&& (858993459 : Int32))).toUInt32 >>> ((4 : Int32).toUInt32 &&& Int32.toUInt32 31)).toInt32)) &&& (252645135 : Int32)).toUInt32 >>> ((8 : Int32).toUInt32 &&& Int32.toUInt32 31)).toInt32)) + ((((((((x0 - (((x0.toUInt32 >>> ((1 : Int32).toUInt32 &&& Int32.toUInt32 31)).toInt32) &&& (1431655765 : Int32))) &&& (858993459 : Int32)) + ((((x0 - (((x0.toUInt32 >>> ((1 : Int32).toUInt32 &&& Int32.toUInt32 31)).toInt32) &&& (1431655765 : Int32))).toUInt32 >>> ((2 : Int32).toUInt32 &&& Int32.toUInt32 31)).toInt32) &&& (858993459 : Int32))) + (((((x0 - (((x0.toUInt32 >>> ((1 : Int32).toUInt32 &&& Int32.toUInt32 31)).toInt32) &&& (1431655765 : Int32))) &&& (858993459 : Int32)) + ((((x0 - (((x0.toUInt32 >>> ((1 : Int32).toUInt32 &&& Int32.toUInt32 31)).toInt32) &&& (1431655765 : Int32))).toUInt32 >>> ((2 : Int32).toUInt32 &&& Int32.toUInt32 31)).toInt32) &&& (858993459 : Int32))).toUInt32 >>> ((4 : Int32).toUInt32 &&& Int32.toUInt32 31)).toInt32)) &&& (252645135 : Int32)) + (((((((x0 - (((x0.toUInt32 >>> ((1 : Int32).toUInt32 &&& Int32.toUInt32 31)).toInt32) &&& (1431655765 : Int32))) &&& (858993459 : Int32)) + ((((x0 - (((x0.toUInt32 >>> ((1 : Int32).toUInt32 &&& Int32.toUInt32 31)).toInt32) &&& (1431655765 : Int32))).toUInt32 >>> ((2 : Int32).toUInt32 &&& Int32.toUInt32 31)).toInt32) &&& (858993459 : Int32))) + (((((x0 - (((x0.toUInt32 >>> ((1 : Int32).toUInt32 &&& Int32.toUInt32 31)).toInt32) &&& (1431655765 : Int32))) &&& (858993459 : Int32)) + ((((x0 - (((x0.toUInt32 >>> ((1 : Int32).toUInt32 &&& Int32.toUInt32 31)).toInt32) &&& (1431655765 : Int32))).toUInt32 >>> ((2 : Int32).toUInt32 &&& Int32.toUInt32 31)).toInt32) &&& (858993459 : Int32))).toUInt32 >>> ((4 : Int32).toUInt32 &&& Int32.toUInt32 31)).toInt32)) &&& (252645135 : Int32)).toUInt32 >>> ((8 : Int32).toUInt32 &&& Int32.toUInt32 31)).toInt32)).toUInt32 >>> ((16 : Int32).toUInt32 &&& Int32.toUInt32 31)).toInt32)))]) hx hb dJ6_bitCount_0f7a4_47 rfl hl (by decide) rfl (fun ls hl => ?_)
  refine lv_iload_n hx hb dJ6_bitCount_0f7a4_48 rfl (lv_at hl 0 rfl) ?_
  refine lv_bipush (v := (63 : Int32)) hx hb dJ6_bitCount_0f7a4_49 (by decide) ?_
  refine lv_iand hx hb dJ6_bitCount_0f7a4_51 ?_
  obtain ⟨rfl, rfl⟩ := fw_s2 hf
  exact fw_reti X hH dJ6_bitCount_0f7a4_52
abbrev rmX3_isSmallerSet : Room := { frames := 1, cells := 0, slots := 0, locals := 20 }
theorem qX3_isSmallerSet : fw_QS yX3_isSmallerSet cX3_isSmallerSet 3 (some .boolean) 2 := ⟨⟨tw_2_217, tw_1_2, tw_2_218⟩, by decide +kernel⟩
def pX3_isSmallerSet (x0 : Int32) (x1 : Int32) (σ : fw_T) : Option (Int32 × fw_T) :=
  fw_b2 (pJ6_bitCount_0f7a4 x0 σ) fun w3 τ2 =>
  fw_b2 (pJ6_bitCount_0f7a4 x1 τ2) fun w6 τ5 =>
  if (w3 - w6) < 0 then
    fw_rz (1 : Int32) τ5
  else
    if (w3 - w6) = 0 then
      if x1 ≤ x0 then
        fw_rz (0 : Int32) τ5
      else
        fw_rz (1 : Int32) τ5
    else
      fw_rz (0 : Int32) τ5
set_option maxRecDepth 100000 in
set_option maxHeartbeats 4000000 in
theorem kX3_isSmallerSet {x0 : Int32} {x1 : Int32} {r : Int32} {σ σ' : fw_T} (hf : pX3_isSmallerSet x0 x1 σ = some (r, σ')) : fw_Ci l yX3_isSmallerSet (Cond.code yX3_isSmallerSet cX3_isSmallerSet 3 (some .boolean) :: lwT) rmX3_isSmallerSet [.int x0, .int x1] D 96 adr (fw_C cI cO adr) (fcT cI cO) nwC σ r σ' := by
  refine fw_start (Qc := (fun A => va_Qi (fun r' (_ : Unit) => r' = r) (fun _ t => va_P D vwCl (fw_ws 96 adr (fw_C cI cO adr σ')) t.heap) A)) (by decide) (by simp [lg_sl, Value.category]) rfl ?_
  intro p e s m below meth c A X hH ls hl
  have hx := X.1.1
  have hb := X.1.2.1
  have hl : lv_has ls 3 [(0, .int x0), (1, .int x1)] := hl
  unfold pX3_isSmallerSet at hf
  refine lv_iload_n hx hb dX3_isSmallerSet_0 rfl (lv_at hl 0 rfl) ?_
  obtain ⟨w3, τ2, g1, hf⟩ := fw_b2s hf
  refine fw_ci hH (fw_rS (As := [.int x0]) (rest := []) X hH (kJ6_bitCount_0f7a4  g1 _) qJ6_bitCount_0f7a4 tw_2_219 ⟨Nat.le_of_ble_eq_true rfl, Nat.le_of_ble_eq_true rfl⟩ rfl rfl rfl hl.1 rfl (Nat.le_of_ble_eq_true rfl) dX3_isSmallerSet_1) (fun H locs hH => ?_)
  refine lv_iload_n hx hb dX3_isSmallerSet_4 rfl (lv_at hl 1 rfl) ?_
  obtain ⟨w6, τ5, g4, hf⟩ := fw_b2s hf
  refine fw_ci hH (fw_rS (As := [.int x1]) (rest := [.int w3]) X hH (kJ6_bitCount_0f7a4  g4 _) qJ6_bitCount_0f7a4 tw_2_219 ⟨Nat.le_of_ble_eq_true rfl, Nat.le_of_ble_eq_true rfl⟩ rfl rfl rfl hl.1 rfl (Nat.le_of_ble_eq_true rfl) dX3_isSmallerSet_5) (fun H locs hH => ?_)
  refine lv_isub hx hb dX3_isSmallerSet_8 ?_
  refine lv_istore_n (lv' := [(2, .int (w3 - w6)), (0, .int x0), (1, .int x1)]) hx hb dX3_isSmallerSet_9 rfl hl (by decide) rfl (fun ls hl => ?_)
  refine lv_iload_n hx hb dX3_isSmallerSet_10 rfl (lv_at hl 0 rfl) ?_
  refine lv_if_lt (tgt := 23) hx hb dX3_isSmallerSet_11 (by decide) (fun hc => ?_) (fun hc => ?_)
  · have hf := fw_pos hc hf
    refine lv_iconst (v := (1 : Int32)) hx hb dX3_isSmallerSet_23 (by decide) ?_
    refine lv_goto (tgt := 28) hx hb dX3_isSmallerSet_24 (by decide) ?_
    obtain ⟨rfl, rfl, hz⟩ := fw_rzs hf
    exact fw_retz X hH hz dX3_isSmallerSet_28
  · have hf := fw_neg hc hf
    refine lv_iload_n hx hb dX3_isSmallerSet_14 rfl (lv_at hl 0 rfl) ?_
    refine lv_if_ne (tgt := 27) hx hb dX3_isSmallerSet_15 (by decide) (fun hc => ?_) (fun hc => ?_)
    · have hf := fw_neg hc hf
      refine lv_iconst (v := (0 : Int32)) hx hb dX3_isSmallerSet_27 (by decide) ?_
      obtain ⟨rfl, rfl, hz⟩ := fw_rzs hf
      exact fw_retz X hH hz dX3_isSmallerSet_28
    · have hf := fw_pos hc hf
      refine lv_iload_n hx hb dX3_isSmallerSet_18 rfl (lv_at hl 1 rfl) ?_
      refine lv_iload_n hx hb dX3_isSmallerSet_19 rfl (lv_at hl 2 rfl) ?_
      refine lv_icmp_ge (tgt := 27) hx hb dX3_isSmallerSet_20 (by decide) (fun hc => ?_) (fun hc => ?_)
      · have hf := fw_pos hc hf
        refine lv_iconst (v := (0 : Int32)) hx hb dX3_isSmallerSet_27 (by decide) ?_
        obtain ⟨rfl, rfl, hz⟩ := fw_rzs hf
        exact fw_retz X hH hz dX3_isSmallerSet_28
      · have hf := fw_neg hc hf
        refine lv_iconst (v := (1 : Int32)) hx hb dX3_isSmallerSet_23 (by decide) ?_
        refine lv_goto (tgt := 28) hx hb dX3_isSmallerSet_24 (by decide) ?_
        obtain ⟨rfl, rfl, hz⟩ := fw_rzs hf
        exact fw_retz X hH hz dX3_isSmallerSet_28
abbrev rmX3_smallestRemoval : Room := { frames := 4, cells := 0, slots := 0, locals := 87 }
theorem qX3_smallestRemoval : fw_QV RX3 yX3_smallestRemoval cX3_smallestRemoval 7 (some .int) 2 := ⟨⟨tw_2_213, tw_2_214, tw_1_2, tw_2_215⟩, by decide +kernel⟩
def pX3_smallestRemoval_15 : Nat → Int32 → Int32 → Int32 → Int32 → Int32 → fw_T → Option (Int32 × fw_T)
  | 0, _, _, _, _, _, _ => none
  | n + 1, x1, x2, x3, x4, x5, σ =>
    if (10 : Int32) ≤ x5 then
      some (x4, σ)
    else
      fw_b2 (pX7_isIn x3 x5 σ) fun w6 τ5 =>
      if w6 = 0 then
        pX3_smallestRemoval_15 n x1 x2 x3 x4 (x5 + (1 : Int32)) τ5
      else
        fw_b2 (pX0_rejecters 17 x1 x5 x2 τ5) fun w9 τ8 =>
        if x4 = (-10001 : Int32) then
          pX3_smallestRemoval_15 n x1 x2 x3 w9 (x5 + (1 : Int32)) τ8
        else
          fw_b2 (pX3_isSmallerSet w9 x4 τ8) fun w12 τ11 =>
          if w12 = 0 then
            pX3_smallestRemoval_15 n x1 x2 x3 x4 (x5 + (1 : Int32)) τ11
          else
            pX3_smallestRemoval_15 n x1 x2 x3 w9 (x5 + (1 : Int32)) τ11
set_option maxRecDepth 100000 in
set_option maxHeartbeats 4000000 in
theorem wX3_smallestRemoval_15 {args : Array Value} {r : Int32} {σ' : fw_T} (X : fcX p m c cX3_smallestRemoval 7 s args RX3 meth (some .int) D cI cO)  : ∀ (n : Nat), ∀ (x1 : Int32), ∀ (x2 : Int32), ∀ (x3 : Int32), ∀ (x4 : Int32), ∀ (x5 : Int32), ∀ (σ : fw_T), pX3_smallestRemoval_15 n x1 x2 x3 x4 x5 σ = some (r, σ') → ∀ (H : Heap) (locs : List Loc) (ls : Array Slot), fcH D cI cO adr A s H locs σ → lv_has ls 7 [(0, .ref (adr 1)), (1, .int x1), (2, .int x2), (3, .int x3), (4, .int x4), (5, .int x5)] → W p l e rmX3_smallestRemoval s m args below meth c H locs 0 0 (fw_Qi D 96 adr (fw_C cI cO adr) A below args s r σ') (F0 m 15 ls []) := by
  have hx := X.1.1
  have hb := X.1.2.1
  intro n
  induction n with
  | zero =>
    intro x1 x2 x3 x4 x5 σ hf
    exact absurd hf (by simp [pX3_smallestRemoval_15])
  | succ n ih =>
    intro x1 x2 x3 x4 x5 σ hf H locs ls hH hl
    rw [pX3_smallestRemoval_15] at hf
    refine lv_iload hx hb dX3_smallestRemoval_15 (lv_at hl 5 rfl) ?_
    refine lv_bipush (v := (10 : Int32)) hx hb dX3_smallestRemoval_17 (by decide) ?_
    refine lv_icmp_ge (tgt := 75) hx hb dX3_smallestRemoval_19 (by decide) (fun hc => ?_) (fun hc => ?_)
    · have hf := fw_pos hc hf
      refine lv_iload hx hb dX3_smallestRemoval_75 (lv_at hl 4 rfl) ?_
      obtain ⟨rfl, rfl⟩ := fw_s2 hf
      exact fw_reti X hH dX3_smallestRemoval_77
    · have hf := fw_neg hc hf
      refine lv_iload_n hx hb dX3_smallestRemoval_22 rfl (lv_at hl 3 rfl) ?_
      refine lv_iload hx hb dX3_smallestRemoval_23 (lv_at hl 5 rfl) ?_
      obtain ⟨w6, τ5, g4, hf⟩ := fw_b2s hf
      refine fw_ci hH (fw_rN (As := [.int x3, .int x5]) (rest := []) X hH (kX7_isIn  g4 _) qX7_isIn nw_2_185 ⟨Nat.le_of_ble_eq_true rfl, Nat.le_of_ble_eq_true rfl⟩ rfl rfl rfl hl.1 rfl (Nat.le_of_ble_eq_true rfl) dX3_smallestRemoval_25) (fun H locs hH => ?_)
      refine lv_if_eq (tgt := 69) hx hb dX3_smallestRemoval_28 (by decide) (fun hc => ?_) (fun hc => ?_)
      · have hf := fw_pos hc hf
        refine lv_iinc (v := (x5 + (1 : Int32))) (lv' := [(5, .int (x5 + (1 : Int32))), (0, .ref (adr 1)), (1, .int x1), (2, .int x2), (3, .int x3), (4, .int x4)]) hx hb dX3_smallestRemoval_69 hl (k := 5) rfl rfl (by decide) rfl (fun ls hl => ?_)
        refine lv_goto (tgt := 15) hx hb dX3_smallestRemoval_72 (by decide) ?_
        exact ih x1 x2 x3 x4 (x5 + (1 : Int32)) τ5 hf _ _ _ hH (lv_sub hl [1, 2, 3, 4, 5, 0] rfl)
      · have hf := fw_neg hc hf
        refine lv_aload_n hx hb dX3_smallestRemoval_31 rfl (lv_at hl 0 rfl) ?_
        refine fw_get (id := 1) (k := 0) (v := .ref (adr 12)) X hH (by decide) (fc_1 (by decide)) rfl inX3 (by decide) rfl tw_1_105 dX3_smallestRemoval_32 ?_
        refine fw_getN (id := 12) (k := 2) (v := .ref (adr 17)) X hH (by decide) (fc_12 (by decide)) rfl inX5 (by decide) rfl nw_1_91 dX3_smallestRemoval_35 ?_
        refine lv_iload_n hx hb dX3_smallestRemoval_38 rfl (lv_at hl 1 rfl) ?_
        refine lv_iload hx hb dX3_smallestRemoval_39 (lv_at hl 5 rfl) ?_
        refine lv_iload_n hx hb dX3_smallestRemoval_41 rfl (lv_at hl 2 rfl) ?_
        obtain ⟨w9, τ8, g7, hf⟩ := fw_b2s hf
        refine fw_ci hH (fw_rV (As := [.int x1, .int x5, .int x2]) (rest := []) (id := 17) X hH (kX0_rejecters (by unfold fw_FL; decide) g7 _) qX0_rejecters tw_2_149 ⟨Nat.le_of_ble_eq_true rfl, Nat.le_of_ble_eq_true rfl⟩ rfl rfl (by decide) (fc_15 (by decide)) rfl rfl hl.1 rfl (Nat.le_of_ble_eq_true rfl) dX3_smallestRemoval_42) (fun H locs hH => ?_)
        refine lv_istore (lv' := [(6, .int w9), (0, .ref (adr 1)), (1, .int x1), (2, .int x2), (3, .int x3), (4, .int x4), (5, .int x5)]) hx hb dX3_smallestRemoval_45 hl (by decide) rfl (fun ls hl => ?_)
        refine lv_iload hx hb dX3_smallestRemoval_47 (lv_at hl 5 rfl) ?_
        refine lv_sipush (v := (-10001 : Int32)) hx hb dX3_smallestRemoval_49 (by decide) ?_
        refine lv_icmp_eq (tgt := 65) hx hb dX3_smallestRemoval_52 (by decide) (fun hc => ?_) (fun hc => ?_)
        · have hf := fw_pos hc hf
          refine lv_iload hx hb dX3_smallestRemoval_65 (lv_at hl 0 rfl) ?_
          refine lv_istore (lv' := [(4, .int w9), (6, .int w9), (0, .ref (adr 1)), (1, .int x1), (2, .int x2), (3, .int x3), (5, .int x5)]) hx hb dX3_smallestRemoval_67 hl (by decide) rfl (fun ls hl => ?_)
          refine lv_iinc (v := (x5 + (1 : Int32))) (lv' := [(5, .int (x5 + (1 : Int32))), (4, .int w9), (6, .int w9), (0, .ref (adr 1)), (1, .int x1), (2, .int x2), (3, .int x3)]) hx hb dX3_smallestRemoval_69 hl (k := 6) rfl rfl (by decide) rfl (fun ls hl => ?_)
          refine lv_goto (tgt := 15) hx hb dX3_smallestRemoval_72 (by decide) ?_
          exact ih x1 x2 x3 w9 (x5 + (1 : Int32)) τ8 hf _ _ _ hH (lv_sub hl [3, 4, 5, 6, 1, 0] rfl)
        · have hf := fw_neg hc hf
          refine lv_iload hx hb dX3_smallestRemoval_55 (lv_at hl 0 rfl) ?_
          refine lv_iload hx hb dX3_smallestRemoval_57 (lv_at hl 5 rfl) ?_
          obtain ⟨w12, τ11, g10, hf⟩ := fw_b2s hf
          refine fw_ci hH (fw_rS (As := [.int w9, .int x4]) (rest := []) X hH (kX3_isSmallerSet  g10 _) qX3_isSmallerSet tw_2_216 ⟨Nat.le_of_ble_eq_true rfl, Nat.le_of_ble_eq_true rfl⟩ rfl rfl rfl hl.1 rfl (Nat.le_of_ble_eq_true rfl) dX3_smallestRemoval_59) (fun H locs hH => ?_)
          refine lv_if_eq (tgt := 69) hx hb dX3_smallestRemoval_62 (by decide) (fun hc => ?_) (fun hc => ?_)
          · have hf := fw_pos hc hf
            refine lv_iinc (v := (x5 + (1 : Int32))) (lv' := [(5, .int (x5 + (1 : Int32))), (6, .int w9), (0, .ref (adr 1)), (1, .int x1), (2, .int x2), (3, .int x3), (4, .int x4)]) hx hb dX3_smallestRemoval_69 hl (k := 6) rfl rfl (by decide) rfl (fun ls hl => ?_)
            refine lv_goto (tgt := 15) hx hb dX3_smallestRemoval_72 (by decide) ?_
            exact ih x1 x2 x3 x4 (x5 + (1 : Int32)) τ11 hf _ _ _ hH (lv_sub hl [2, 3, 4, 5, 6, 0] rfl)
          · have hf := fw_neg hc hf
            refine lv_iload hx hb dX3_smallestRemoval_65 (lv_at hl 0 rfl) ?_
            refine lv_istore (lv' := [(4, .int w9), (6, .int w9), (0, .ref (adr 1)), (1, .int x1), (2, .int x2), (3, .int x3), (5, .int x5)]) hx hb dX3_smallestRemoval_67 hl (by decide) rfl (fun ls hl => ?_)
            refine lv_iinc (v := (x5 + (1 : Int32))) (lv' := [(5, .int (x5 + (1 : Int32))), (4, .int w9), (6, .int w9), (0, .ref (adr 1)), (1, .int x1), (2, .int x2), (3, .int x3)]) hx hb dX3_smallestRemoval_69 hl (k := 6) rfl rfl (by decide) rfl (fun ls hl => ?_)
            refine lv_goto (tgt := 15) hx hb dX3_smallestRemoval_72 (by decide) ?_
            exact ih x1 x2 x3 w9 (x5 + (1 : Int32)) τ11 hf _ _ _ hH (lv_sub hl [3, 4, 5, 6, 1, 0] rfl)
def pX3_smallestRemoval (x1 : Int32) (x2 : Int32) (σ : fw_T) : Option (Int32 × fw_T) :=
  fw_b2 (pX3_joinedBs x1 x2 σ) fun w3 τ2 =>
  pX3_smallestRemoval_15 400 x1 x2 w3 (-10001 : Int32) (0 : Int32) τ2
set_option maxRecDepth 100000 in
set_option maxHeartbeats 4000000 in
theorem kX3_smallestRemoval {x1 : Int32} {x2 : Int32} {r : Int32} {σ σ' : fw_T} (hf : pX3_smallestRemoval x1 x2 σ = some (r, σ')) : fw_Ci l yX3_smallestRemoval (Cond.code yX3_smallestRemoval cX3_smallestRemoval 7 (some .int) :: lwT) rmX3_smallestRemoval [.ref (adr 1), .int x1, .int x2] D 96 adr (fw_C cI cO adr) (fcT cI cO) nwC σ r σ' := by
  refine fw_start (Qc := (fun A => va_Qi (fun r' (_ : Unit) => r' = r) (fun _ t => va_P D vwCl (fw_ws 96 adr (fw_C cI cO adr σ')) t.heap) A)) (by decide) (by simp [lg_sl, Value.category]) rfl ?_
  intro p e s m below meth c A X hH ls hl
  have hx := X.1.1
  have hb := X.1.2.1
  have hl : lv_has ls 7 [(0, .ref (adr 1)), (1, .int x1), (2, .int x2)] := hl
  unfold pX3_smallestRemoval at hf
  refine lv_aload_n hx hb dX3_smallestRemoval_0 rfl (lv_at hl 0 rfl) ?_
  refine lv_iload_n hx hb dX3_smallestRemoval_1 rfl (lv_at hl 1 rfl) ?_
  refine lv_iload_n hx hb dX3_smallestRemoval_2 rfl (lv_at hl 2 rfl) ?_
  obtain ⟨w3, τ2, g1, hf⟩ := fw_b2s hf
  refine fw_ci hH (fw_rV (As := [.int x1, .int x2]) (rest := []) (id := 1) X hH (kX3_joinedBs  g1 _) qX3_joinedBs tw_2_171 ⟨Nat.le_of_ble_eq_true rfl, Nat.le_of_ble_eq_true rfl⟩ rfl rfl (by decide) (fc_1 (by decide)) rfl rfl hl.1 rfl (Nat.le_of_ble_eq_true rfl) dX3_smallestRemoval_3) (fun H locs hH => ?_)
  refine lv_istore_n (lv' := [(3, .int w3), (0, .ref (adr 1)), (1, .int x1), (2, .int x2)]) hx hb dX3_smallestRemoval_6 rfl hl (by decide) rfl (fun ls hl => ?_)
  refine lv_sipush (v := (-10001 : Int32)) hx hb dX3_smallestRemoval_7 (by decide) ?_
  refine lv_istore (lv' := [(4, .int (-10001 : Int32)), (3, .int w3), (0, .ref (adr 1)), (1, .int x1), (2, .int x2)]) hx hb dX3_smallestRemoval_10 hl (by decide) rfl (fun ls hl => ?_)
  refine lv_iconst (v := (0 : Int32)) hx hb dX3_smallestRemoval_12 (by decide) ?_
  refine lv_istore (lv' := [(5, .int (0 : Int32)), (4, .int (-10001 : Int32)), (3, .int w3), (0, .ref (adr 1)), (1, .int x1), (2, .int x2)]) hx hb dX3_smallestRemoval_13 hl (by decide) rfl (fun ls hl => ?_)
  exact wX3_smallestRemoval_15 X 400 x1 x2 w3 (-10001 : Int32) (0 : Int32) τ2 hf _ _ _ hH (lv_sub hl [3, 4, 5, 2, 1, 0] rfl)
abbrev rmX7_filtersToRemove : Room := { frames := 5, cells := 0, slots := 0, locals := 113 }
theorem qX7_filtersToRemove : fw_QV RX7 yX7_filtersToRemove cX7_filtersToRemove 3 (some .int) 2 := ⟨⟨tw_2_209, tw_2_210, tw_1_1, tw_2_211⟩, by decide +kernel⟩
def pX7_filtersToRemove (x1 : Int32) (x2 : Int32) (σ : fw_T) : Option (Int32 × fw_T) :=
  fw_b2 (pX7_isPair x1 x2 σ) fun w3 τ2 =>
  if w3 = 0 then
    fw_b2 (pX7_report (-10002 : Int32) τ2) fun w6 τ5 =>
    some (w6, τ5)
  else
    fw_b2 (pX3_smallestRemoval x1 x2 τ2) fun w9 τ8 =>
    fw_b2 (pX7_report w9 τ8) fun w12 τ11 =>
    some (w12, τ11)
set_option maxRecDepth 100000 in
set_option maxHeartbeats 4000000 in
theorem kX7_filtersToRemove {x1 : Int32} {x2 : Int32} {r : Int32} {σ σ' : fw_T} (hf : pX7_filtersToRemove x1 x2 σ = some (r, σ')) : fw_Ci l yX7_filtersToRemove (Cond.code yX7_filtersToRemove cX7_filtersToRemove 3 (some .int) :: lwT) rmX7_filtersToRemove [.ref (adr 0), .int x1, .int x2] D 96 adr (fw_C cI cO adr) (fcT cI cO) nwC σ r σ' := by
  refine fw_start (Qc := (fun A => va_Qi (fun r' (_ : Unit) => r' = r) (fun _ t => va_P D vwCl (fw_ws 96 adr (fw_C cI cO adr σ')) t.heap) A)) (by decide) (by simp [lg_sl, Value.category]) rfl ?_
  intro p e s m below meth c A X hH ls hl
  have hx := X.1.1
  have hb := X.1.2.1
  have hl : lv_has ls 3 [(0, .ref (adr 0)), (1, .int x1), (2, .int x2)] := hl
  unfold pX7_filtersToRemove at hf
  refine lv_aload_n hx hb dX7_filtersToRemove_0 rfl (lv_at hl 0 rfl) ?_
  refine lv_iload_n hx hb dX7_filtersToRemove_1 rfl (lv_at hl 1 rfl) ?_
  refine lv_iload_n hx hb dX7_filtersToRemove_2 rfl (lv_at hl 2 rfl) ?_
  obtain ⟨w3, τ2, g1, hf⟩ := fw_b2s hf
  refine fw_ci hH (fw_rS (As := [.int x1, .int x2]) (rest := [.ref (adr 0)]) X hH (kX7_isPair  g1 _) qX7_isPair tw_2_166 ⟨Nat.le_of_ble_eq_true rfl, Nat.le_of_ble_eq_true rfl⟩ rfl rfl rfl hl.1 rfl (Nat.le_of_ble_eq_true rfl) dX7_filtersToRemove_3) (fun H locs hH => ?_)
  refine lv_if_eq (tgt := 21) hx hb dX7_filtersToRemove_6 (by decide) (fun hc => ?_) (fun hc => ?_)
  · have hf := fw_pos hc hf
    refine lv_sipush (v := (-10002 : Int32)) hx hb dX7_filtersToRemove_21 (by decide) ?_
    obtain ⟨w6, τ5, g4, hf⟩ := fw_b2s hf
    refine fw_ci hH (fw_rV (As := [.int (-10002 : Int32)]) (rest := []) (id := 0) X hH (kX7_report  g4 _) qX7_report tw_2_10 ⟨Nat.le_of_ble_eq_true rfl, Nat.le_of_ble_eq_true rfl⟩ rfl rfl (by decide) (fc_0 (by decide)) rfl rfl hl.1 rfl (Nat.le_of_ble_eq_true rfl) dX7_filtersToRemove_24) (fun H locs hH => ?_)
    obtain ⟨rfl, rfl⟩ := fw_s2 hf
    exact fw_reti X hH dX7_filtersToRemove_27
  · have hf := fw_neg hc hf
    refine lv_aload_n hx hb dX7_filtersToRemove_9 rfl (lv_at hl 0 rfl) ?_
    refine fw_get (id := 0) (k := 0) (v := .ref (adr 1)) X hH (by decide) (fc_0 (by decide)) rfl inX7 (by decide) rfl tw_1_177 dX7_filtersToRemove_10 ?_
    refine lv_iload_n hx hb dX7_filtersToRemove_13 rfl (lv_at hl 1 rfl) ?_
    refine lv_iload_n hx hb dX7_filtersToRemove_14 rfl (lv_at hl 2 rfl) ?_
    obtain ⟨w9, τ8, g7, hf⟩ := fw_b2s hf
    refine fw_ci hH (fw_rV (As := [.int x1, .int x2]) (rest := [.ref (adr 0)]) (id := 1) X hH (kX3_smallestRemoval  g7 _) qX3_smallestRemoval tw_2_212 ⟨Nat.le_of_ble_eq_true rfl, Nat.le_of_ble_eq_true rfl⟩ rfl rfl (by decide) (fc_1 (by decide)) rfl rfl hl.1 rfl (Nat.le_of_ble_eq_true rfl) dX7_filtersToRemove_15) (fun H locs hH => ?_)
    refine lv_goto (tgt := 24) hx hb dX7_filtersToRemove_18 (by decide) ?_
    obtain ⟨w12, τ11, g10, hf⟩ := fw_b2s hf
    refine fw_ci hH (fw_rV (As := [.int w9]) (rest := []) (id := 0) X hH (kX7_report  g10 _) qX7_report tw_2_10 ⟨Nat.le_of_ble_eq_true rfl, Nat.le_of_ble_eq_true rfl⟩ rfl rfl (by decide) (fc_0 (by decide)) rfl rfl hl.1 rfl (Nat.le_of_ble_eq_true rfl) dX7_filtersToRemove_24) (fun H locs hH => ?_)
    obtain ⟨rfl, rfl⟩ := fw_s2 hf
    exact fw_reti X hH dX7_filtersToRemove_27
abbrev rmX3_bsAcceptedByOthers : Room := { frames := 4, cells := 0, slots := 0, locals := 87 }
theorem qX3_bsAcceptedByOthers : fw_QV RX3 yX3_bsAcceptedByOthers cX3_bsAcceptedByOthers 7 (some .int) 3 := ⟨⟨tw_2_236, tv_X3_bsAcceptedByOthers, tw_1_2, tw_2_237⟩, by decide +kernel⟩
def pX3_bsAcceptedByOthers_14 : Nat → Int32 → Int32 → Int32 → Int32 → Int32 → Int32 → fw_T → Option (Int32 × fw_T)
  | 0, _, _, _, _, _, _, _ => none
  | n + 1, x1, x2, x3, x4, x5, x6, σ =>
    if (10 : Int32) ≤ x6 then
      some (x5, σ)
    else
      fw_b2 (pX7_isIn x4 x6 σ) fun w6 τ5 =>
      if w6 = 0 then
        pX3_bsAcceptedByOthers_14 n x1 x2 x3 x4 x5 (x6 + (1 : Int32)) τ5
      else
        fw_b2 (pX0_rejecters 17 x1 x6 x2 τ5) fun w9 τ8 =>
        if (w9 &&& (((1 : Int32) <<< (x3 &&& 31)) ^^^ (-1 : Int32))) = 0 then
          pX3_bsAcceptedByOthers_14 n x1 x2 x3 x4 (x5 ||| ((1 : Int32) <<< (x6 &&& 31))) (x6 + (1 : Int32)) τ8
        else
          pX3_bsAcceptedByOthers_14 n x1 x2 x3 x4 x5 (x6 + (1 : Int32)) τ8
set_option maxRecDepth 100000 in
set_option maxHeartbeats 4000000 in
theorem wX3_bsAcceptedByOthers_14 {args : Array Value} {r : Int32} {σ' : fw_T} (X : fcX p m c cX3_bsAcceptedByOthers 7 s args RX3 meth (some .int) D cI cO)  : ∀ (n : Nat), ∀ (x1 : Int32), ∀ (x2 : Int32), ∀ (x3 : Int32), ∀ (x4 : Int32), ∀ (x5 : Int32), ∀ (x6 : Int32), ∀ (σ : fw_T), pX3_bsAcceptedByOthers_14 n x1 x2 x3 x4 x5 x6 σ = some (r, σ') → ∀ (H : Heap) (locs : List Loc) (ls : Array Slot), fcH D cI cO adr A s H locs σ → lv_has ls 7 [(0, .ref (adr 1)), (1, .int x1), (2, .int x2), (3, .int x3), (4, .int x4), (5, .int x5), (6, .int x6)] → W p l e rmX3_bsAcceptedByOthers s m args below meth c H locs 0 0 (fw_Qi D 96 adr (fw_C cI cO adr) A below args s r σ') (F0 m 14 ls []) := by
  have hx := X.1.1
  have hb := X.1.2.1
  intro n
  induction n with
  | zero =>
    intro x1 x2 x3 x4 x5 x6 σ hf
    exact absurd hf (by simp [pX3_bsAcceptedByOthers_14])
  | succ n ih =>
    intro x1 x2 x3 x4 x5 x6 σ hf H locs ls hH hl
    rw [pX3_bsAcceptedByOthers_14] at hf
    refine lv_iload hx hb dX3_bsAcceptedByOthers_14 (lv_at hl 6 rfl) ?_
    refine lv_bipush (v := (10 : Int32)) hx hb dX3_bsAcceptedByOthers_16 (by decide) ?_
    refine lv_icmp_ge (tgt := 69) hx hb dX3_bsAcceptedByOthers_18 (by decide) (fun hc => ?_) (fun hc => ?_)
    · have hf := fw_pos hc hf
      refine lv_iload hx hb dX3_bsAcceptedByOthers_69 (lv_at hl 5 rfl) ?_
      obtain ⟨rfl, rfl⟩ := fw_s2 hf
      exact fw_reti X hH dX3_bsAcceptedByOthers_71
    · have hf := fw_neg hc hf
      refine lv_iload hx hb dX3_bsAcceptedByOthers_21 (lv_at hl 4 rfl) ?_
      refine lv_iload hx hb dX3_bsAcceptedByOthers_23 (lv_at hl 6 rfl) ?_
      obtain ⟨w6, τ5, g4, hf⟩ := fw_b2s hf
      refine fw_ci hH (fw_rN (As := [.int x4, .int x6]) (rest := []) X hH (kX7_isIn  g4 _) qX7_isIn nw_2_185 ⟨Nat.le_of_ble_eq_true rfl, Nat.le_of_ble_eq_true rfl⟩ rfl rfl rfl hl.1 rfl (Nat.le_of_ble_eq_true rfl) dX3_bsAcceptedByOthers_25) (fun H locs hH => ?_)
      refine lv_if_eq (tgt := 63) hx hb dX3_bsAcceptedByOthers_28 (by decide) (fun hc => ?_) (fun hc => ?_)
      · have hf := fw_pos hc hf
        refine lv_iinc (v := (x6 + (1 : Int32))) (lv' := [(6, .int (x6 + (1 : Int32))), (0, .ref (adr 1)), (1, .int x1), (2, .int x2), (3, .int x3), (4, .int x4), (5, .int x5)]) hx hb dX3_bsAcceptedByOthers_63 hl (k := 6) rfl rfl (by decide) rfl (fun ls hl => ?_)
        refine lv_goto (tgt := 14) hx hb dX3_bsAcceptedByOthers_66 (by decide) ?_
        exact ih x1 x2 x3 x4 x5 (x6 + (1 : Int32)) τ5 hf _ _ _ hH (lv_sub hl [1, 2, 3, 4, 5, 6, 0] rfl)
      · have hf := fw_neg hc hf
        refine lv_aload_n hx hb dX3_bsAcceptedByOthers_31 rfl (lv_at hl 0 rfl) ?_
        refine fw_get (id := 1) (k := 0) (v := .ref (adr 12)) X hH (by decide) (fc_1 (by decide)) rfl inX3 (by decide) rfl tw_1_105 dX3_bsAcceptedByOthers_32 ?_
        refine fw_getN (id := 12) (k := 2) (v := .ref (adr 17)) X hH (by decide) (fc_12 (by decide)) rfl inX5 (by decide) rfl nw_1_91 dX3_bsAcceptedByOthers_35 ?_
        refine lv_iload_n hx hb dX3_bsAcceptedByOthers_38 rfl (lv_at hl 1 rfl) ?_
        refine lv_iload hx hb dX3_bsAcceptedByOthers_39 (lv_at hl 6 rfl) ?_
        refine lv_iload_n hx hb dX3_bsAcceptedByOthers_41 rfl (lv_at hl 2 rfl) ?_
        obtain ⟨w9, τ8, g7, hf⟩ := fw_b2s hf
        refine fw_ci hH (fw_rV (As := [.int x1, .int x6, .int x2]) (rest := []) (id := 17) X hH (kX0_rejecters (by unfold fw_FL; decide) g7 _) qX0_rejecters tw_2_149 ⟨Nat.le_of_ble_eq_true rfl, Nat.le_of_ble_eq_true rfl⟩ rfl rfl (by decide) (fc_15 (by decide)) rfl rfl hl.1 rfl (Nat.le_of_ble_eq_true rfl) dX3_bsAcceptedByOthers_42) (fun H locs hH => ?_)
        refine lv_iconst (v := (1 : Int32)) hx hb dX3_bsAcceptedByOthers_45 (by decide) ?_
        refine lv_iload_n hx hb dX3_bsAcceptedByOthers_46 rfl (lv_at hl 3 rfl) ?_
        refine lv_ishl hx hb dX3_bsAcceptedByOthers_47 ?_
        refine lv_iconst (v := (-1 : Int32)) hx hb dX3_bsAcceptedByOthers_48 (by decide) ?_
        refine lv_ixor hx hb dX3_bsAcceptedByOthers_49 ?_
        refine lv_iand hx hb dX3_bsAcceptedByOthers_50 ?_
        refine lv_if_ne (tgt := 63) hx hb dX3_bsAcceptedByOthers_51 (by decide) (fun hc => ?_) (fun hc => ?_)
        · have hf := fw_neg hc hf
          refine lv_iinc (v := (x6 + (1 : Int32))) (lv' := [(6, .int (x6 + (1 : Int32))), (0, .ref (adr 1)), (1, .int x1), (2, .int x2), (3, .int x3), (4, .int x4), (5, .int x5)]) hx hb dX3_bsAcceptedByOthers_63 hl (k := 6) rfl rfl (by decide) rfl (fun ls hl => ?_)
          refine lv_goto (tgt := 14) hx hb dX3_bsAcceptedByOthers_66 (by decide) ?_
          exact ih x1 x2 x3 x4 x5 (x6 + (1 : Int32)) τ8 hf _ _ _ hH (lv_sub hl [1, 2, 3, 4, 5, 6, 0] rfl)
        · have hf := fw_pos hc hf
          refine lv_iload hx hb dX3_bsAcceptedByOthers_54 (lv_at hl 5 rfl) ?_
          refine lv_iconst (v := (1 : Int32)) hx hb dX3_bsAcceptedByOthers_56 (by decide) ?_
          refine lv_iload hx hb dX3_bsAcceptedByOthers_57 (lv_at hl 6 rfl) ?_
          refine lv_ishl hx hb dX3_bsAcceptedByOthers_59 ?_
          refine lv_ior hx hb dX3_bsAcceptedByOthers_60 ?_
          refine lv_istore (lv' := [(5, .int (x5 ||| ((1 : Int32) <<< (x6 &&& 31)))), (0, .ref (adr 1)), (1, .int x1), (2, .int x2), (3, .int x3), (4, .int x4), (6, .int x6)]) hx hb dX3_bsAcceptedByOthers_61 hl (by decide) rfl (fun ls hl => ?_)
          refine lv_iinc (v := (x6 + (1 : Int32))) (lv' := [(6, .int (x6 + (1 : Int32))), (5, .int (x5 ||| ((1 : Int32) <<< (x6 &&& 31)))), (0, .ref (adr 1)), (1, .int x1), (2, .int x2), (3, .int x3), (4, .int x4)]) hx hb dX3_bsAcceptedByOthers_63 hl (k := 6) rfl rfl (by decide) rfl (fun ls hl => ?_)
          refine lv_goto (tgt := 14) hx hb dX3_bsAcceptedByOthers_66 (by decide) ?_
          exact ih x1 x2 x3 x4 (x5 ||| ((1 : Int32) <<< (x6 &&& 31))) (x6 + (1 : Int32)) τ8 hf _ _ _ hH (lv_sub hl [2, 3, 4, 5, 6, 1, 0] rfl)
def pX3_bsAcceptedByOthers (x1 : Int32) (x2 : Int32) (x3 : Int32) (σ : fw_T) : Option (Int32 × fw_T) :=
  fw_b2 (pX3_joinedBs x1 x2 σ) fun w3 τ2 =>
  pX3_bsAcceptedByOthers_14 400 x1 x2 x3 w3 (0 : Int32) (0 : Int32) τ2
set_option maxRecDepth 100000 in
set_option maxHeartbeats 4000000 in
theorem kX3_bsAcceptedByOthers {x1 : Int32} {x2 : Int32} {x3 : Int32} {r : Int32} {σ σ' : fw_T} (hf : pX3_bsAcceptedByOthers x1 x2 x3 σ = some (r, σ')) : fw_Ci l yX3_bsAcceptedByOthers (Cond.code yX3_bsAcceptedByOthers cX3_bsAcceptedByOthers 7 (some .int) :: lwT) rmX3_bsAcceptedByOthers [.ref (adr 1), .int x1, .int x2, .int x3] D 96 adr (fw_C cI cO adr) (fcT cI cO) nwC σ r σ' := by
  refine fw_start (Qc := (fun A => va_Qi (fun r' (_ : Unit) => r' = r) (fun _ t => va_P D vwCl (fw_ws 96 adr (fw_C cI cO adr σ')) t.heap) A)) (by decide) (by simp [lg_sl, Value.category]) rfl ?_
  intro p e s m below meth c A X hH ls hl
  have hx := X.1.1
  have hb := X.1.2.1
  have hl : lv_has ls 7 [(0, .ref (adr 1)), (1, .int x1), (2, .int x2), (3, .int x3)] := hl
  unfold pX3_bsAcceptedByOthers at hf
  refine lv_aload_n hx hb dX3_bsAcceptedByOthers_0 rfl (lv_at hl 0 rfl) ?_
  refine lv_iload_n hx hb dX3_bsAcceptedByOthers_1 rfl (lv_at hl 1 rfl) ?_
  refine lv_iload_n hx hb dX3_bsAcceptedByOthers_2 rfl (lv_at hl 2 rfl) ?_
  obtain ⟨w3, τ2, g1, hf⟩ := fw_b2s hf
  refine fw_ci hH (fw_rV (As := [.int x1, .int x2]) (rest := []) (id := 1) X hH (kX3_joinedBs  g1 _) qX3_joinedBs tw_2_171 ⟨Nat.le_of_ble_eq_true rfl, Nat.le_of_ble_eq_true rfl⟩ rfl rfl (by decide) (fc_1 (by decide)) rfl rfl hl.1 rfl (Nat.le_of_ble_eq_true rfl) dX3_bsAcceptedByOthers_3) (fun H locs hH => ?_)
  refine lv_istore (lv' := [(4, .int w3), (0, .ref (adr 1)), (1, .int x1), (2, .int x2), (3, .int x3)]) hx hb dX3_bsAcceptedByOthers_6 hl (by decide) rfl (fun ls hl => ?_)
  refine lv_iconst (v := (0 : Int32)) hx hb dX3_bsAcceptedByOthers_8 (by decide) ?_
  refine lv_istore (lv' := [(5, .int (0 : Int32)), (4, .int w3), (0, .ref (adr 1)), (1, .int x1), (2, .int x2), (3, .int x3)]) hx hb dX3_bsAcceptedByOthers_9 hl (by decide) rfl (fun ls hl => ?_)
  refine lv_iconst (v := (0 : Int32)) hx hb dX3_bsAcceptedByOthers_11 (by decide) ?_
  refine lv_istore (lv' := [(6, .int (0 : Int32)), (5, .int (0 : Int32)), (4, .int w3), (0, .ref (adr 1)), (1, .int x1), (2, .int x2), (3, .int x3)]) hx hb dX3_bsAcceptedByOthers_12 hl (by decide) rfl (fun ls hl => ?_)
  exact wX3_bsAcceptedByOthers_14 X 400 x1 x2 x3 w3 (0 : Int32) (0 : Int32) τ2 hf _ _ _ hH (lv_sub hl [3, 4, 5, 6, 2, 1, 0] rfl)
abbrev rmX0_mayHaveConstant : Room := { frames := 2, cells := 0, slots := 0, locals := 41 }
theorem qX0_mayHaveConstant : fw_QV RX0 yX0_mayHaveConstant cX0_mayHaveConstant 3 (some .boolean) 2 := ⟨⟨tw_3_3, tw_3_4, tw_1_6, tw_3_5⟩, by decide +kernel⟩
def pX0_mayHaveConstant (h : Nat) (x1 : Int32) (x2 : Int32) (σ : fw_T) : Option (Int32 × fw_T) :=
  fw_b2 (pX0_holds h x1 σ) fun w3 τ2 =>
  if w3 = 0 then
    fw_rz (0 : Int32) τ2
  else
    (fw_rd τ2 (h + 1) 6 x1).bind fun w4 =>
    fw_b2 (pX0_isConstant w4 x2 τ2) fun w8 τ7 =>
    if w8 = 0 then
      fw_rz (0 : Int32) τ7
    else
      fw_rz (1 : Int32) τ7
set_option maxRecDepth 100000 in
set_option maxHeartbeats 4000000 in
theorem kX0_mayHaveConstant {h : Nat} (hk : fw_FL h) {x1 : Int32} {x2 : Int32} {r : Int32} {σ σ' : fw_T} (hf : pX0_mayHaveConstant h x1 x2 σ = some (r, σ')) : fw_Ci l yX0_mayHaveConstant (Cond.code yX0_mayHaveConstant cX0_mayHaveConstant 3 (some .boolean) :: lwT) rmX0_mayHaveConstant [.ref (adr h), .int x1, .int x2] D 96 adr (fw_C cI cO adr) (fcT cI cO) nwC σ r σ' := by
  refine fw_start (Qc := (fun A => va_Qi (fun r' (_ : Unit) => r' = r) (fun _ t => va_P D vwCl (fw_ws 96 adr (fw_C cI cO adr σ')) t.heap) A)) (by decide) (by simp [lg_sl, Value.category]) rfl ?_
  intro p e s m below meth c A X hH ls hl
  have hx := X.1.1
  have hb := X.1.2.1
  have hl : lv_has ls 3 [(0, .ref (adr h)), (1, .int x1), (2, .int x2)] := hl
  unfold pX0_mayHaveConstant at hf
  refine lv_aload_n hx hb dX0_mayHaveConstant_0 rfl (lv_at hl 0 rfl) ?_
  refine lv_iload_n hx hb dX0_mayHaveConstant_1 rfl (lv_at hl 1 rfl) ?_
  obtain ⟨w3, τ2, g1, hf⟩ := fw_b2s hf
  refine fw_ci hH (fw_rV (As := [.int x1]) (rest := []) (id := h) X hH (kX0_holds hk g1 _) qX0_holds tw_2_65 ⟨Nat.le_of_ble_eq_true rfl, Nat.le_of_ble_eq_true rfl⟩ rfl rfl hk.2.1 (fc_15 hk.1) rfl rfl hl.1 rfl (Nat.le_of_ble_eq_true rfl) dX0_mayHaveConstant_2) (fun H locs hH => ?_)
  refine lv_if_eq (tgt := 25) hx hb dX0_mayHaveConstant_5 (by decide) (fun hc => ?_) (fun hc => ?_)
  · have hf := fw_pos hc hf
    refine lv_iconst (v := (0 : Int32)) hx hb dX0_mayHaveConstant_25 (by decide) ?_
    obtain ⟨rfl, rfl, hz⟩ := fw_rzs hf
    exact fw_retz X hH hz dX0_mayHaveConstant_26
  · have hf := fw_neg hc hf
    refine lv_aload_n hx hb dX0_mayHaveConstant_8 rfl (lv_at hl 0 rfl) ?_
    refine fw_get (id := h) (k := 0) (v := .ref (adr (h + 1))) X hH hk.2.1 (fc_15 hk.1) rfl inX0 (by decide) rfl tw_1_62 dX0_mayHaveConstant_9 ?_
    refine lv_iload_n hx hb dX0_mayHaveConstant_12 rfl (lv_at hl 1 rfl) ?_
    obtain ⟨w4, g5, hf⟩ := fw_bd hf
    refine fw_iald (id := (h + 1)) (n := 6) X hH hk.2.2.1.2 (fc_16 hk.2.2.1.1) rfl g5 dX0_mayHaveConstant_13 ?_
    refine lv_iload_n hx hb dX0_mayHaveConstant_14 rfl (lv_at hl 2 rfl) ?_
    obtain ⟨w8, τ7, g6, hf⟩ := fw_b2s hf
    refine fw_ci hH (fw_rS (As := [.int w4, .int x2]) (rest := []) X hH (kX0_isConstant  g6 _) qX0_isConstant tw_2_53 ⟨Nat.le_of_ble_eq_true rfl, Nat.le_of_ble_eq_true rfl⟩ rfl rfl rfl hl.1 rfl (Nat.le_of_ble_eq_true rfl) dX0_mayHaveConstant_15) (fun H locs hH => ?_)
    refine lv_if_eq (tgt := 25) hx hb dX0_mayHaveConstant_18 (by decide) (fun hc => ?_) (fun hc => ?_)
    · have hf := fw_pos hc hf
      refine lv_iconst (v := (0 : Int32)) hx hb dX0_mayHaveConstant_25 (by decide) ?_
      obtain ⟨rfl, rfl, hz⟩ := fw_rzs hf
      exact fw_retz X hH hz dX0_mayHaveConstant_26
    · have hf := fw_neg hc hf
      refine lv_iconst (v := (1 : Int32)) hx hb dX0_mayHaveConstant_21 (by decide) ?_
      refine lv_goto (tgt := 26) hx hb dX0_mayHaveConstant_22 (by decide) ?_
      obtain ⟨rfl, rfl, hz⟩ := fw_rzs hf
      exact fw_retz X hH hz dX0_mayHaveConstant_26
abbrev rmX0_acceptsWith : Room := { frames := 1, cells := 0, slots := 0, locals := 24 }
theorem qX0_acceptsWith : fw_QV RX0 yX0_acceptsWith cX0_acceptsWith 6 (some .boolean) 5 := ⟨⟨tw_3_7, tw_3_8, tw_1_6, tw_3_9⟩, by decide +kernel⟩
def pX0_acceptsWith (h : Nat) (x1 : Int32) (x2 : Int32) (x3 : Int32) (x4 : Int32) (x5 : Int32) (σ : fw_T) : Option (Int32 × fw_T) :=
  fw_b2 (pX0_holds h x2 σ) fun w3 τ2 =>
  if w3 = 0 then
    fw_rz (0 : Int32) τ2
  else
    (fw_rd τ2 (h + 1) 6 x2).bind fun w4 =>
    (fw_rd τ2 (h + 2) 6 x2).bind fun w6 =>
    fw_b2 (pX0_columnValue w4 w6 x3 x4 x5 τ2) fun w10 τ9 =>
    (fw_rd τ9 (h + 3) 6 x2).bind fun w11 =>
    fw_b2 (pX0_compare w10 w11 x1 τ9) fun w15 τ14 =>
    if w15 = 0 then
      fw_rz (0 : Int32) τ14
    else
      fw_rz (1 : Int32) τ14
set_option maxRecDepth 100000 in
set_option maxHeartbeats 4000000 in
theorem kX0_acceptsWith {h : Nat} (hk : fw_FL h) {x1 : Int32} {x2 : Int32} {x3 : Int32} {x4 : Int32} {x5 : Int32} {r : Int32} {σ σ' : fw_T} (hf : pX0_acceptsWith h x1 x2 x3 x4 x5 σ = some (r, σ')) : fw_Ci l yX0_acceptsWith (Cond.code yX0_acceptsWith cX0_acceptsWith 6 (some .boolean) :: lwT) rmX0_acceptsWith [.ref (adr h), .int x1, .int x2, .int x3, .int x4, .int x5] D 96 adr (fw_C cI cO adr) (fcT cI cO) nwC σ r σ' := by
  refine fw_start (Qc := (fun A => va_Qi (fun r' (_ : Unit) => r' = r) (fun _ t => va_P D vwCl (fw_ws 96 adr (fw_C cI cO adr σ')) t.heap) A)) (by decide) (by simp [lg_sl, Value.category]) rfl ?_
  intro p e s m below meth c A X hH ls hl
  have hx := X.1.1
  have hb := X.1.2.1
  have hl : lv_has ls 6 [(0, .ref (adr h)), (1, .int x1), (2, .int x2), (3, .int x3), (4, .int x4), (5, .int x5)] := hl
  unfold pX0_acceptsWith at hf
  refine lv_aload_n hx hb dX0_acceptsWith_0 rfl (lv_at hl 0 rfl) ?_
  refine lv_iload_n hx hb dX0_acceptsWith_1 rfl (lv_at hl 2 rfl) ?_
  obtain ⟨w3, τ2, g1, hf⟩ := fw_b2s hf
  refine fw_ci hH (fw_rV (As := [.int x2]) (rest := []) (id := h) X hH (kX0_holds hk g1 _) qX0_holds tw_2_65 ⟨Nat.le_of_ble_eq_true rfl, Nat.le_of_ble_eq_true rfl⟩ rfl rfl hk.2.1 (fc_15 hk.1) rfl rfl hl.1 rfl (Nat.le_of_ble_eq_true rfl) dX0_acceptsWith_2) (fun H locs hH => ?_)
  refine lv_if_eq (tgt := 45) hx hb dX0_acceptsWith_5 (by decide) (fun hc => ?_) (fun hc => ?_)
  · have hf := fw_pos hc hf
    refine lv_iconst (v := (0 : Int32)) hx hb dX0_acceptsWith_45 (by decide) ?_
    obtain ⟨rfl, rfl, hz⟩ := fw_rzs hf
    exact fw_retz X hH hz dX0_acceptsWith_46
  · have hf := fw_neg hc hf
    refine lv_aload_n hx hb dX0_acceptsWith_8 rfl (lv_at hl 0 rfl) ?_
    refine fw_get (id := h) (k := 0) (v := .ref (adr (h + 1))) X hH hk.2.1 (fc_15 hk.1) rfl inX0 (by decide) rfl tw_1_62 dX0_acceptsWith_9 ?_
    refine lv_iload_n hx hb dX0_acceptsWith_12 rfl (lv_at hl 2 rfl) ?_
    obtain ⟨w4, g5, hf⟩ := fw_bd hf
    refine fw_iald (id := (h + 1)) (n := 6) X hH hk.2.2.1.2 (fc_16 hk.2.2.1.1) rfl g5 dX0_acceptsWith_13 ?_
    refine lv_aload_n hx hb dX0_acceptsWith_14 rfl (lv_at hl 0 rfl) ?_
    refine fw_get (id := h) (k := 1) (v := .ref (adr (h + 2))) X hH hk.2.1 (fc_15 hk.1) rfl inX0 (by decide) rfl tw_1_64 dX0_acceptsWith_15 ?_
    refine lv_iload_n hx hb dX0_acceptsWith_18 rfl (lv_at hl 2 rfl) ?_
    obtain ⟨w6, g7, hf⟩ := fw_bd hf
    refine fw_iald (id := (h + 2)) (n := 6) X hH hk.2.2.2.1.2 (fc_16 hk.2.2.2.1.1) rfl g7 dX0_acceptsWith_19 ?_
    refine lv_iload_n hx hb dX0_acceptsWith_20 rfl (lv_at hl 3 rfl) ?_
    refine lv_iload hx hb dX0_acceptsWith_21 (lv_at hl 4 rfl) ?_
    refine lv_iload hx hb dX0_acceptsWith_23 (lv_at hl 5 rfl) ?_
    obtain ⟨w10, τ9, g8, hf⟩ := fw_b2s hf
    refine fw_ci hH (fw_rS (As := [.int w4, .int w6, .int x3, .int x4, .int x5]) (rest := []) X hH (kX0_columnValue  g8 _) qX0_columnValue tw_2_119 ⟨Nat.le_of_ble_eq_true rfl, Nat.le_of_ble_eq_true rfl⟩ rfl rfl rfl hl.1 rfl (Nat.le_of_ble_eq_true rfl) dX0_acceptsWith_25) (fun H locs hH => ?_)
    refine lv_aload_n hx hb dX0_acceptsWith_28 rfl (lv_at hl 0 rfl) ?_
    refine fw_get (id := h) (k := 2) (v := .ref (adr (h + 3))) X hH hk.2.1 (fc_15 hk.1) rfl inX0 (by decide) rfl tw_1_66 dX0_acceptsWith_29 ?_
    refine lv_iload_n hx hb dX0_acceptsWith_32 rfl (lv_at hl 2 rfl) ?_
    obtain ⟨w11, g12, hf⟩ := fw_bd hf
    refine fw_iald (id := (h + 3)) (n := 6) X hH hk.2.2.2.2.1.2 (fc_16 hk.2.2.2.2.1.1) rfl g12 dX0_acceptsWith_33 ?_
    refine lv_iload_n hx hb dX0_acceptsWith_34 rfl (lv_at hl 1 rfl) ?_
    obtain ⟨w15, τ14, g13, hf⟩ := fw_b2s hf
    refine fw_ci hH (fw_rS (As := [.int w10, .int w11, .int x1]) (rest := []) X hH (kX0_compare  g13 _) qX0_compare tw_2_122 ⟨Nat.le_of_ble_eq_true rfl, Nat.le_of_ble_eq_true rfl⟩ rfl rfl rfl hl.1 rfl (Nat.le_of_ble_eq_true rfl) dX0_acceptsWith_35) (fun H locs hH => ?_)
    refine lv_if_eq (tgt := 45) hx hb dX0_acceptsWith_38 (by decide) (fun hc => ?_) (fun hc => ?_)
    · have hf := fw_pos hc hf
      refine lv_iconst (v := (0 : Int32)) hx hb dX0_acceptsWith_45 (by decide) ?_
      obtain ⟨rfl, rfl, hz⟩ := fw_rzs hf
      exact fw_retz X hH hz dX0_acceptsWith_46
    · have hf := fw_neg hc hf
      refine lv_iconst (v := (1 : Int32)) hx hb dX0_acceptsWith_41 (by decide) ?_
      refine lv_goto (tgt := 46) hx hb dX0_acceptsWith_42 (by decide) ?_
      obtain ⟨rfl, rfl, hz⟩ := fw_rzs hf
      exact fw_retz X hH hz dX0_acceptsWith_46
abbrev rmX3_isRepair : Room := { frames := 3, cells := 0, slots := 0, locals := 63 }
theorem qX3_isRepair : fw_QV RX3 yX3_isRepair cX3_isRepair 7 (some .boolean) 5 := ⟨⟨tw_3_0, tv_X3_isRepair, tw_1_2, tw_3_1⟩, by decide +kernel⟩
def pX3_isRepair_20 : Nat → Int32 → Int32 → Int32 → Int32 → Int32 → Int32 → fw_T → Option (Int32 × fw_T)
  | 0, _, _, _, _, _, _, _ => none
  | n + 1, x1, x2, x3, x4, x5, x6, σ =>
    if (10 : Int32) ≤ x6 then
      fw_rz (0 : Int32) σ
    else
      fw_b2 (pX7_isIn x3 x6 σ) fun w6 τ5 =>
      if w6 = 0 then
        pX3_isRepair_20 n x1 x2 x3 x4 x5 (x6 + (1 : Int32)) τ5
      else
        fw_b2 (pX0_acceptsWith 17 x1 x2 x4 x6 x5 τ5) fun w9 τ8 =>
        if w9 = 0 then
          pX3_isRepair_20 n x1 x2 x3 x4 x5 (x6 + (1 : Int32)) τ8
        else
          fw_rz (1 : Int32) τ8
set_option maxRecDepth 100000 in
set_option maxHeartbeats 4000000 in
theorem wX3_isRepair_20 {args : Array Value} {r : Int32} {σ' : fw_T} (X : fcX p m c cX3_isRepair 7 s args RX3 meth (some .boolean) D cI cO)  : ∀ (n : Nat), ∀ (x1 : Int32), ∀ (x2 : Int32), ∀ (x3 : Int32), ∀ (x4 : Int32), ∀ (x5 : Int32), ∀ (x6 : Int32), ∀ (σ : fw_T), pX3_isRepair_20 n x1 x2 x3 x4 x5 x6 σ = some (r, σ') → ∀ (H : Heap) (locs : List Loc) (ls : Array Slot), fcH D cI cO adr A s H locs σ → lv_has ls 7 [(0, .ref (adr 1)), (1, .int x1), (2, .int x2), (3, .int x3), (4, .int x4), (5, .int x5), (6, .int x6)] → W p l e rmX3_isRepair s m args below meth c H locs 0 0 (fw_Qi D 96 adr (fw_C cI cO adr) A below args s r σ') (F0 m 20 ls []) := by
  have hx := X.1.1
  have hb := X.1.2.1
  intro n
  induction n with
  | zero =>
    intro x1 x2 x3 x4 x5 x6 σ hf
    exact absurd hf (by simp [pX3_isRepair_20])
  | succ n ih =>
    intro x1 x2 x3 x4 x5 x6 σ hf H locs ls hH hl
    rw [pX3_isRepair_20] at hf
    refine lv_iload hx hb dX3_isRepair_20 (lv_at hl 6 rfl) ?_
    refine lv_bipush (v := (10 : Int32)) hx hb dX3_isRepair_22 (by decide) ?_
    refine lv_icmp_ge (tgt := 65) hx hb dX3_isRepair_24 (by decide) (fun hc => ?_) (fun hc => ?_)
    · have hf := fw_pos hc hf
      refine lv_iconst (v := (0 : Int32)) hx hb dX3_isRepair_65 (by decide) ?_
      obtain ⟨rfl, rfl, hz⟩ := fw_rzs hf
      exact fw_retz X hH hz dX3_isRepair_66
    · have hf := fw_neg hc hf
      refine lv_iload_n hx hb dX3_isRepair_27 rfl (lv_at hl 3 rfl) ?_
      refine lv_iload hx hb dX3_isRepair_28 (lv_at hl 6 rfl) ?_
      obtain ⟨w6, τ5, g4, hf⟩ := fw_b2s hf
      refine fw_ci hH (fw_rN (As := [.int x3, .int x6]) (rest := []) X hH (kX7_isIn  g4 _) qX7_isIn nw_2_185 ⟨Nat.le_of_ble_eq_true rfl, Nat.le_of_ble_eq_true rfl⟩ rfl rfl rfl hl.1 rfl (Nat.le_of_ble_eq_true rfl) dX3_isRepair_30) (fun H locs hH => ?_)
      refine lv_if_eq (tgt := 59) hx hb dX3_isRepair_33 (by decide) (fun hc => ?_) (fun hc => ?_)
      · have hf := fw_pos hc hf
        refine lv_iinc (v := (x6 + (1 : Int32))) (lv' := [(6, .int (x6 + (1 : Int32))), (0, .ref (adr 1)), (1, .int x1), (2, .int x2), (3, .int x3), (4, .int x4), (5, .int x5)]) hx hb dX3_isRepair_59 hl (k := 6) rfl rfl (by decide) rfl (fun ls hl => ?_)
        refine lv_goto (tgt := 20) hx hb dX3_isRepair_62 (by decide) ?_
        exact ih x1 x2 x3 x4 x5 (x6 + (1 : Int32)) τ5 hf _ _ _ hH (lv_sub hl [1, 2, 3, 4, 5, 6, 0] rfl)
      · have hf := fw_neg hc hf
        refine lv_aload_n hx hb dX3_isRepair_36 rfl (lv_at hl 0 rfl) ?_
        refine fw_get (id := 1) (k := 0) (v := .ref (adr 12)) X hH (by decide) (fc_1 (by decide)) rfl inX3 (by decide) rfl tw_1_105 dX3_isRepair_37 ?_
        refine fw_getN (id := 12) (k := 2) (v := .ref (adr 17)) X hH (by decide) (fc_12 (by decide)) rfl inX5 (by decide) rfl nw_1_91 dX3_isRepair_40 ?_
        refine lv_iload_n hx hb dX3_isRepair_43 rfl (lv_at hl 1 rfl) ?_
        refine lv_iload_n hx hb dX3_isRepair_44 rfl (lv_at hl 2 rfl) ?_
        refine lv_iload hx hb dX3_isRepair_45 (lv_at hl 4 rfl) ?_
        refine lv_iload hx hb dX3_isRepair_47 (lv_at hl 6 rfl) ?_
        refine lv_iload hx hb dX3_isRepair_49 (lv_at hl 5 rfl) ?_
        obtain ⟨w9, τ8, g7, hf⟩ := fw_b2s hf
        refine fw_ci hH (fw_rV (As := [.int x1, .int x2, .int x4, .int x6, .int x5]) (rest := []) (id := 17) X hH (kX0_acceptsWith (by unfold fw_FL; decide) g7 _) qX0_acceptsWith tw_3_6 ⟨Nat.le_of_ble_eq_true rfl, Nat.le_of_ble_eq_true rfl⟩ rfl rfl (by decide) (fc_15 (by decide)) rfl rfl hl.1 rfl (Nat.le_of_ble_eq_true rfl) dX3_isRepair_51) (fun H locs hH => ?_)
        refine lv_if_eq (tgt := 59) hx hb dX3_isRepair_54 (by decide) (fun hc => ?_) (fun hc => ?_)
        · have hf := fw_pos hc hf
          refine lv_iinc (v := (x6 + (1 : Int32))) (lv' := [(6, .int (x6 + (1 : Int32))), (0, .ref (adr 1)), (1, .int x1), (2, .int x2), (3, .int x3), (4, .int x4), (5, .int x5)]) hx hb dX3_isRepair_59 hl (k := 6) rfl rfl (by decide) rfl (fun ls hl => ?_)
          refine lv_goto (tgt := 20) hx hb dX3_isRepair_62 (by decide) ?_
          exact ih x1 x2 x3 x4 x5 (x6 + (1 : Int32)) τ8 hf _ _ _ hH (lv_sub hl [1, 2, 3, 4, 5, 6, 0] rfl)
        · have hf := fw_neg hc hf
          refine lv_iconst (v := (1 : Int32)) hx hb dX3_isRepair_57 (by decide) ?_
          obtain ⟨rfl, rfl, hz⟩ := fw_rzs hf
          exact fw_retz X hH hz dX3_isRepair_58
def pX3_isRepair (x1 : Int32) (x2 : Int32) (x3 : Int32) (x4 : Int32) (x5 : Int32) (σ : fw_T) : Option (Int32 × fw_T) :=
  fw_b2 (pX0_mayHaveConstant 17 x2 x1 σ) fun w3 τ2 =>
  if w3 = 0 then
    fw_rz (0 : Int32) τ2
  else
    pX3_isRepair_20 400 x1 x2 x3 x4 x5 (0 : Int32) τ2
set_option maxRecDepth 100000 in
set_option maxHeartbeats 4000000 in
theorem kX3_isRepair {x1 : Int32} {x2 : Int32} {x3 : Int32} {x4 : Int32} {x5 : Int32} {r : Int32} {σ σ' : fw_T} (hf : pX3_isRepair x1 x2 x3 x4 x5 σ = some (r, σ')) : fw_Ci l yX3_isRepair (Cond.code yX3_isRepair cX3_isRepair 7 (some .boolean) :: lwT) rmX3_isRepair [.ref (adr 1), .int x1, .int x2, .int x3, .int x4, .int x5] D 96 adr (fw_C cI cO adr) (fcT cI cO) nwC σ r σ' := by
  refine fw_start (Qc := (fun A => va_Qi (fun r' (_ : Unit) => r' = r) (fun _ t => va_P D vwCl (fw_ws 96 adr (fw_C cI cO adr σ')) t.heap) A)) (by decide) (by simp [lg_sl, Value.category]) rfl ?_
  intro p e s m below meth c A X hH ls hl
  have hx := X.1.1
  have hb := X.1.2.1
  have hl : lv_has ls 7 [(0, .ref (adr 1)), (1, .int x1), (2, .int x2), (3, .int x3), (4, .int x4), (5, .int x5)] := hl
  unfold pX3_isRepair at hf
  refine lv_aload_n hx hb dX3_isRepair_0 rfl (lv_at hl 0 rfl) ?_
  refine fw_get (id := 1) (k := 0) (v := .ref (adr 12)) X hH (by decide) (fc_1 (by decide)) rfl inX3 (by decide) rfl tw_1_105 dX3_isRepair_1 ?_
  refine fw_getN (id := 12) (k := 2) (v := .ref (adr 17)) X hH (by decide) (fc_12 (by decide)) rfl inX5 (by decide) rfl nw_1_91 dX3_isRepair_4 ?_
  refine lv_iload_n hx hb dX3_isRepair_7 rfl (lv_at hl 2 rfl) ?_
  refine lv_iload_n hx hb dX3_isRepair_8 rfl (lv_at hl 1 rfl) ?_
  obtain ⟨w3, τ2, g1, hf⟩ := fw_b2s hf
  refine fw_ci hH (fw_rV (As := [.int x2, .int x1]) (rest := []) (id := 17) X hH (kX0_mayHaveConstant (by unfold fw_FL; decide) g1 _) qX0_mayHaveConstant tw_3_2 ⟨Nat.le_of_ble_eq_true rfl, Nat.le_of_ble_eq_true rfl⟩ rfl rfl (by decide) (fc_15 (by decide)) rfl rfl hl.1 rfl (Nat.le_of_ble_eq_true rfl) dX3_isRepair_9) (fun H locs hH => ?_)
  refine lv_if_ne (tgt := 17) hx hb dX3_isRepair_12 (by decide) (fun hc => ?_) (fun hc => ?_)
  · have hf := fw_neg hc hf
    refine lv_iconst (v := (0 : Int32)) hx hb dX3_isRepair_17 (by decide) ?_
    refine lv_istore (lv' := [(6, .int (0 : Int32)), (0, .ref (adr 1)), (1, .int x1), (2, .int x2), (3, .int x3), (4, .int x4), (5, .int x5)]) hx hb dX3_isRepair_18 hl (by decide) rfl (fun ls hl => ?_)
    exact wX3_isRepair_20 X 400 x1 x2 x3 x4 x5 (0 : Int32) τ2 hf _ _ _ hH (lv_sub hl [1, 2, 3, 4, 5, 6, 0] rfl)
  · have hf := fw_pos hc hf
    refine lv_iconst (v := (0 : Int32)) hx hb dX3_isRepair_15 (by decide) ?_
    obtain ⟨rfl, rfl, hz⟩ := fw_rzs hf
    exact fw_retz X hH hz dX3_isRepair_16
abbrev rmX3_nearestConstant : Room := { frames := 5, cells := 0, slots := 0, locals := 113 }
theorem qX3_nearestConstant : fw_QV RX3 yX3_nearestConstant cX3_nearestConstant 8 (some .int) 3 := ⟨⟨tw_2_230, tw_2_231, tw_1_2, tw_2_232⟩, by decide +kernel⟩
def pX3_nearestConstant_29 : Nat → Int32 → Int32 → Int32 → Int32 → Int32 → Int32 → Int32 → fw_T → Option (Int32 × fw_T)
  | 0, _, _, _, _, _, _, _, _ => none
  | n + 1, x1, x2, x3, x4, x5, x6, x7, σ =>
    if x6 < x7 then
      some ((-10001 : Int32), σ)
    else
      fw_b2 (pX3_isRepair (x4 - x7) x3 x5 x1 x2 σ) fun w9 τ8 =>
      if w9 = 0 then
        fw_b2 (pX3_isRepair (x4 + x7) x3 x5 x1 x2 τ8) fun w12 τ11 =>
        if w12 = 0 then
          pX3_nearestConstant_29 n x1 x2 x3 x4 x5 x6 (x7 + (1 : Int32)) τ11
        else
          some ((x4 + x7), τ11)
      else
        some ((x4 - x7), τ8)
set_option maxRecDepth 100000 in
set_option maxHeartbeats 4000000 in
theorem wX3_nearestConstant_29 {args : Array Value} {r : Int32} {σ' : fw_T} (X : fcX p m c cX3_nearestConstant 8 s args RX3 meth (some .int) D cI cO)  : ∀ (n : Nat), ∀ (x1 : Int32), ∀ (x2 : Int32), ∀ (x3 : Int32), ∀ (x4 : Int32), ∀ (x5 : Int32), ∀ (x6 : Int32), ∀ (x7 : Int32), ∀ (σ : fw_T), pX3_nearestConstant_29 n x1 x2 x3 x4 x5 x6 x7 σ = some (r, σ') → ∀ (H : Heap) (locs : List Loc) (ls : Array Slot), fcH D cI cO adr A s H locs σ → lv_has ls 8 [(0, .ref (adr 1)), (1, .int x1), (2, .int x2), (3, .int x3), (4, .int x4), (5, .int x5), (6, .int x6), (7, .int x7)] → W p l e rmX3_nearestConstant s m args below meth c H locs 0 0 (fw_Qi D 96 adr (fw_C cI cO adr) A below args s r σ') (F0 m 29 ls []) := by
  have hx := X.1.1
  have hb := X.1.2.1
  intro n
  induction n with
  | zero =>
    intro x1 x2 x3 x4 x5 x6 x7 σ hf
    exact absurd hf (by simp [pX3_nearestConstant_29])
  | succ n ih =>
    intro x1 x2 x3 x4 x5 x6 x7 σ hf H locs ls hH hl
    rw [pX3_nearestConstant_29] at hf
    refine lv_iload hx hb dX3_nearestConstant_29 (lv_at hl 7 rfl) ?_
    refine lv_iload hx hb dX3_nearestConstant_31 (lv_at hl 6 rfl) ?_
    refine lv_icmp_gt (tgt := 88) hx hb dX3_nearestConstant_33 (by decide) (fun hc => ?_) (fun hc => ?_)
    · have hf := fw_pos hc hf
      refine lv_sipush (v := (-10001 : Int32)) hx hb dX3_nearestConstant_88 (by decide) ?_
      obtain ⟨rfl, rfl⟩ := fw_s2 hf
      exact fw_reti X hH dX3_nearestConstant_91
    · have hf := fw_neg hc hf
      refine lv_aload_n hx hb dX3_nearestConstant_36 rfl (lv_at hl 0 rfl) ?_
      refine lv_iload hx hb dX3_nearestConstant_37 (lv_at hl 4 rfl) ?_
      refine lv_iload hx hb dX3_nearestConstant_39 (lv_at hl 7 rfl) ?_
      refine lv_isub hx hb dX3_nearestConstant_41 ?_
      refine lv_iload_n hx hb dX3_nearestConstant_42 rfl (lv_at hl 3 rfl) ?_
      refine lv_iload hx hb dX3_nearestConstant_43 (lv_at hl 5 rfl) ?_
      refine lv_iload_n hx hb dX3_nearestConstant_45 rfl (lv_at hl 1 rfl) ?_
      refine lv_iload_n hx hb dX3_nearestConstant_46 rfl (lv_at hl 2 rfl) ?_
      obtain ⟨w9, τ8, g7, hf⟩ := fw_b2s hf
      refine fw_ci hH (fw_rV (As := [.int (x4 - x7), .int x3, .int x5, .int x1, .int x2]) (rest := []) (id := 1) X hH (kX3_isRepair  g7 _) qX3_isRepair tw_2_238 ⟨Nat.le_of_ble_eq_true rfl, Nat.le_of_ble_eq_true rfl⟩ rfl rfl (by decide) (fc_1 (by decide)) rfl rfl hl.1 rfl (Nat.le_of_ble_eq_true rfl) dX3_nearestConstant_47) (fun H locs hH => ?_)
      refine lv_if_eq (tgt := 59) hx hb dX3_nearestConstant_50 (by decide) (fun hc => ?_) (fun hc => ?_)
      · have hf := fw_pos hc hf
        refine lv_aload_n hx hb dX3_nearestConstant_59 rfl (lv_at hl 0 rfl) ?_
        refine lv_iload hx hb dX3_nearestConstant_60 (lv_at hl 4 rfl) ?_
        refine lv_iload hx hb dX3_nearestConstant_62 (lv_at hl 7 rfl) ?_
        refine lv_iadd hx hb dX3_nearestConstant_64 ?_
        refine lv_iload_n hx hb dX3_nearestConstant_65 rfl (lv_at hl 3 rfl) ?_
        refine lv_iload hx hb dX3_nearestConstant_66 (lv_at hl 5 rfl) ?_
        refine lv_iload_n hx hb dX3_nearestConstant_68 rfl (lv_at hl 1 rfl) ?_
        refine lv_iload_n hx hb dX3_nearestConstant_69 rfl (lv_at hl 2 rfl) ?_
        obtain ⟨w12, τ11, g10, hf⟩ := fw_b2s hf
        refine fw_ci hH (fw_rV (As := [.int (x4 + x7), .int x3, .int x5, .int x1, .int x2]) (rest := []) (id := 1) X hH (kX3_isRepair  g10 _) qX3_isRepair tw_2_238 ⟨Nat.le_of_ble_eq_true rfl, Nat.le_of_ble_eq_true rfl⟩ rfl rfl (by decide) (fc_1 (by decide)) rfl rfl hl.1 rfl (Nat.le_of_ble_eq_true rfl) dX3_nearestConstant_70) (fun H locs hH => ?_)
        refine lv_if_eq (tgt := 82) hx hb dX3_nearestConstant_73 (by decide) (fun hc => ?_) (fun hc => ?_)
        · have hf := fw_pos hc hf
          refine lv_iinc (v := (x7 + (1 : Int32))) (lv' := [(7, .int (x7 + (1 : Int32))), (0, .ref (adr 1)), (1, .int x1), (2, .int x2), (3, .int x3), (4, .int x4), (5, .int x5), (6, .int x6)]) hx hb dX3_nearestConstant_82 hl (k := 7) rfl rfl (by decide) rfl (fun ls hl => ?_)
          refine lv_goto (tgt := 29) hx hb dX3_nearestConstant_85 (by decide) ?_
          exact ih x1 x2 x3 x4 x5 x6 (x7 + (1 : Int32)) τ11 hf _ _ _ hH (lv_sub hl [1, 2, 3, 4, 5, 6, 7, 0] rfl)
        · have hf := fw_neg hc hf
          refine lv_iload hx hb dX3_nearestConstant_76 (lv_at hl 4 rfl) ?_
          refine lv_iload hx hb dX3_nearestConstant_78 (lv_at hl 7 rfl) ?_
          refine lv_iadd hx hb dX3_nearestConstant_80 ?_
          obtain ⟨rfl, rfl⟩ := fw_s2 hf
          exact fw_reti X hH dX3_nearestConstant_81
      · have hf := fw_neg hc hf
        refine lv_iload hx hb dX3_nearestConstant_53 (lv_at hl 4 rfl) ?_
        refine lv_iload hx hb dX3_nearestConstant_55 (lv_at hl 7 rfl) ?_
        refine lv_isub hx hb dX3_nearestConstant_57 ?_
        obtain ⟨rfl, rfl⟩ := fw_s2 hf
        exact fw_reti X hH dX3_nearestConstant_58
def pX3_nearestConstant (x1 : Int32) (x2 : Int32) (x3 : Int32) (σ : fw_T) : Option (Int32 × fw_T) :=
  fw_b2 (pX0_constantAt 17 x3 σ) fun w3 τ2 =>
  fw_b2 (pX3_bsAcceptedByOthers x1 x2 x3 τ2) fun w6 τ5 =>
  pX3_nearestConstant_29 400 x1 x2 x3 w3 w6 (27 : Int32) (0 : Int32) τ5
set_option maxRecDepth 100000 in
set_option maxHeartbeats 4000000 in
theorem kX3_nearestConstant {x1 : Int32} {x2 : Int32} {x3 : Int32} {r : Int32} {σ σ' : fw_T} (hf : pX3_nearestConstant x1 x2 x3 σ = some (r, σ')) : fw_Ci l yX3_nearestConstant (Cond.code yX3_nearestConstant cX3_nearestConstant 8 (some .int) :: lwT) rmX3_nearestConstant [.ref (adr 1), .int x1, .int x2, .int x3] D 96 adr (fw_C cI cO adr) (fcT cI cO) nwC σ r σ' := by
  refine fw_start (Qc := (fun A => va_Qi (fun r' (_ : Unit) => r' = r) (fun _ t => va_P D vwCl (fw_ws 96 adr (fw_C cI cO adr σ')) t.heap) A)) (by decide) (by simp [lg_sl, Value.category]) rfl ?_
  intro p e s m below meth c A X hH ls hl
  have hx := X.1.1
  have hb := X.1.2.1
  have hl : lv_has ls 8 [(0, .ref (adr 1)), (1, .int x1), (2, .int x2), (3, .int x3)] := hl
  unfold pX3_nearestConstant at hf
  refine lv_aload_n hx hb dX3_nearestConstant_0 rfl (lv_at hl 0 rfl) ?_
  refine fw_get (id := 1) (k := 0) (v := .ref (adr 12)) X hH (by decide) (fc_1 (by decide)) rfl inX3 (by decide) rfl tw_1_105 dX3_nearestConstant_1 ?_
  refine fw_getN (id := 12) (k := 2) (v := .ref (adr 17)) X hH (by decide) (fc_12 (by decide)) rfl inX5 (by decide) rfl nw_1_91 dX3_nearestConstant_4 ?_
  refine lv_iload_n hx hb dX3_nearestConstant_7 rfl (lv_at hl 3 rfl) ?_
  obtain ⟨w3, τ2, g1, hf⟩ := fw_b2s hf
  refine fw_ci hH (fw_rV (As := [.int x3]) (rest := []) (id := 17) X hH (kX0_constantAt (by unfold fw_FL; decide) g1 _) qX0_constantAt tw_2_233 ⟨Nat.le_of_ble_eq_true rfl, Nat.le_of_ble_eq_true rfl⟩ rfl rfl (by decide) (fc_15 (by decide)) rfl rfl hl.1 rfl (Nat.le_of_ble_eq_true rfl) dX3_nearestConstant_8) (fun H locs hH => ?_)
  refine lv_istore (lv' := [(4, .int w3), (0, .ref (adr 1)), (1, .int x1), (2, .int x2), (3, .int x3)]) hx hb dX3_nearestConstant_11 hl (by decide) rfl (fun ls hl => ?_)
  refine lv_aload_n hx hb dX3_nearestConstant_13 rfl (lv_at hl 1 rfl) ?_
  refine lv_iload_n hx hb dX3_nearestConstant_14 rfl (lv_at hl 2 rfl) ?_
  refine lv_iload_n hx hb dX3_nearestConstant_15 rfl (lv_at hl 3 rfl) ?_
  refine lv_iload_n hx hb dX3_nearestConstant_16 rfl (lv_at hl 4 rfl) ?_
  obtain ⟨w6, τ5, g4, hf⟩ := fw_b2s hf
  refine fw_ci hH (fw_rV (As := [.int x1, .int x2, .int x3]) (rest := []) (id := 1) X hH (kX3_bsAcceptedByOthers  g4 _) qX3_bsAcceptedByOthers tw_2_234 ⟨Nat.le_of_ble_eq_true rfl, Nat.le_of_ble_eq_true rfl⟩ rfl rfl (by decide) (fc_1 (by decide)) rfl rfl hl.1 rfl (Nat.le_of_ble_eq_true rfl) dX3_nearestConstant_17) (fun H locs hH => ?_)
  refine lv_istore (lv' := [(5, .int w6), (4, .int w3), (0, .ref (adr 1)), (1, .int x1), (2, .int x2), (3, .int x3)]) hx hb dX3_nearestConstant_20 hl (by decide) rfl (fun ls hl => ?_)
  refine lv_bipush (v := (27 : Int32)) hx hb dX3_nearestConstant_22 (by decide) ?_
  refine lv_istore (lv' := [(6, .int (27 : Int32)), (5, .int w6), (4, .int w3), (0, .ref (adr 1)), (1, .int x1), (2, .int x2), (3, .int x3)]) hx hb dX3_nearestConstant_24 hl (by decide) rfl (fun ls hl => ?_)
  refine lv_iconst (v := (0 : Int32)) hx hb dX3_nearestConstant_26 (by decide) ?_
  refine lv_istore (lv' := [(7, .int (0 : Int32)), (6, .int (27 : Int32)), (5, .int w6), (4, .int w3), (0, .ref (adr 1)), (1, .int x1), (2, .int x2), (3, .int x3)]) hx hb dX3_nearestConstant_27 hl (by decide) rfl (fun ls hl => ?_)
  exact wX3_nearestConstant_29 X 400 x1 x2 x3 w3 w6 (27 : Int32) (0 : Int32) τ5 hf _ _ _ hH (lv_sub hl [4, 5, 6, 7, 3, 2, 1, 0] rfl)
abbrev rmX7_repairedConstant : Room := { frames := 6, cells := 0, slots := 0, locals := 140 }
theorem qX7_repairedConstant : fw_QV RX7 yX7_repairedConstant cX7_repairedConstant 4 (some .int) 3 := ⟨⟨tw_2_226, tw_2_227, tw_1_1, tw_2_228⟩, by decide +kernel⟩
def pX7_repairedConstant (x1 : Int32) (x2 : Int32) (x3 : Int32) (σ : fw_T) : Option (Int32 × fw_T) :=
  fw_b2 (pX7_isPair x1 x2 σ) fun w3 τ2 =>
  if w3 = 0 then
    fw_b2 (pX7_report (-10002 : Int32) τ2) fun w6 τ5 =>
    some (w6, τ5)
  else
    fw_b2 (pX0_holds 17 x3 τ2) fun w9 τ8 =>
    if w9 = 0 then
      fw_b2 (pX7_report (-10002 : Int32) τ8) fun w15 τ14 =>
      some (w15, τ14)
    else
      fw_b2 (pX3_nearestConstant x1 x2 x3 τ8) fun w12 τ11 =>
      some (w12, τ11)
set_option maxRecDepth 100000 in
set_option maxHeartbeats 4000000 in
theorem kX7_repairedConstant {x1 : Int32} {x2 : Int32} {x3 : Int32} {r : Int32} {σ σ' : fw_T} (hf : pX7_repairedConstant x1 x2 x3 σ = some (r, σ')) : fw_Ci l yX7_repairedConstant (Cond.code yX7_repairedConstant cX7_repairedConstant 4 (some .int) :: lwT) rmX7_repairedConstant [.ref (adr 0), .int x1, .int x2, .int x3] D 96 adr (fw_C cI cO adr) (fcT cI cO) nwC σ r σ' := by
  refine fw_start (Qc := (fun A => va_Qi (fun r' (_ : Unit) => r' = r) (fun _ t => va_P D vwCl (fw_ws 96 adr (fw_C cI cO adr σ')) t.heap) A)) (by decide) (by simp [lg_sl, Value.category]) rfl ?_
  intro p e s m below meth c A X hH ls hl
  have hx := X.1.1
  have hb := X.1.2.1
  have hl : lv_has ls 4 [(0, .ref (adr 0)), (1, .int x1), (2, .int x2), (3, .int x3)] := hl
  unfold pX7_repairedConstant at hf
  refine lv_iload_n hx hb dX7_repairedConstant_0 rfl (lv_at hl 1 rfl) ?_
  refine lv_iload_n hx hb dX7_repairedConstant_1 rfl (lv_at hl 2 rfl) ?_
  obtain ⟨w3, τ2, g1, hf⟩ := fw_b2s hf
  refine fw_ci hH (fw_rS (As := [.int x1, .int x2]) (rest := []) X hH (kX7_isPair  g1 _) qX7_isPair tw_2_166 ⟨Nat.le_of_ble_eq_true rfl, Nat.le_of_ble_eq_true rfl⟩ rfl rfl rfl hl.1 rfl (Nat.le_of_ble_eq_true rfl) dX7_repairedConstant_2) (fun H locs hH => ?_)
  refine lv_if_eq (tgt := 22) hx hb dX7_repairedConstant_5 (by decide) (fun hc => ?_) (fun hc => ?_)
  · have hf := fw_pos hc hf
    refine lv_aload_n hx hb dX7_repairedConstant_22 rfl (lv_at hl 0 rfl) ?_
    refine lv_sipush (v := (-10002 : Int32)) hx hb dX7_repairedConstant_23 (by decide) ?_
    obtain ⟨w6, τ5, g4, hf⟩ := fw_b2s hf
    refine fw_ci hH (fw_rV (As := [.int (-10002 : Int32)]) (rest := []) (id := 0) X hH (kX7_report  g4 _) qX7_report tw_2_10 ⟨Nat.le_of_ble_eq_true rfl, Nat.le_of_ble_eq_true rfl⟩ rfl rfl (by decide) (fc_0 (by decide)) rfl rfl hl.1 rfl (Nat.le_of_ble_eq_true rfl) dX7_repairedConstant_26) (fun H locs hH => ?_)
    obtain ⟨rfl, rfl⟩ := fw_s2 hf
    exact fw_reti X hH dX7_repairedConstant_29
  · have hf := fw_neg hc hf
    refine lv_aload_n hx hb dX7_repairedConstant_8 rfl (lv_at hl 0 rfl) ?_
    refine fw_get (id := 0) (k := 1) (v := .ref (adr 12)) X hH (by decide) (fc_0 (by decide)) rfl inX7 (by decide) rfl tw_1_178 dX7_repairedConstant_9 ?_
    refine fw_getN (id := 12) (k := 2) (v := .ref (adr 17)) X hH (by decide) (fc_12 (by decide)) rfl inX5 (by decide) rfl nw_1_92 dX7_repairedConstant_12 ?_
    refine lv_iload_n hx hb dX7_repairedConstant_15 rfl (lv_at hl 3 rfl) ?_
    obtain ⟨w9, τ8, g7, hf⟩ := fw_b2s hf
    refine fw_ci hH (fw_rV (As := [.int x3]) (rest := []) (id := 17) X hH (kX0_holds (by unfold fw_FL; decide) g7 _) qX0_holds tw_2_93 ⟨Nat.le_of_ble_eq_true rfl, Nat.le_of_ble_eq_true rfl⟩ rfl rfl (by decide) (fc_15 (by decide)) rfl rfl hl.1 rfl (Nat.le_of_ble_eq_true rfl) dX7_repairedConstant_16) (fun H locs hH => ?_)
    refine lv_if_ne (tgt := 30) hx hb dX7_repairedConstant_19 (by decide) (fun hc => ?_) (fun hc => ?_)
    · have hf := fw_neg hc hf
      refine lv_aload_n hx hb dX7_repairedConstant_30 rfl (lv_at hl 0 rfl) ?_
      refine fw_get (id := 0) (k := 0) (v := .ref (adr 1)) X hH (by decide) (fc_0 (by decide)) rfl inX7 (by decide) rfl tw_1_177 dX7_repairedConstant_31 ?_
      refine lv_iload_n hx hb dX7_repairedConstant_34 rfl (lv_at hl 1 rfl) ?_
      refine lv_iload_n hx hb dX7_repairedConstant_35 rfl (lv_at hl 2 rfl) ?_
      refine lv_iload_n hx hb dX7_repairedConstant_36 rfl (lv_at hl 3 rfl) ?_
      obtain ⟨w12, τ11, g10, hf⟩ := fw_b2s hf
      refine fw_ci hH (fw_rV (As := [.int x1, .int x2, .int x3]) (rest := []) (id := 1) X hH (kX3_nearestConstant  g10 _) qX3_nearestConstant tw_2_229 ⟨Nat.le_of_ble_eq_true rfl, Nat.le_of_ble_eq_true rfl⟩ rfl rfl (by decide) (fc_1 (by decide)) rfl rfl hl.1 rfl (Nat.le_of_ble_eq_true rfl) dX7_repairedConstant_37) (fun H locs hH => ?_)
      obtain ⟨rfl, rfl⟩ := fw_s2 hf
      exact fw_reti X hH dX7_repairedConstant_40
    · have hf := fw_pos hc hf
      refine lv_aload_n hx hb dX7_repairedConstant_22 rfl (lv_at hl 0 rfl) ?_
      refine lv_sipush (v := (-10002 : Int32)) hx hb dX7_repairedConstant_23 (by decide) ?_
      obtain ⟨w15, τ14, g13, hf⟩ := fw_b2s hf
      refine fw_ci hH (fw_rV (As := [.int (-10002 : Int32)]) (rest := []) (id := 0) X hH (kX7_report  g13 _) qX7_report tw_2_10 ⟨Nat.le_of_ble_eq_true rfl, Nat.le_of_ble_eq_true rfl⟩ rfl rfl (by decide) (fc_0 (by decide)) rfl rfl hl.1 rfl (Nat.le_of_ble_eq_true rfl) dX7_repairedConstant_26) (fun H locs hH => ?_)
      obtain ⟨rfl, rfl⟩ := fw_s2 hf
      exact fw_reti X hH dX7_repairedConstant_29
end
