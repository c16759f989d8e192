section
variable {p : Program} {l : Launch} {e : Env} {s : State} {m : MethodId} {below : List Frame} {meth : Method} {c : Code} {D : va_G} {cI cO cB : ClassId} {adr : Nat → Nat} {A : Nat → Prop}
abbrev rmX7_filterCount : Room := { frames := 0, cells := 0, slots := 0, locals := 0 }
theorem qX7_filterCount : fw_QV RX7 yX7_filterCount cX7_filterCount 1 (some .int) 0 := ⟨⟨tw_2_78, tw_2_79, tw_1_1, tw_2_80⟩, by decide +kernel⟩
def pX7_filterCount (σ : fw_T) : Option (Int32 × fw_T) :=
  some ((fw_g σ 17 4), σ)
set_option maxRecDepth 100000 in
set_option maxHeartbeats 4000000 in
theorem kX7_filterCount {r : Int32} {σ σ' : fw_T} (hf : pX7_filterCount σ = some (r, σ')) : fw_Ci l yX7_filterCount (Cond.code yX7_filterCount cX7_filterCount 1 (some .int) :: lwT) rmX7_filterCount [.ref (adr 0)] D 96 adr (fw_C cI cO adr) (fcT cI cO) nwC σ r σ' := by
  refine fw_start (Qc := (fun A => va_Qi (fun r' (_ : Unit) => r' = r) (fun _ t => va_P D vwCl (fw_ws 96 adr (fw_C cI cO adr σ')) t.heap) A)) (by decide) (by simp [lg_sl, Value.category]) rfl ?_
  intro p e s m below meth c A X hH ls hl
  have hx := X.1.1
  have hb := X.1.2.1
  have hl : lv_has ls 1 [(0, .ref (adr 0))] := hl
  unfold pX7_filterCount at hf
  refine lv_aload_n hx hb dX7_filterCount_0 rfl (lv_at hl 0 rfl) ?_
  refine fw_get (id := 0) (k := 1) (v := .ref (adr 12)) X hH (by decide) (fc_0 (by decide)) rfl inX7 (by decide) rfl tw_1_178 dX7_filterCount_1 ?_
  refine fw_getN (id := 12) (k := 2) (v := .ref (adr 17)) X hH (by decide) (fc_12 (by decide)) rfl inX5 (by decide) rfl nw_1_92 dX7_filterCount_4 ?_
  refine fw_getN (id := 17) (k := 4) (v := .int (fw_g σ 17 4)) X hH (by decide) (fc_15 (by decide)) rfl inX0 (by decide) rfl nw_1_71 dX7_filterCount_7 ?_
  obtain ⟨rfl, rfl⟩ := fw_s2 hf
  exact fw_reti X hH dX7_filterCount_10
abbrev rmX0_constantAt : Room := { frames := 1, cells := 0, slots := 0, locals := 21 }
theorem qX0_constantAt : fw_QV RX0 yX0_constantAt cX0_constantAt 2 (some .int) 1 := ⟨⟨tw_2_86, tw_2_87, tw_1_6, tw_2_88⟩, by decide +kernel⟩
def pX0_constantAt (h : Nat) (x1 : Int32) (σ : fw_T) : Option (Int32 × fw_T) :=
  fw_b2 (pX0_holds h x1 σ) fun w3 τ2 =>
  if w3 = 0 then
    some ((-10002 : Int32), τ2)
  else
    (fw_rd τ2 (h + 4) 6 x1).bind fun w4 =>
    some (w4, τ2)
set_option maxRecDepth 100000 in
set_option maxHeartbeats 4000000 in
theorem kX0_constantAt {h : Nat} (hk : fw_FL h) {x1 : Int32} {r : Int32} {σ σ' : fw_T} (hf : pX0_constantAt h x1 σ = some (r, σ')) : fw_Ci l yX0_constantAt (Cond.code yX0_constantAt cX0_constantAt 2 (some .int) :: lwT) rmX0_constantAt [.ref (adr h), .int x1] D 96 adr (fw_C cI cO adr) (fcT cI cO) nwC σ r σ' := by
  refine fw_start (Qc := (fun A => va_Qi (fun r' (_ : Unit) => r' = r) (fun _ t => va_P D vwCl (fw_ws 96 adr (fw_C cI cO adr σ')) t.heap) A)) (by decide) (by simp [lg_sl, Value.category]) rfl ?_
  intro p e s m below meth c A X hH ls hl
  have hx := X.1.1
  have hb := X.1.2.1
  have hl : lv_has ls 2 [(0, .ref (adr h)), (1, .int x1)] := hl
  unfold pX0_constantAt at hf
  refine lv_aload_n hx hb dX0_constantAt_0 rfl (lv_at hl 0 rfl) ?_
  refine lv_iload_n hx hb dX0_constantAt_1 rfl (lv_at hl 1 rfl) ?_
  obtain ⟨w3, τ2, g1, hf⟩ := fw_b2s hf
  refine fw_ci hH (fw_rV (As := [.int x1]) (rest := []) (id := h) X hH (kX0_holds hk g1 _) qX0_holds tw_2_65 ⟨Nat.le_of_ble_eq_true rfl, Nat.le_of_ble_eq_true rfl⟩ rfl rfl hk.2.1 (fc_15 hk.1) rfl rfl hl.1 rfl (Nat.le_of_ble_eq_true rfl) dX0_constantAt_2) (fun H locs hH => ?_)
  refine lv_if_eq (tgt := 17) hx hb dX0_constantAt_5 (by decide) (fun hc => ?_) (fun hc => ?_)
  · have hf := fw_pos hc hf
    refine lv_sipush (v := (-10002 : Int32)) hx hb dX0_constantAt_17 (by decide) ?_
    obtain ⟨rfl, rfl⟩ := fw_s2 hf
    exact fw_reti X hH dX0_constantAt_20
  · have hf := fw_neg hc hf
    refine lv_aload_n hx hb dX0_constantAt_8 rfl (lv_at hl 0 rfl) ?_
    refine fw_get (id := h) (k := 3) (v := .ref (adr (h + 4))) X hH hk.2.1 (fc_15 hk.1) rfl inX0 (by decide) rfl tw_1_68 dX0_constantAt_9 ?_
    refine lv_iload_n hx hb dX0_constantAt_12 rfl (lv_at hl 1 rfl) ?_
    obtain ⟨w4, g5, hf⟩ := fw_bd hf
    refine fw_iald (id := (h + 4)) (n := 6) X hH hk.2.2.2.2.2.2 (fc_16 hk.2.2.2.2.2.1) rfl g5 dX0_constantAt_13 ?_
    refine lv_goto (tgt := 20) hx hb dX0_constantAt_14 (by decide) ?_
    obtain ⟨rfl, rfl⟩ := fw_s2 hf
    exact fw_reti X hH dX0_constantAt_20
abbrev rmX7_constant : Room := { frames := 2, cells := 0, slots := 0, locals := 42 }
theorem qX7_constant : fw_QV RX7 yX7_constant cX7_constant 2 (some .int) 1 := ⟨⟨tw_2_82, tw_2_83, tw_1_1, tw_2_84⟩, by decide +kernel⟩
def pX7_constant (x1 : Int32) (σ : fw_T) : Option (Int32 × fw_T) :=
  fw_b2 (pX0_constantAt 17 x1 σ) fun w3 τ2 =>
  fw_b2 (pX7_report w3 τ2) fun w6 τ5 =>
  some (w6, τ5)
set_option maxRecDepth 100000 in
set_option maxHeartbeats 4000000 in
theorem kX7_constant {x1 : Int32} {r : Int32} {σ σ' : fw_T} (hf : pX7_constant x1 σ = some (r, σ')) : fw_Ci l yX7_constant (Cond.code yX7_constant cX7_constant 2 (some .int) :: lwT) rmX7_constant [.ref (adr 0), .int x1] D 96 adr (fw_C cI cO adr) (fcT cI cO) nwC σ r σ' := by
  refine fw_start (Qc := (fun A => va_Qi (fun r' (_ : Unit) => r' = r) (fun _ t => va_P D vwCl (fw_ws 96 adr (fw_C cI cO adr σ')) t.heap) A)) (by decide) (by simp [lg_sl, Value.category]) rfl ?_
  intro p e s m below meth c A X hH ls hl
  have hx := X.1.1
  have hb := X.1.2.1
  have hl : lv_has ls 2 [(0, .ref (adr 0)), (1, .int x1)] := hl
  unfold pX7_constant at hf
  refine lv_aload_n hx hb dX7_constant_0 rfl (lv_at hl 0 rfl) ?_
  refine lv_aload_n hx hb dX7_constant_1 rfl (lv_at hl 0 rfl) ?_
  refine fw_get (id := 0) (k := 1) (v := .ref (adr 12)) X hH (by decide) (fc_0 (by decide)) rfl inX7 (by decide) rfl tw_1_178 dX7_constant_2 ?_
  refine fw_getN (id := 12) (k := 2) (v := .ref (adr 17)) X hH (by decide) (fc_12 (by decide)) rfl inX5 (by decide) rfl nw_1_92 dX7_constant_5 ?_
  refine lv_iload_n hx hb dX7_constant_8 rfl (lv_at hl 1 rfl) ?_
  obtain ⟨w3, τ2, g1, hf⟩ := fw_b2s hf
  refine fw_ci hH (fw_rV (As := [.int x1]) (rest := [.ref (adr 0)]) (id := 17) X hH (kX0_constantAt (by unfold fw_FL; decide) g1 _) qX0_constantAt tw_2_85 ⟨Nat.le_of_ble_eq_true rfl, Nat.le_of_ble_eq_true rfl⟩ rfl rfl (by decide) (fc_15 (by decide)) rfl rfl hl.1 rfl (Nat.le_of_ble_eq_true rfl) dX7_constant_9) (fun H locs hH => ?_)
  obtain ⟨w6, τ5, g4, hf⟩ := fw_b2s hf
  refine fw_ci hH (fw_rV (As := [.int w3]) (rest := []) (id := 0) X hH (kX7_report  g4 _) qX7_report tw_2_10 ⟨Nat.le_of_ble_eq_true rfl, Nat.le_of_ble_eq_true rfl⟩ rfl rfl (by decide) (fc_0 (by decide)) rfl rfl hl.1 rfl (Nat.le_of_ble_eq_true rfl) dX7_constant_12) (fun H locs hH => ?_)
  obtain ⟨rfl, rfl⟩ := fw_s2 hf
  exact fw_reti X hH dX7_constant_15
abbrev rmX0_isAtStage : Room := { frames := 1, cells := 0, slots := 0, locals := 21 }
theorem qX0_isAtStage : fw_QV RX0 yX0_isAtStage cX0_isAtStage 3 (some .boolean) 2 := ⟨⟨tw_2_99, tw_2_100, tw_1_6, tw_2_101⟩, by decide +kernel⟩
def pX0_isAtStage (h : Nat) (x1 : Int32) (x2 : Int32) (σ : fw_T) : Option (Int32 × fw_T) :=
  fw_b2 (pX0_holds h x1 σ) fun w3 τ2 =>
  if w3 = 0 then
    fw_rz (0 : Int32) τ2
  else
    (fw_rd τ2 (h + 1) 6 x1).bind fun w4 =>
    if w4 = x2 then
      fw_rz (1 : Int32) τ2
    else
      fw_rz (0 : Int32) τ2
set_option maxRecDepth 100000 in
set_option maxHeartbeats 4000000 in
theorem kX0_isAtStage {h : Nat} (hk : fw_FL h) {x1 : Int32} {x2 : Int32} {r : Int32} {σ σ' : fw_T} (hf : pX0_isAtStage h x1 x2 σ = some (r, σ')) : fw_Ci l yX0_isAtStage (Cond.code yX0_isAtStage cX0_isAtStage 3 (some .boolean) :: lwT) rmX0_isAtStage [.ref (adr h), .int x1, .int x2] D 96 adr (fw_C cI cO adr) (fcT cI cO) nwC σ r σ' := by
  refine fw_start (Qc := (fun A => va_Qi (fun r' (_ : Unit) => r' = r) (fun _ t => va_P D vwCl (fw_ws 96 adr (fw_C cI cO adr σ')) t.heap) A)) (by decide) (by simp [lg_sl, Value.category]) rfl ?_
  intro p e s m below meth c A X hH ls hl
  have hx := X.1.1
  have hb := X.1.2.1
  have hl : lv_has ls 3 [(0, .ref (adr h)), (1, .int x1), (2, .int x2)] := hl
  unfold pX0_isAtStage at hf
  refine lv_aload_n hx hb dX0_isAtStage_0 rfl (lv_at hl 0 rfl) ?_
  refine lv_iload_n hx hb dX0_isAtStage_1 rfl (lv_at hl 1 rfl) ?_
  obtain ⟨w3, τ2, g1, hf⟩ := fw_b2s hf
  refine fw_ci hH (fw_rV (As := [.int x1]) (rest := []) (id := h) X hH (kX0_holds hk g1 _) qX0_holds tw_2_65 ⟨Nat.le_of_ble_eq_true rfl, Nat.le_of_ble_eq_true rfl⟩ rfl rfl hk.2.1 (fc_15 hk.1) rfl rfl hl.1 rfl (Nat.le_of_ble_eq_true rfl) dX0_isAtStage_2) (fun H locs hH => ?_)
  refine lv_if_eq (tgt := 22) hx hb dX0_isAtStage_5 (by decide) (fun hc => ?_) (fun hc => ?_)
  · have hf := fw_pos hc hf
    refine lv_iconst (v := (0 : Int32)) hx hb dX0_isAtStage_22 (by decide) ?_
    obtain ⟨rfl, rfl, hz⟩ := fw_rzs hf
    exact fw_retz X hH hz dX0_isAtStage_23
  · have hf := fw_neg hc hf
    refine lv_aload_n hx hb dX0_isAtStage_8 rfl (lv_at hl 0 rfl) ?_
    refine fw_get (id := h) (k := 0) (v := .ref (adr (h + 1))) X hH hk.2.1 (fc_15 hk.1) rfl inX0 (by decide) rfl tw_1_62 dX0_isAtStage_9 ?_
    refine lv_iload_n hx hb dX0_isAtStage_12 rfl (lv_at hl 1 rfl) ?_
    obtain ⟨w4, g5, hf⟩ := fw_bd hf
    refine fw_iald (id := (h + 1)) (n := 6) X hH hk.2.2.1.2 (fc_16 hk.2.2.1.1) rfl g5 dX0_isAtStage_13 ?_
    refine lv_iload_n hx hb dX0_isAtStage_14 rfl (lv_at hl 2 rfl) ?_
    refine lv_icmp_ne (tgt := 22) hx hb dX0_isAtStage_15 (by decide) (fun hc => ?_) (fun hc => ?_)
    · have hf := fw_neg hc hf
      refine lv_iconst (v := (0 : Int32)) hx hb dX0_isAtStage_22 (by decide) ?_
      obtain ⟨rfl, rfl, hz⟩ := fw_rzs hf
      exact fw_retz X hH hz dX0_isAtStage_23
    · have hf := fw_pos hc hf
      refine lv_iconst (v := (1 : Int32)) hx hb dX0_isAtStage_18 (by decide) ?_
      refine lv_goto (tgt := 23) hx hb dX0_isAtStage_19 (by decide) ?_
      obtain ⟨rfl, rfl, hz⟩ := fw_rzs hf
      exact fw_retz X hH hz dX0_isAtStage_23
abbrev rmX2_firstAt : Room := { frames := 1, cells := 0, slots := 0, locals := 21 }
theorem qX2_firstAt : fw_QV RX2 yX2_firstAt cX2_firstAt 2 (some .int) 1 := ⟨⟨tw_2_107, tw_2_108, tw_1_4, tw_2_109⟩, by decide +kernel⟩
def pX2_firstAt (h : Nat) (x1 : Int32) (σ : fw_T) : Option (Int32 × fw_T) :=
  fw_b2 (pX2_pairAt h x1 σ) fun w3 τ2 =>
  some ((w3 / (10 : Int32)), τ2)
set_option maxRecDepth 100000 in
set_option maxHeartbeats 4000000 in
theorem kX2_firstAt {h : Nat} (hk : fw_PL h) {x1 : Int32} {r : Int32} {σ σ' : fw_T} (hf : pX2_firstAt h x1 σ = some (r, σ')) : fw_Ci l yX2_firstAt (Cond.code yX2_firstAt cX2_firstAt 2 (some .int) :: lwT) rmX2_firstAt [.ref (adr h), .int x1] D 96 adr (fw_C cI cO adr) (fcT cI cO) nwC σ r σ' := by
  refine fw_start (Qc := (fun A => va_Qi (fun r' (_ : Unit) => r' = r) (fun _ t => va_P D vwCl (fw_ws 96 adr (fw_C cI cO adr σ')) t.heap) A)) (by decide) (by simp [lg_sl, Value.category]) rfl ?_
  intro p e s m below meth c A X hH ls hl
  have hx := X.1.1
  have hb := X.1.2.1
  have hl : lv_has ls 2 [(0, .ref (adr h)), (1, .int x1)] := hl
  unfold pX2_firstAt at hf
  refine lv_aload_n hx hb dX2_firstAt_0 rfl (lv_at hl 0 rfl) ?_
  refine lv_iload_n hx hb dX2_firstAt_1 rfl (lv_at hl 1 rfl) ?_
  obtain ⟨w3, τ2, g1, hf⟩ := fw_b2s hf
  refine fw_ci hH (fw_rV (As := [.int x1]) (rest := []) (id := h) X hH (kX2_pairAt hk g1 _) qX2_pairAt tw_2_110 ⟨Nat.le_of_ble_eq_true rfl, Nat.le_of_ble_eq_true rfl⟩ rfl rfl hk.2.1 (fc_13 hk.1) rfl rfl hl.1 rfl (Nat.le_of_ble_eq_true rfl) dX2_firstAt_2) (fun H locs hH => ?_)
  refine lv_bipush (v := (10 : Int32)) hx hb dX2_firstAt_5 (by decide) ?_
  refine lv_idiv hx hb dX2_firstAt_7 (by decide) ?_
  obtain ⟨rfl, rfl⟩ := fw_s2 hf
  exact fw_reti X hH dX2_firstAt_8
abbrev rmX2_secondAt : Room := { frames := 1, cells := 0, slots := 0, locals := 21 }
theorem qX2_secondAt : fw_QV RX2 yX2_secondAt cX2_secondAt 2 (some .int) 1 := ⟨⟨tw_2_112, tw_2_113, tw_1_4, tw_2_114⟩, by decide +kernel⟩
def pX2_secondAt (h : Nat) (x1 : Int32) (σ : fw_T) : Option (Int32 × fw_T) :=
  fw_b2 (pX2_pairAt h x1 σ) fun w3 τ2 =>
  some ((w3 - w3 / (10 : Int32) * (10 : Int32)), τ2)
set_option maxRecDepth 100000 in
set_option maxHeartbeats 4000000 in
theorem kX2_secondAt {h : Nat} (hk : fw_PL h) {x1 : Int32} {r : Int32} {σ σ' : fw_T} (hf : pX2_secondAt h x1 σ = some (r, σ')) : fw_Ci l yX2_secondAt (Cond.code yX2_secondAt cX2_secondAt 2 (some .int) :: lwT) rmX2_secondAt [.ref (adr h), .int x1] D 96 adr (fw_C cI cO adr) (fcT cI cO) nwC σ r σ' := by
  refine fw_start (Qc := (fun A => va_Qi (fun r' (_ : Unit) => r' = r) (fun _ t => va_P D vwCl (fw_ws 96 adr (fw_C cI cO adr σ')) t.heap) A)) (by decide) (by simp [lg_sl, Value.category]) rfl ?_
  intro p e s m below meth c A X hH ls hl
  have hx := X.1.1
  have hb := X.1.2.1
  have hl : lv_has ls 2 [(0, .ref (adr h)), (1, .int x1)] := hl
  unfold pX2_secondAt at hf
  refine lv_aload_n hx hb dX2_secondAt_0 rfl (lv_at hl 0 rfl) ?_
  refine lv_iload_n hx hb dX2_secondAt_1 rfl (lv_at hl 1 rfl) ?_
  obtain ⟨w3, τ2, g1, hf⟩ := fw_b2s hf
  refine fw_ci hH (fw_rV (As := [.int x1]) (rest := []) (id := h) X hH (kX2_pairAt hk g1 _) qX2_pairAt tw_2_110 ⟨Nat.le_of_ble_eq_true rfl, Nat.le_of_ble_eq_true rfl⟩ rfl rfl hk.2.1 (fc_13 hk.1) rfl rfl hl.1 rfl (Nat.le_of_ble_eq_true rfl) dX2_secondAt_2) (fun H locs hH => ?_)
  refine lv_bipush (v := (10 : Int32)) hx hb dX2_secondAt_5 (by decide) ?_
  refine lv_irem hx hb dX2_secondAt_7 (by decide) ?_
  obtain ⟨rfl, rfl⟩ := fw_s2 hf
  exact fw_reti X hH dX2_secondAt_8
abbrev rmX0_columnValue : Room := { frames := 0, cells := 0, slots := 0, locals := 0 }
theorem qX0_columnValue : fw_QS yX0_columnValue cX0_columnValue 5 (some .int) 5 := ⟨⟨tw_2_120, tw_1_6, tw_2_121⟩, by decide +kernel⟩
def pX0_columnValue (x0 : Int32) (x1 : Int32) (x2 : Int32) (x3 : Int32) (x4 : Int32) (σ : fw_T) : Option (Int32 × fw_T) :=
  if x0 = (0 : Int32) then
    if x1 = 0 then
      some (x2, σ)
    else
      some (x3, σ)
  else
    if x0 = (1 : Int32) then
      if x1 = 0 then
        some (x3, σ)
      else
        some (x4, σ)
    else
      if x1 = (2 : Int32) then
        some (x3, σ)
      else
        if x1 = 0 then
          some ((x2 - x4), σ)
        else
          some ((x2 + x4), σ)
set_option maxRecDepth 100000 in
set_option maxHeartbeats 4000000 in
theorem kX0_columnValue {x0 : Int32} {x1 : Int32} {x2 : Int32} {x3 : Int32} {x4 : Int32} {r : Int32} {σ σ' : fw_T} (hf : pX0_columnValue x0 x1 x2 x3 x4 σ = some (r, σ')) : fw_Ci l yX0_columnValue (Cond.code yX0_columnValue cX0_columnValue 5 (some .int) :: lwT) rmX0_columnValue [.int x0, .int x1, .int x2, .int x3, .int x4] D 96 adr (fw_C cI cO adr) (fcT cI cO) nwC σ r σ' := by
  refine fw_start (Qc := (fun A => va_Qi (fun r' (_ : Unit) => r' = r) (fun _ t => va_P D vwCl (fw_ws 96 adr (fw_C cI cO adr σ')) t.heap) A)) (by decide) (by simp [lg_sl, Value.category]) rfl ?_
  intro p e s m below meth c A X hH ls hl
  have hx := X.1.1
  have hb := X.1.2.1
  have hl : lv_has ls 5 [(0, .int x0), (1, .int x1), (2, .int x2), (3, .int x3), (4, .int x4)] := hl
  unfold pX0_columnValue at hf
  refine lv_iload_n hx hb dX0_columnValue_0 rfl (lv_at hl 0 rfl) ?_
  by_cases hc0 : x0 = (0 : Int32)
  · have hf := fw_pos hc0 hf
    refine lv_lookup (off := 27) (tgt := 28) hx hb dX0_columnValue_1 (by decide) (by rw [hc0]; decide) (by decide) ?_
    refine lv_iload_n hx hb dX0_columnValue_28 rfl (lv_at hl 1 rfl) ?_
    refine lv_if_ne (tgt := 36) hx hb dX0_columnValue_29 (by decide) (fun hc => ?_) (fun hc => ?_)
    · have hf := fw_neg hc hf
      refine lv_iload_n hx hb dX0_columnValue_36 rfl (lv_at hl 3 rfl) ?_
      obtain ⟨rfl, rfl⟩ := fw_s2 hf
      exact fw_reti X hH dX0_columnValue_37
    · have hf := fw_pos hc hf
      refine lv_iload_n hx hb dX0_columnValue_32 rfl (lv_at hl 2 rfl) ?_
      refine lv_goto (tgt := 37) hx hb dX0_columnValue_33 (by decide) ?_
      obtain ⟨rfl, rfl⟩ := fw_s2 hf
      exact fw_reti X hH dX0_columnValue_37
  · have hf := fw_neg hc0 hf
    by_cases hc1 : x0 = (1 : Int32)
    · have hf := fw_pos hc1 hf
      refine lv_lookup (off := 37) (tgt := 38) hx hb dX0_columnValue_1 (by decide) (by rw [hc1]; decide) (by decide) ?_
      refine lv_iload_n hx hb dX0_columnValue_38 rfl (lv_at hl 1 rfl) ?_
      refine lv_if_ne (tgt := 46) hx hb dX0_columnValue_39 (by decide) (fun hc => ?_) (fun hc => ?_)
      · have hf := fw_neg hc hf
        refine lv_iload hx hb dX0_columnValue_46 (lv_at hl 4 rfl) ?_
        obtain ⟨rfl, rfl⟩ := fw_s2 hf
        exact fw_reti X hH dX0_columnValue_48
      · have hf := fw_pos hc hf
        refine lv_iload_n hx hb dX0_columnValue_42 rfl (lv_at hl 3 rfl) ?_
        refine lv_goto (tgt := 48) hx hb dX0_columnValue_43 (by decide) ?_
        obtain ⟨rfl, rfl⟩ := fw_s2 hf
        exact fw_reti X hH dX0_columnValue_48
    · have hf := fw_neg hc1 hf
      refine lv_lookup (off := 48) (tgt := 49) hx hb dX0_columnValue_1 (by decide) (by exact (lv_osw hc0 (by decide)).trans ((lv_osw hc1 (by decide)))) (by decide) ?_
      refine lv_iload_n hx hb dX0_columnValue_49 rfl (lv_at hl 1 rfl) ?_
      refine lv_iconst (v := (2 : Int32)) hx hb dX0_columnValue_50 (by decide) ?_
      refine lv_icmp_ne (tgt := 58) hx hb dX0_columnValue_51 (by decide) (fun hc => ?_) (fun hc => ?_)
      · have hf := fw_neg hc hf
        refine lv_iload_n hx hb dX0_columnValue_58 rfl (lv_at hl 1 rfl) ?_
        refine lv_if_ne (tgt := 69) hx hb dX0_columnValue_59 (by decide) (fun hc => ?_) (fun hc => ?_)
        · have hf := fw_neg hc hf
          refine lv_iload_n hx hb dX0_columnValue_69 rfl (lv_at hl 2 rfl) ?_
          refine lv_iload hx hb dX0_columnValue_70 (lv_at hl 4 rfl) ?_
          refine lv_iadd hx hb dX0_columnValue_72 ?_
          obtain ⟨rfl, rfl⟩ := fw_s2 hf
          exact fw_reti X hH dX0_columnValue_73
        · have hf := fw_pos hc hf
          refine lv_iload_n hx hb dX0_columnValue_62 rfl (lv_at hl 2 rfl) ?_
          refine lv_iload hx hb dX0_columnValue_63 (lv_at hl 4 rfl) ?_
          refine lv_isub hx hb dX0_columnValue_65 ?_
          refine lv_goto (tgt := 73) hx hb dX0_columnValue_66 (by decide) ?_
          obtain ⟨rfl, rfl⟩ := fw_s2 hf
          exact fw_reti X hH dX0_columnValue_73
      · have hf := fw_pos hc hf
        refine lv_iload_n hx hb dX0_columnValue_54 rfl (lv_at hl 3 rfl) ?_
        refine lv_goto (tgt := 73) hx hb dX0_columnValue_55 (by decide) ?_
        obtain ⟨rfl, rfl⟩ := fw_s2 hf
        exact fw_reti X hH dX0_columnValue_73
abbrev rmX0_compare : Room := { frames := 0, cells := 0, slots := 0, locals := 0 }
theorem qX0_compare : fw_QS yX0_compare cX0_compare 3 (some .boolean) 3 := ⟨⟨tw_2_123, tw_1_6, tw_2_124⟩, by decide +kernel⟩
def pX0_compare (x0 : Int32) (x1 : Int32) (x2 : Int32) (σ : fw_T) : Option (Int32 × fw_T) :=
  if x1 = (0 : Int32) then
    if x2 < x0 then
      fw_rz (0 : Int32) σ
    else
      fw_rz (1 : Int32) σ
  else
    if x1 = (1 : Int32) then
      if x0 < x2 then
        fw_rz (0 : Int32) σ
      else
        fw_rz (1 : Int32) σ
    else
      if x1 = (2 : Int32) then
        if x0 = x2 then
          fw_rz (1 : Int32) σ
        else
          fw_rz (0 : Int32) σ
      else
        if x0 = x2 then
          fw_rz (0 : Int32) σ
        else
          fw_rz (1 : Int32) σ
set_option maxRecDepth 100000 in
set_option maxHeartbeats 4000000 in
theorem kX0_compare {x0 : Int32} {x1 : Int32} {x2 : Int32} {r : Int32} {σ σ' : fw_T} (hf : pX0_compare x0 x1 x2 σ = some (r, σ')) : fw_Ci l yX0_compare (Cond.code yX0_compare cX0_compare 3 (some .boolean) :: lwT) rmX0_compare [.int x0, .int x1, .int x2] D 96 adr (fw_C cI cO adr) (fcT cI cO) nwC σ r σ' := by
  refine fw_start (Qc := (fun A => va_Qi (fun r' (_ : Unit) => r' = r) (fun _ t => va_P D vwCl (fw_ws 96 adr (fw_C cI cO adr σ')) t.heap) A)) (by decide) (by simp [lg_sl, Value.category]) rfl ?_
  intro p e s m below meth c A X hH ls hl
  have hx := X.1.1
  have hb := X.1.2.1
  have hl : lv_has ls 3 [(0, .int x0), (1, .int x1), (2, .int x2)] := hl
  unfold pX0_compare at hf
  refine lv_iload_n hx hb dX0_compare_0 rfl (lv_at hl 1 rfl) ?_
  by_cases hc0 : x1 = (0 : Int32)
  · have hf := fw_pos hc0 hf
    refine lv_tableIn (off := 27) (tgt := 28) hx hb dX0_compare_1 (by rw [hc0]; decide) (by rw [hc0]; decide) (by rw [hc0]; decide) (by decide) ?_
    refine lv_iload_n hx hb dX0_compare_28 rfl (lv_at hl 0 rfl) ?_
    refine lv_iload_n hx hb dX0_compare_29 rfl (lv_at hl 2 rfl) ?_
    refine lv_icmp_gt (tgt := 37) hx hb dX0_compare_30 (by decide) (fun hc => ?_) (fun hc => ?_)
    · have hf := fw_pos hc hf
      refine lv_iconst (v := (0 : Int32)) hx hb dX0_compare_37 (by decide) ?_
      obtain ⟨rfl, rfl, hz⟩ := fw_rzs hf
      exact fw_retz X hH hz dX0_compare_38
    · have hf := fw_neg hc hf
      refine lv_iconst (v := (1 : Int32)) hx hb dX0_compare_33 (by decide) ?_
      refine lv_goto (tgt := 38) hx hb dX0_compare_34 (by decide) ?_
      obtain ⟨rfl, rfl, hz⟩ := fw_rzs hf
      exact fw_retz X hH hz dX0_compare_38
  · have hf := fw_neg hc0 hf
    by_cases hc1 : x1 = (1 : Int32)
    · have hf := fw_pos hc1 hf
      refine lv_tableIn (off := 38) (tgt := 39) hx hb dX0_compare_1 (by rw [hc1]; decide) (by rw [hc1]; decide) (by rw [hc1]; decide) (by decide) ?_
      refine lv_iload_n hx hb dX0_compare_39 rfl (lv_at hl 0 rfl) ?_
      refine lv_iload_n hx hb dX0_compare_40 rfl (lv_at hl 2 rfl) ?_
      refine lv_icmp_lt (tgt := 48) hx hb dX0_compare_41 (by decide) (fun hc => ?_) (fun hc => ?_)
      · have hf := fw_pos hc hf
        refine lv_iconst (v := (0 : Int32)) hx hb dX0_compare_48 (by decide) ?_
        obtain ⟨rfl, rfl, hz⟩ := fw_rzs hf
        exact fw_retz X hH hz dX0_compare_49
      · have hf := fw_neg hc hf
        refine lv_iconst (v := (1 : Int32)) hx hb dX0_compare_44 (by decide) ?_
        refine lv_goto (tgt := 49) hx hb dX0_compare_45 (by decide) ?_
        obtain ⟨rfl, rfl, hz⟩ := fw_rzs hf
        exact fw_retz X hH hz dX0_compare_49
    · have hf := fw_neg hc1 hf
      by_cases hc2 : x1 = (2 : Int32)
      · have hf := fw_pos hc2 hf
        refine lv_tableIn (off := 49) (tgt := 50) hx hb dX0_compare_1 (by rw [hc2]; decide) (by rw [hc2]; decide) (by rw [hc2]; decide) (by decide) ?_
        refine lv_iload_n hx hb dX0_compare_50 rfl (lv_at hl 0 rfl) ?_
        refine lv_iload_n hx hb dX0_compare_51 rfl (lv_at hl 2 rfl) ?_
        refine lv_icmp_ne (tgt := 59) hx hb dX0_compare_52 (by decide) (fun hc => ?_) (fun hc => ?_)
        · have hf := fw_neg hc hf
          refine lv_iconst (v := (0 : Int32)) hx hb dX0_compare_59 (by decide) ?_
          obtain ⟨rfl, rfl, hz⟩ := fw_rzs hf
          exact fw_retz X hH hz dX0_compare_60
        · have hf := fw_pos hc hf
          refine lv_iconst (v := (1 : Int32)) hx hb dX0_compare_55 (by decide) ?_
          refine lv_goto (tgt := 60) hx hb dX0_compare_56 (by decide) ?_
          obtain ⟨rfl, rfl, hz⟩ := fw_rzs hf
          exact fw_retz X hH hz dX0_compare_60
      · have hf := fw_neg hc2 hf
        refine lv_tableOut (tgt := 61) hx hb dX0_compare_1 (by have e0 := lv_neT hc0 (a := 0) (by decide); have e1 := lv_neT hc1 (a := 1) (by decide); have e2 := lv_neT hc2 (a := 2) (by decide); omega) (by decide) ?_
        refine lv_iload_n hx hb dX0_compare_61 rfl (lv_at hl 0 rfl) ?_
        refine lv_iload_n hx hb dX0_compare_62 rfl (lv_at hl 2 rfl) ?_
        refine lv_icmp_eq (tgt := 70) hx hb dX0_compare_63 (by decide) (fun hc => ?_) (fun hc => ?_)
        · have hf := fw_pos hc hf
          refine lv_iconst (v := (0 : Int32)) hx hb dX0_compare_70 (by decide) ?_
          obtain ⟨rfl, rfl, hz⟩ := fw_rzs hf
          exact fw_retz X hH hz dX0_compare_71
        · have hf := fw_neg hc hf
          refine lv_iconst (v := (1 : Int32)) hx hb dX0_compare_66 (by decide) ?_
          refine lv_goto (tgt := 71) hx hb dX0_compare_67 (by decide) ?_
          obtain ⟨rfl, rfl, hz⟩ := fw_rzs hf
          exact fw_retz X hH hz dX0_compare_71
abbrev rmX0_accepts : Room := { frames := 1, cells := 0, slots := 0, locals := 24 }
theorem qX0_accepts : fw_QV RX0 yX0_accepts cX0_accepts 5 (some .boolean) 4 := ⟨⟨tw_2_116, tw_2_117, tw_1_6, tw_2_118⟩, by decide +kernel⟩
def pX0_accepts (h : Nat) (x1 : Int32) (x2 : Int32) (x3 : Int32) (x4 : Int32) (σ : fw_T) : Option (Int32 × fw_T) :=
  fw_b2 (pX0_holds h x1 σ) fun w3 τ2 =>
  if w3 = 0 then
    fw_rz (0 : Int32) τ2
  else
    (fw_rd τ2 (h + 1) 6 x1).bind fun w4 =>
    (fw_rd τ2 (h + 2) 6 x1).bind fun w6 =>
    fw_b2 (pX0_columnValue w4 w6 x2 x3 x4 τ2) fun w10 τ9 =>
    (fw_rd τ9 (h + 3) 6 x1).bind fun w11 =>
    (fw_rd τ9 (h + 4) 6 x1).bind fun w13 =>
    fw_b2 (pX0_compare w10 w11 w13 τ9) fun w17 τ16 =>
    if w17 = 0 then
      fw_rz (0 : Int32) τ16
    else
      fw_rz (1 : Int32) τ16
set_option maxRecDepth 100000 in
set_option maxHeartbeats 4000000 in
theorem kX0_accepts {h : Nat} (hk : fw_FL h) {x1 : Int32} {x2 : Int32} {x3 : Int32} {x4 : Int32} {r : Int32} {σ σ' : fw_T} (hf : pX0_accepts h x1 x2 x3 x4 σ = some (r, σ')) : fw_Ci l yX0_accepts (Cond.code yX0_accepts cX0_accepts 5 (some .boolean) :: lwT) rmX0_accepts [.ref (adr h), .int x1, .int x2, .int x3, .int x4] D 96 adr (fw_C cI cO adr) (fcT cI cO) nwC σ r σ' := by
  refine fw_start (Qc := (fun A => va_Qi (fun r' (_ : Unit) => r' = r) (fun _ t => va_P D vwCl (fw_ws 96 adr (fw_C cI cO adr σ')) t.heap) A)) (by decide) (by simp [lg_sl, Value.category]) rfl ?_
  intro p e s m below meth c A X hH ls hl
  have hx := X.1.1
  have hb := X.1.2.1
  have hl : lv_has ls 5 [(0, .ref (adr h)), (1, .int x1), (2, .int x2), (3, .int x3), (4, .int x4)] := hl
  unfold pX0_accepts at hf
  refine lv_aload_n hx hb dX0_accepts_0 rfl (lv_at hl 0 rfl) ?_
  refine lv_iload_n hx hb dX0_accepts_1 rfl (lv_at hl 1 rfl) ?_
  obtain ⟨w3, τ2, g1, hf⟩ := fw_b2s hf
  refine fw_ci hH (fw_rV (As := [.int x1]) (rest := []) (id := h) X hH (kX0_holds hk g1 _) qX0_holds tw_2_65 ⟨Nat.le_of_ble_eq_true rfl, Nat.le_of_ble_eq_true rfl⟩ rfl rfl hk.2.1 (fc_15 hk.1) rfl rfl hl.1 rfl (Nat.le_of_ble_eq_true rfl) dX0_accepts_2) (fun H locs hH => ?_)
  refine lv_if_eq (tgt := 49) hx hb dX0_accepts_5 (by decide) (fun hc => ?_) (fun hc => ?_)
  · have hf := fw_pos hc hf
    refine lv_iconst (v := (0 : Int32)) hx hb dX0_accepts_49 (by decide) ?_
    obtain ⟨rfl, rfl, hz⟩ := fw_rzs hf
    exact fw_retz X hH hz dX0_accepts_50
  · have hf := fw_neg hc hf
    refine lv_aload_n hx hb dX0_accepts_8 rfl (lv_at hl 0 rfl) ?_
    refine fw_get (id := h) (k := 0) (v := .ref (adr (h + 1))) X hH hk.2.1 (fc_15 hk.1) rfl inX0 (by decide) rfl tw_1_62 dX0_accepts_9 ?_
    refine lv_iload_n hx hb dX0_accepts_12 rfl (lv_at hl 1 rfl) ?_
    obtain ⟨w4, g5, hf⟩ := fw_bd hf
    refine fw_iald (id := (h + 1)) (n := 6) X hH hk.2.2.1.2 (fc_16 hk.2.2.1.1) rfl g5 dX0_accepts_13 ?_
    refine lv_aload_n hx hb dX0_accepts_14 rfl (lv_at hl 0 rfl) ?_
    refine fw_get (id := h) (k := 1) (v := .ref (adr (h + 2))) X hH hk.2.1 (fc_15 hk.1) rfl inX0 (by decide) rfl tw_1_64 dX0_accepts_15 ?_
    refine lv_iload_n hx hb dX0_accepts_18 rfl (lv_at hl 1 rfl) ?_
    obtain ⟨w6, g7, hf⟩ := fw_bd hf
    refine fw_iald (id := (h + 2)) (n := 6) X hH hk.2.2.2.1.2 (fc_16 hk.2.2.2.1.1) rfl g7 dX0_accepts_19 ?_
    refine lv_iload_n hx hb dX0_accepts_20 rfl (lv_at hl 2 rfl) ?_
    refine lv_iload_n hx hb dX0_accepts_21 rfl (lv_at hl 3 rfl) ?_
    refine lv_iload hx hb dX0_accepts_22 (lv_at hl 4 rfl) ?_
    obtain ⟨w10, τ9, g8, hf⟩ := fw_b2s hf
    refine fw_ci hH (fw_rS (As := [.int w4, .int w6, .int x2, .int x3, .int x4]) (rest := []) X hH (kX0_columnValue  g8 _) qX0_columnValue tw_2_119 ⟨Nat.le_of_ble_eq_true rfl, Nat.le_of_ble_eq_true rfl⟩ rfl rfl rfl hl.1 rfl (Nat.le_of_ble_eq_true rfl) dX0_accepts_24) (fun H locs hH => ?_)
    refine lv_aload_n hx hb dX0_accepts_27 rfl (lv_at hl 0 rfl) ?_
    refine fw_get (id := h) (k := 2) (v := .ref (adr (h + 3))) X hH hk.2.1 (fc_15 hk.1) rfl inX0 (by decide) rfl tw_1_66 dX0_accepts_28 ?_
    refine lv_iload_n hx hb dX0_accepts_31 rfl (lv_at hl 1 rfl) ?_
    obtain ⟨w11, g12, hf⟩ := fw_bd hf
    refine fw_iald (id := (h + 3)) (n := 6) X hH hk.2.2.2.2.1.2 (fc_16 hk.2.2.2.2.1.1) rfl g12 dX0_accepts_32 ?_
    refine lv_aload_n hx hb dX0_accepts_33 rfl (lv_at hl 0 rfl) ?_
    refine fw_get (id := h) (k := 3) (v := .ref (adr (h + 4))) X hH hk.2.1 (fc_15 hk.1) rfl inX0 (by decide) rfl tw_1_68 dX0_accepts_34 ?_
    refine lv_iload_n hx hb dX0_accepts_37 rfl (lv_at hl 1 rfl) ?_
    obtain ⟨w13, g14, hf⟩ := fw_bd hf
    refine fw_iald (id := (h + 4)) (n := 6) X hH hk.2.2.2.2.2.2 (fc_16 hk.2.2.2.2.2.1) rfl g14 dX0_accepts_38 ?_
    obtain ⟨w17, τ16, g15, hf⟩ := fw_b2s hf
    refine fw_ci hH (fw_rS (As := [.int w10, .int w11, .int w13]) (rest := []) X hH (kX0_compare  g15 _) qX0_compare tw_2_122 ⟨Nat.le_of_ble_eq_true rfl, Nat.le_of_ble_eq_true rfl⟩ rfl rfl rfl hl.1 rfl (Nat.le_of_ble_eq_true rfl) dX0_accepts_39) (fun H locs hH => ?_)
    refine lv_if_eq (tgt := 49) hx hb dX0_accepts_42 (by decide) (fun hc => ?_) (fun hc => ?_)
    · have hf := fw_pos hc hf
      refine lv_iconst (v := (0 : Int32)) hx hb dX0_accepts_49 (by decide) ?_
      obtain ⟨rfl, rfl, hz⟩ := fw_rzs hf
      exact fw_retz X hH hz dX0_accepts_50
    · have hf := fw_neg hc hf
      refine lv_iconst (v := (1 : Int32)) hx hb dX0_accepts_45 (by decide) ?_
      refine lv_goto (tgt := 50) hx hb dX0_accepts_46 (by decide) ?_
      obtain ⟨rfl, rfl, hz⟩ := fw_rzs hf
      exact fw_retz X hH hz dX0_accepts_50
abbrev rmX3_countAcceptedLeft : Room := { frames := 2, cells := 0, slots := 0, locals := 48 }
theorem qX3_countAcceptedLeft : fw_QV RX3 yX3_countAcceptedLeft cX3_countAcceptedLeft 4 (some .int) 1 := ⟨⟨tw_2_104, tv_X3_countAcceptedLeft, tw_1_2, tw_2_105⟩, by decide +kernel⟩
def pX3_countAcceptedLeft_4 : Nat → Int32 → Int32 → Int32 → fw_T → Option (Int32 × fw_T)
  | 0, _, _, _, _ => none
  | n + 1, x1, x2, x3, σ =>
    if (fw_g σ 13 2) ≤ x3 then
      some (x2, σ)
    else
      fw_b2 (pX2_firstAt 13 x3 σ) fun w3 τ2 =>
      fw_b2 (pX2_secondAt 13 x3 τ2) fun w6 τ5 =>
      fw_b2 (pX0_accepts 17 x1 w3 w6 (0 : Int32) τ5) fun w9 τ8 =>
      if w9 = 0 then
        pX3_countAcceptedLeft_4 n x1 x2 (x3 + (1 : Int32)) τ8
      else
        pX3_countAcceptedLeft_4 n x1 (x2 + (1 : Int32)) (x3 + (1 : Int32)) τ8
set_option maxRecDepth 100000 in
set_option maxHeartbeats 4000000 in
theorem wX3_countAcceptedLeft_4 {args : Array Value} {r : Int32} {σ' : fw_T} (X : fcX p m c cX3_countAcceptedLeft 4 s args RX3 meth (some .int) D cI cO)  : ∀ (n : Nat), ∀ (x1 : Int32), ∀ (x2 : Int32), ∀ (x3 : Int32), ∀ (σ : fw_T), pX3_countAcceptedLeft_4 n x1 x2 x3 σ = some (r, σ') → ∀ (H : Heap) (locs : List Loc) (ls : Array Slot), fcH D cI cO adr A s H locs σ → lv_has ls 4 [(0, .ref (adr 1)), (1, .int x1), (2, .int x2), (3, .int x3)] → W p l e rmX3_countAcceptedLeft s m args below meth c H locs 0 0 (fw_Qi D 96 adr (fw_C cI cO adr) A below args s r σ') (F0 m 4 ls []) := by
  have hx := X.1.1
  have hb := X.1.2.1
  intro n
  induction n with
  | zero =>
    intro x1 x2 x3 σ hf
    exact absurd hf (by simp [pX3_countAcceptedLeft_4])
  | succ n ih =>
    intro x1 x2 x3 σ hf H locs ls hH hl
    rw [pX3_countAcceptedLeft_4] at hf
    refine lv_iload_n hx hb dX3_countAcceptedLeft_4 rfl (lv_at hl 3 rfl) ?_
    refine lv_aload_n hx hb dX3_countAcceptedLeft_5 rfl (lv_at hl 0 rfl) ?_
    refine fw_get (id := 1) (k := 0) (v := .ref (adr 12)) X hH (by decide) (fc_1 (by decide)) rfl inX3 (by decide) rfl tw_1_105 dX3_countAcceptedLeft_6 ?_
    refine fw_getN (id := 12) (k := 0) (v := .ref (adr 13)) X hH (by decide) (fc_12 (by decide)) rfl inX5 (by decide) rfl nw_1_86 dX3_countAcceptedLeft_9 ?_
    refine fw_getN (id := 13) (k := 2) (v := .int (fw_g σ 13 2)) X hH (by decide) (fc_13 (by decide)) rfl inX2 (by decide) rfl nw_1_46 dX3_countAcceptedLeft_12 ?_
    refine lv_icmp_ge (tgt := 64) hx hb dX3_countAcceptedLeft_15 (by decide) (fun hc => ?_) (fun hc => ?_)
    · have hf := fw_pos hc hf
      refine lv_iload_n hx hb dX3_countAcceptedLeft_64 rfl (lv_at hl 2 rfl) ?_
      obtain ⟨rfl, rfl⟩ := fw_s2 hf
      exact fw_reti X hH dX3_countAcceptedLeft_65
    · have hf := fw_neg hc hf
      refine lv_aload_n hx hb dX3_countAcceptedLeft_18 rfl (lv_at hl 0 rfl) ?_
      refine fw_get (id := 1) (k := 0) (v := .ref (adr 12)) X hH (by decide) (fc_1 (by decide)) rfl inX3 (by decide) rfl tw_1_105 dX3_countAcceptedLeft_19 ?_
      refine fw_getN (id := 12) (k := 2) (v := .ref (adr 17)) X hH (by decide) (fc_12 (by decide)) rfl inX5 (by decide) rfl nw_1_91 dX3_countAcceptedLeft_22 ?_
      refine lv_iload_n hx hb dX3_countAcceptedLeft_25 rfl (lv_at hl 1 rfl) ?_
      refine lv_aload_n hx hb dX3_countAcceptedLeft_26 rfl (lv_at hl 0 rfl) ?_
      refine fw_get (id := 1) (k := 0) (v := .ref (adr 12)) X hH (by decide) (fc_1 (by decide)) rfl inX3 (by decide) rfl tw_1_105 dX3_countAcceptedLeft_27 ?_
      refine fw_getN (id := 12) (k := 0) (v := .ref (adr 13)) X hH (by decide) (fc_12 (by decide)) rfl inX5 (by decide) rfl nw_1_86 dX3_countAcceptedLeft_30 ?_
      refine lv_iload_n hx hb dX3_countAcceptedLeft_33 rfl (lv_at hl 3 rfl) ?_
      obtain ⟨w3, τ2, g1, hf⟩ := fw_b2s hf
      refine fw_ci hH (fw_rV (As := [.int x3]) (rest := [.int x1, .ref (adr 17)]) (id := 13) X hH (kX2_firstAt (by unfold fw_PL; decide) g1 _) qX2_firstAt tw_2_106 ⟨Nat.le_of_ble_eq_true rfl, Nat.le_of_ble_eq_true rfl⟩ rfl rfl (by decide) (fc_13 (by decide)) rfl rfl hl.1 rfl (Nat.le_of_ble_eq_true rfl) dX3_countAcceptedLeft_34) (fun H locs hH => ?_)
      refine lv_aload_n hx hb dX3_countAcceptedLeft_37 rfl (lv_at hl 0 rfl) ?_
      refine fw_get (id := 1) (k := 0) (v := .ref (adr 12)) X hH (by decide) (fc_1 (by decide)) rfl inX3 (by decide) rfl tw_1_105 dX3_countAcceptedLeft_38 ?_
      refine fw_getN (id := 12) (k := 0) (v := .ref (adr 13)) X hH (by decide) (fc_12 (by decide)) rfl inX5 (by decide) rfl nw_1_86 dX3_countAcceptedLeft_41 ?_
      refine lv_iload_n hx hb dX3_countAcceptedLeft_44 rfl (lv_at hl 3 rfl) ?_
      obtain ⟨w6, τ5, g4, hf⟩ := fw_b2s hf
      refine fw_ci hH (fw_rV (As := [.int x3]) (rest := [.int w3, .int x1, .ref (adr 17)]) (id := 13) X hH (kX2_secondAt (by unfold fw_PL; decide) g4 _) qX2_secondAt tw_2_111 ⟨Nat.le_of_ble_eq_true rfl, Nat.le_of_ble_eq_true rfl⟩ rfl rfl (by decide) (fc_13 (by decide)) rfl rfl hl.1 rfl (Nat.le_of_ble_eq_true rfl) dX3_countAcceptedLeft_45) (fun H locs hH => ?_)
      refine lv_iconst (v := (0 : Int32)) hx hb dX3_countAcceptedLeft_48 (by decide) ?_
      obtain ⟨w9, τ8, g7, hf⟩ := fw_b2s hf
      refine fw_ci hH (fw_rV (As := [.int x1, .int w3, .int w6, .int (0 : Int32)]) (rest := []) (id := 17) X hH (kX0_accepts (by unfold fw_FL; decide) g7 _) qX0_accepts tw_2_115 ⟨Nat.le_of_ble_eq_true rfl, Nat.le_of_ble_eq_true rfl⟩ rfl rfl (by decide) (fc_15 (by decide)) rfl rfl hl.1 rfl (Nat.le_of_ble_eq_true rfl) dX3_countAcceptedLeft_49) (fun H locs hH => ?_)
      refine lv_if_eq (tgt := 58) hx hb dX3_countAcceptedLeft_52 (by decide) (fun hc => ?_) (fun hc => ?_)
      · have hf := fw_pos hc hf
        refine lv_iinc (v := (x3 + (1 : Int32))) (lv' := [(3, .int (x3 + (1 : Int32))), (0, .ref (adr 1)), (1, .int x1), (2, .int x2)]) hx hb dX3_countAcceptedLeft_58 hl (k := 3) rfl rfl (by decide) rfl (fun ls hl => ?_)
        refine lv_goto (tgt := 4) hx hb dX3_countAcceptedLeft_61 (by decide) ?_
        exact ih x1 x2 (x3 + (1 : Int32)) τ8 hf _ _ _ hH (lv_sub hl [1, 2, 3, 0] rfl)
      · have hf := fw_neg hc hf
        refine lv_iinc (v := (x2 + (1 : Int32))) (lv' := [(2, .int (x2 + (1 : Int32))), (0, .ref (adr 1)), (1, .int x1), (3, .int x3)]) hx hb dX3_countAcceptedLeft_55 hl (k := 2) rfl rfl (by decide) rfl (fun ls hl => ?_)
        refine lv_iinc (v := (x3 + (1 : Int32))) (lv' := [(3, .int (x3 + (1 : Int32))), (2, .int (x2 + (1 : Int32))), (0, .ref (adr 1)), (1, .int x1)]) hx hb dX3_countAcceptedLeft_58 hl (k := 3) rfl rfl (by decide) rfl (fun ls hl => ?_)
        refine lv_goto (tgt := 4) hx hb dX3_countAcceptedLeft_61 (by decide) ?_
        exact ih x1 (x2 + (1 : Int32)) (x3 + (1 : Int32)) τ8 hf _ _ _ hH (lv_sub hl [2, 3, 1, 0] rfl)
def pX3_countAcceptedLeft (x1 : Int32) (σ : fw_T) : Option (Int32 × fw_T) :=
  pX3_countAcceptedLeft_4 400 x1 (0 : Int32) (0 : Int32) σ
set_option maxRecDepth 100000 in
set_option maxHeartbeats 4000000 in
theorem kX3_countAcceptedLeft {x1 : Int32} {r : Int32} {σ σ' : fw_T} (hf : pX3_countAcceptedLeft x1 σ = some (r, σ')) : fw_Ci l yX3_countAcceptedLeft (Cond.code yX3_countAcceptedLeft cX3_countAcceptedLeft 4 (some .int) :: lwT) rmX3_countAcceptedLeft [.ref (adr 1), .int x1] D 96 adr (fw_C cI cO adr) (fcT cI cO) nwC σ r σ' := by
  refine fw_start (Qc := (fun A => va_Qi (fun r' (_ : Unit) => r' = r) (fun _ t => va_P D vwCl (fw_ws 96 adr (fw_C cI cO adr σ')) t.heap) A)) (by decide) (by simp [lg_sl, Value.category]) rfl ?_
  intro p e s m below meth c A X hH ls hl
  have hx := X.1.1
  have hb := X.1.2.1
  have hl : lv_has ls 4 [(0, .ref (adr 1)), (1, .int x1)] := hl
  unfold pX3_countAcceptedLeft at hf
  refine lv_iconst (v := (0 : Int32)) hx hb dX3_countAcceptedLeft_0 (by decide) ?_
  refine lv_istore_n (lv' := [(2, .int (0 : Int32)), (0, .ref (adr 1)), (1, .int x1)]) hx hb dX3_countAcceptedLeft_1 rfl hl (by decide) rfl (fun ls hl => ?_)
  refine lv_iconst (v := (0 : Int32)) hx hb dX3_countAcceptedLeft_2 (by decide) ?_
  refine lv_istore_n (lv' := [(3, .int (0 : Int32)), (2, .int (0 : Int32)), (0, .ref (adr 1)), (1, .int x1)]) hx hb dX3_countAcceptedLeft_3 rfl hl (by decide) rfl (fun ls hl => ?_)
  exact wX3_countAcceptedLeft_4 X 400 x1 (0 : Int32) (0 : Int32) σ hf _ _ _ hH (lv_sub hl [2, 3, 1, 0] rfl)
abbrev rmX3_countAcceptedRight : Room := { frames := 2, cells := 0, slots := 0, locals := 48 }
theorem qX3_countAcceptedRight : fw_QV RX3 yX3_countAcceptedRight cX3_countAcceptedRight 4 (some .int) 1 := ⟨⟨tw_2_127, tv_X3_countAcceptedRight, tw_1_2, tw_2_128⟩, by decide +kernel⟩
def pX3_countAcceptedRight_4 : Nat → Int32 → Int32 → Int32 → fw_T → Option (Int32 × fw_T)
  | 0, _, _, _, _ => none
  | n + 1, x1, x2, x3, σ =>
    if (fw_g σ 15 2) ≤ x3 then
      some (x2, σ)
    else
      fw_b2 (pX2_firstAt 15 x3 σ) fun w3 τ2 =>
      fw_b2 (pX2_secondAt 15 x3 τ2) fun w6 τ5 =>
      fw_b2 (pX0_accepts 17 x1 (0 : Int32) w3 w6 τ5) fun w9 τ8 =>
      if w9 = 0 then
        pX3_countAcceptedRight_4 n x1 x2 (x3 + (1 : Int32)) τ8
      else
        pX3_countAcceptedRight_4 n x1 (x2 + (1 : Int32)) (x3 + (1 : Int32)) τ8
set_option maxRecDepth 100000 in
set_option maxHeartbeats 4000000 in
theorem wX3_countAcceptedRight_4 {args : Array Value} {r : Int32} {σ' : fw_T} (X : fcX p m c cX3_countAcceptedRight 4 s args RX3 meth (some .int) D cI cO)  : ∀ (n : Nat), ∀ (x1 : Int32), ∀ (x2 : Int32), ∀ (x3 : Int32), ∀ (σ : fw_T), pX3_countAcceptedRight_4 n x1 x2 x3 σ = some (r, σ') → ∀ (H : Heap) (locs : List Loc) (ls : Array Slot), fcH D cI cO adr A s H locs σ → lv_has ls 4 [(0, .ref (adr 1)), (1, .int x1), (2, .int x2), (3, .int x3)] → W p l e rmX3_countAcceptedRight s m args below meth c H locs 0 0 (fw_Qi D 96 adr (fw_C cI cO adr) A below args s r σ') (F0 m 4 ls []) := by
  have hx := X.1.1
  have hb := X.1.2.1
  intro n
  induction n with
  | zero =>
    intro x1 x2 x3 σ hf
    exact absurd hf (by simp [pX3_countAcceptedRight_4])
  | succ n ih =>
    intro x1 x2 x3 σ hf H locs ls hH hl
    rw [pX3_countAcceptedRight_4] at hf
    refine lv_iload_n hx hb dX3_countAcceptedRight_4 rfl (lv_at hl 3 rfl) ?_
    refine lv_aload_n hx hb dX3_countAcceptedRight_5 rfl (lv_at hl 0 rfl) ?_
    refine fw_get (id := 1) (k := 0) (v := .ref (adr 12)) X hH (by decide) (fc_1 (by decide)) rfl inX3 (by decide) rfl tw_1_105 dX3_countAcceptedRight_6 ?_
    refine fw_getN (id := 12) (k := 1) (v := .ref (adr 15)) X hH (by decide) (fc_12 (by decide)) rfl inX5 (by decide) rfl nw_1_89 dX3_countAcceptedRight_9 ?_
    refine fw_getN (id := 15) (k := 2) (v := .int (fw_g σ 15 2)) X hH (by decide) (fc_13 (by decide)) rfl inX2 (by decide) rfl nw_1_46 dX3_countAcceptedRight_12 ?_
    refine lv_icmp_ge (tgt := 64) hx hb dX3_countAcceptedRight_15 (by decide) (fun hc => ?_) (fun hc => ?_)
    · have hf := fw_pos hc hf
      refine lv_iload_n hx hb dX3_countAcceptedRight_64 rfl (lv_at hl 2 rfl) ?_
      obtain ⟨rfl, rfl⟩ := fw_s2 hf
      exact fw_reti X hH dX3_countAcceptedRight_65
    · have hf := fw_neg hc hf
      refine lv_aload_n hx hb dX3_countAcceptedRight_18 rfl (lv_at hl 0 rfl) ?_
      refine fw_get (id := 1) (k := 0) (v := .ref (adr 12)) X hH (by decide) (fc_1 (by decide)) rfl inX3 (by decide) rfl tw_1_105 dX3_countAcceptedRight_19 ?_
      refine fw_getN (id := 12) (k := 2) (v := .ref (adr 17)) X hH (by decide) (fc_12 (by decide)) rfl inX5 (by decide) rfl nw_1_91 dX3_countAcceptedRight_22 ?_
      refine lv_iload_n hx hb dX3_countAcceptedRight_25 rfl (lv_at hl 1 rfl) ?_
      refine lv_iconst (v := (0 : Int32)) hx hb dX3_countAcceptedRight_26 (by decide) ?_
      refine lv_aload_n hx hb dX3_countAcceptedRight_27 rfl (lv_at hl 0 rfl) ?_
      refine fw_get (id := 1) (k := 0) (v := .ref (adr 12)) X hH (by decide) (fc_1 (by decide)) rfl inX3 (by decide) rfl tw_1_105 dX3_countAcceptedRight_28 ?_
      refine fw_getN (id := 12) (k := 1) (v := .ref (adr 15)) X hH (by decide) (fc_12 (by decide)) rfl inX5 (by decide) rfl nw_1_89 dX3_countAcceptedRight_31 ?_
      refine lv_iload_n hx hb dX3_countAcceptedRight_34 rfl (lv_at hl 3 rfl) ?_
      obtain ⟨w3, τ2, g1, hf⟩ := fw_b2s hf
      refine fw_ci hH (fw_rV (As := [.int x3]) (rest := [.int (0 : Int32), .int x1, .ref (adr 17)]) (id := 15) X hH (kX2_firstAt (by unfold fw_PL; decide) g1 _) qX2_firstAt tw_2_106 ⟨Nat.le_of_ble_eq_true rfl, Nat.le_of_ble_eq_true rfl⟩ rfl rfl (by decide) (fc_13 (by decide)) rfl rfl hl.1 rfl (Nat.le_of_ble_eq_true rfl) dX3_countAcceptedRight_35) (fun H locs hH => ?_)
      refine lv_aload_n hx hb dX3_countAcceptedRight_38 rfl (lv_at hl 0 rfl) ?_
      refine fw_get (id := 1) (k := 0) (v := .ref (adr 12)) X hH (by decide) (fc_1 (by decide)) rfl inX3 (by decide) rfl tw_1_105 dX3_countAcceptedRight_39 ?_
      refine fw_getN (id := 12) (k := 1) (v := .ref (adr 15)) X hH (by decide) (fc_12 (by decide)) rfl inX5 (by decide) rfl nw_1_89 dX3_countAcceptedRight_42 ?_
      refine lv_iload_n hx hb dX3_countAcceptedRight_45 rfl (lv_at hl 3 rfl) ?_
      obtain ⟨w6, τ5, g4, hf⟩ := fw_b2s hf
      refine fw_ci hH (fw_rV (As := [.int x3]) (rest := [.int w3, .int (0 : Int32), .int x1, .ref (adr 17)]) (id := 15) X hH (kX2_secondAt (by unfold fw_PL; decide) g4 _) qX2_secondAt tw_2_111 ⟨Nat.le_of_ble_eq_true rfl, Nat.le_of_ble_eq_true rfl⟩ rfl rfl (by decide) (fc_13 (by decide)) rfl rfl hl.1 rfl (Nat.le_of_ble_eq_true rfl) dX3_countAcceptedRight_46) (fun H locs hH => ?_)
      obtain ⟨w9, τ8, g7, hf⟩ := fw_b2s hf
      refine fw_ci hH (fw_rV (As := [.int x1, .int (0 : Int32), .int w3, .int w6]) (rest := []) (id := 17) X hH (kX0_accepts (by unfold fw_FL; decide) g7 _) qX0_accepts tw_2_115 ⟨Nat.le_of_ble_eq_true rfl, Nat.le_of_ble_eq_true rfl⟩ rfl rfl (by decide) (fc_15 (by decide)) rfl rfl hl.1 rfl (Nat.le_of_ble_eq_true rfl) dX3_countAcceptedRight_49) (fun H locs hH => ?_)
      refine lv_if_eq (tgt := 58) hx hb dX3_countAcceptedRight_52 (by decide) (fun hc => ?_) (fun hc => ?_)
      · have hf := fw_pos hc hf
        refine lv_iinc (v := (x3 + (1 : Int32))) (lv' := [(3, .int (x3 + (1 : Int32))), (0, .ref (adr 1)), (1, .int x1), (2, .int x2)]) hx hb dX3_countAcceptedRight_58 hl (k := 3) rfl rfl (by decide) rfl (fun ls hl => ?_)
        refine lv_goto (tgt := 4) hx hb dX3_countAcceptedRight_61 (by decide) ?_
        exact ih x1 x2 (x3 + (1 : Int32)) τ8 hf _ _ _ hH (lv_sub hl [1, 2, 3, 0] rfl)
      · have hf := fw_neg hc hf
        refine lv_iinc (v := (x2 + (1 : Int32))) (lv' := [(2, .int (x2 + (1 : Int32))), (0, .ref (adr 1)), (1, .int x1), (3, .int x3)]) hx hb dX3_countAcceptedRight_55 hl (k := 2) rfl rfl (by decide) rfl (fun ls hl => ?_)
        refine lv_iinc (v := (x3 + (1 : Int32))) (lv' := [(3, .int (x3 + (1 : Int32))), (2, .int (x2 + (1 : Int32))), (0, .ref (adr 1)), (1, .int x1)]) hx hb dX3_countAcceptedRight_58 hl (k := 3) rfl rfl (by decide) rfl (fun ls hl => ?_)
        refine lv_goto (tgt := 4) hx hb dX3_countAcceptedRight_61 (by decide) ?_
        exact ih x1 (x2 + (1 : Int32)) (x3 + (1 : Int32)) τ8 hf _ _ _ hH (lv_sub hl [2, 3, 1, 0] rfl)
def pX3_countAcceptedRight (x1 : Int32) (σ : fw_T) : Option (Int32 × fw_T) :=
  pX3_countAcceptedRight_4 400 x1 (0 : Int32) (0 : Int32) σ
set_option maxRecDepth 100000 in
set_option maxHeartbeats 4000000 in
theorem kX3_countAcceptedRight {x1 : Int32} {r : Int32} {σ σ' : fw_T} (hf : pX3_countAcceptedRight x1 σ = some (r, σ')) : fw_Ci l yX3_countAcceptedRight (Cond.code yX3_countAcceptedRight cX3_countAcceptedRight 4 (some .int) :: lwT) rmX3_countAcceptedRight [.ref (adr 1), .int x1] D 96 adr (fw_C cI cO adr) (fcT cI cO) nwC σ r σ' := by
  refine fw_start (Qc := (fun A => va_Qi (fun r' (_ : Unit) => r' = r) (fun _ t => va_P D vwCl (fw_ws 96 adr (fw_C cI cO adr σ')) t.heap) A)) (by decide) (by simp [lg_sl, Value.category]) rfl ?_
  intro p e s m below meth c A X hH ls hl
  have hx := X.1.1
  have hb := X.1.2.1
  have hl : lv_has ls 4 [(0, .ref (adr 1)), (1, .int x1)] := hl
  unfold pX3_countAcceptedRight at hf
  refine lv_iconst (v := (0 : Int32)) hx hb dX3_countAcceptedRight_0 (by decide) ?_
  refine lv_istore_n (lv' := [(2, .int (0 : Int32)), (0, .ref (adr 1)), (1, .int x1)]) hx hb dX3_countAcceptedRight_1 rfl hl (by decide) rfl (fun ls hl => ?_)
  refine lv_iconst (v := (0 : Int32)) hx hb dX3_countAcceptedRight_2 (by decide) ?_
  refine lv_istore_n (lv' := [(3, .int (0 : Int32)), (2, .int (0 : Int32)), (0, .ref (adr 1)), (1, .int x1)]) hx hb dX3_countAcceptedRight_3 rfl hl (by decide) rfl (fun ls hl => ?_)
  exact wX3_countAcceptedRight_4 X 400 x1 (0 : Int32) (0 : Int32) σ hf _ _ _ hH (lv_sub hl [2, 3, 1, 0] rfl)
abbrev rmX3_countAcceptedJoined : Room := { frames := 2, cells := 0, slots := 0, locals := 48 }
theorem qX3_countAcceptedJoined : fw_QV RX3 yX3_countAcceptedJoined cX3_countAcceptedJoined 7 (some .int) 1 := ⟨⟨tw_2_131, tv_X3_countAcceptedJoined, tw_1_2, tw_2_132⟩, by decide +kernel⟩
def pX3_countAcceptedJoined_47 (K4 : Int32 → Int32 → Int32 → fw_T → Option (Int32 × fw_T)) : Nat → Int32 → Int32 → Int32 → Int32 → Int32 → Int32 → fw_T → Option (Int32 × fw_T)
  | 0, _, _, _, _, _, _, _ => none
  | n + 1, x1, x2, x3, x4, x5, x6, σ =>
    if (fw_g σ 15 2) ≤ x6 then
      K4 x1 x2 (x3 + (1 : Int32)) σ
    else
      fw_b2 (pX2_firstAt 15 x6 σ) fun w9 τ8 =>
      if w9 = x5 then
        fw_b2 (pX2_secondAt 15 x6 τ8) fun w12 τ11 =>
        fw_b2 (pX0_accepts 17 x1 x4 x5 w12 τ11) fun w15 τ14 =>
        if w15 = 0 then
          pX3_countAcceptedJoined_47 K4 n x1 x2 x3 x4 x5 (x6 + (1 : Int32)) τ14
        else
          pX3_countAcceptedJoined_47 K4 n x1 (x2 + (1 : Int32)) x3 x4 x5 (x6 + (1 : Int32)) τ14
      else
        pX3_countAcceptedJoined_47 K4 n x1 x2 x3 x4 x5 (x6 + (1 : Int32)) τ8
set_option maxRecDepth 100000 in
set_option maxHeartbeats 4000000 in
theorem wX3_countAcceptedJoined_47 {args : Array Value} {r : Int32} {σ' : fw_T} {K4 : Int32 → Int32 → Int32 → fw_T → Option (Int32 × fw_T)} (X : fcX p m c cX3_countAcceptedJoined 7 s args RX3 meth (some .int) D cI cO) (hK4 : ∀ (x1 : Int32), ∀ (x2 : Int32), ∀ (x3 : Int32), ∀ (σ : fw_T), K4 x1 x2 x3 σ = some (r, σ') → ∀ (H : Heap) (locs : List Loc) (ls : Array Slot), fcH D cI cO adr A s H locs σ → lv_has ls 7 [(0, .ref (adr 1)), (1, .int x1), (2, .int x2), (3, .int x3)] → W p l e rmX3_countAcceptedJoined s m args below meth c H locs 0 0 (fw_Qi D 96 adr (fw_C cI cO adr) A below args s r σ') (F0 m 4 ls [])) : ∀ (n : Nat), ∀ (x1 : Int32), ∀ (x2 : Int32), ∀ (x3 : Int32), ∀ (x4 : Int32), ∀ (x5 : Int32), ∀ (x6 : Int32), ∀ (σ : fw_T), pX3_countAcceptedJoined_47 K4 n x1 x2 x3 x4 x5 x6 σ = some (r, σ') → ∀ (H : Heap) (locs : List Loc) (ls : Array Slot), fcH D cI cO adr A s H locs σ → lv_has ls 7 [(0, .ref (adr 1)), (1, .int x1), (2, .int x2), (3, .int x3), (4, .int x4), (5, .int x5), (6, .int x6)] → W p l e rmX3_countAcceptedJoined s m args below meth c H locs 0 0 (fw_Qi D 96 adr (fw_C cI cO adr) A below args s r σ') (F0 m 47 ls []) := by
  have hx := X.1.1
  have hb := X.1.2.1
  intro n
  induction n with
  | zero =>
    intro x1 x2 x3 x4 x5 x6 σ hf
    exact absurd hf (by simp [pX3_countAcceptedJoined_47])
  | succ n ih =>
    intro x1 x2 x3 x4 x5 x6 σ hf H locs ls hH hl
    rw [pX3_countAcceptedJoined_47] at hf
    refine lv_iload hx hb dX3_countAcceptedJoined_47 (lv_at hl 6 rfl) ?_
    refine lv_aload_n hx hb dX3_countAcceptedJoined_49 rfl (lv_at hl 0 rfl) ?_
    refine fw_get (id := 1) (k := 0) (v := .ref (adr 12)) X hH (by decide) (fc_1 (by decide)) rfl inX3 (by decide) rfl tw_1_105 dX3_countAcceptedJoined_50 ?_
    refine fw_getN (id := 12) (k := 1) (v := .ref (adr 15)) X hH (by decide) (fc_12 (by decide)) rfl inX5 (by decide) rfl nw_1_89 dX3_countAcceptedJoined_53 ?_
    refine fw_getN (id := 15) (k := 2) (v := .int (fw_g σ 15 2)) X hH (by decide) (fc_13 (by decide)) rfl inX2 (by decide) rfl nw_1_46 dX3_countAcceptedJoined_56 ?_
    refine lv_icmp_ge (tgt := 118) hx hb dX3_countAcceptedJoined_59 (by decide) (fun hc => ?_) (fun hc => ?_)
    · have hf := fw_pos hc hf
      refine lv_iinc (v := (x3 + (1 : Int32))) (lv' := [(3, .int (x3 + (1 : Int32))), (0, .ref (adr 1)), (1, .int x1), (2, .int x2), (4, .int x4), (5, .int x5), (6, .int x6)]) hx hb dX3_countAcceptedJoined_118 hl (k := 3) rfl rfl (by decide) rfl (fun ls hl => ?_)
      refine lv_goto (tgt := 4) hx hb dX3_countAcceptedJoined_121 (by decide) ?_
      exact hK4 x1 x2 (x3 + (1 : Int32)) σ hf _ _ _ hH (lv_sub hl [1, 2, 3, 0] rfl)
    · have hf := fw_neg hc hf
      refine lv_aload_n hx hb dX3_countAcceptedJoined_62 rfl (lv_at hl 0 rfl) ?_
      refine fw_get (id := 1) (k := 0) (v := .ref (adr 12)) X hH (by decide) (fc_1 (by decide)) rfl inX3 (by decide) rfl tw_1_105 dX3_countAcceptedJoined_63 ?_
      refine fw_getN (id := 12) (k := 1) (v := .ref (adr 15)) X hH (by decide) (fc_12 (by decide)) rfl inX5 (by decide) rfl nw_1_89 dX3_countAcceptedJoined_66 ?_
      refine lv_iload hx hb dX3_countAcceptedJoined_69 (lv_at hl 6 rfl) ?_
      obtain ⟨w9, τ8, g7, hf⟩ := fw_b2s hf
      refine fw_ci hH (fw_rV (As := [.int x6]) (rest := []) (id := 15) X hH (kX2_firstAt (by unfold fw_PL; decide) g7 _) qX2_firstAt tw_2_106 ⟨Nat.le_of_ble_eq_true rfl, Nat.le_of_ble_eq_true rfl⟩ rfl rfl (by decide) (fc_13 (by decide)) rfl rfl hl.1 rfl (Nat.le_of_ble_eq_true rfl) dX3_countAcceptedJoined_71) (fun H locs hH => ?_)
      refine lv_iload hx hb dX3_countAcceptedJoined_74 (lv_at hl 5 rfl) ?_
      refine lv_icmp_ne (tgt := 112) hx hb dX3_countAcceptedJoined_76 (by decide) (fun hc => ?_) (fun hc => ?_)
      · have hf := fw_neg hc hf
        refine lv_iinc (v := (x6 + (1 : Int32))) (lv' := [(6, .int (x6 + (1 : Int32))), (0, .ref (adr 1)), (1, .int x1), (2, .int x2), (3, .int x3), (4, .int x4), (5, .int x5)]) hx hb dX3_countAcceptedJoined_112 hl (k := 6) rfl rfl (by decide) rfl (fun ls hl => ?_)
        refine lv_goto (tgt := 47) hx hb dX3_countAcceptedJoined_115 (by decide) ?_
        exact ih x1 x2 x3 x4 x5 (x6 + (1 : Int32)) τ8 hf _ _ _ hH (lv_sub hl [1, 2, 3, 4, 5, 6, 0] rfl)
      · have hf := fw_pos hc hf
        refine lv_aload_n hx hb dX3_countAcceptedJoined_79 rfl (lv_at hl 0 rfl) ?_
        refine fw_get (id := 1) (k := 0) (v := .ref (adr 12)) X hH (by decide) (fc_1 (by decide)) rfl inX3 (by decide) rfl tw_1_105 dX3_countAcceptedJoined_80 ?_
        refine fw_getN (id := 12) (k := 2) (v := .ref (adr 17)) X hH (by decide) (fc_12 (by decide)) rfl inX5 (by decide) rfl nw_1_91 dX3_countAcceptedJoined_83 ?_
        refine lv_iload_n hx hb dX3_countAcceptedJoined_86 rfl (lv_at hl 1 rfl) ?_
        refine lv_iload hx hb dX3_countAcceptedJoined_87 (lv_at hl 4 rfl) ?_
        refine lv_iload hx hb dX3_countAcceptedJoined_89 (lv_at hl 5 rfl) ?_
        refine lv_aload_n hx hb dX3_countAcceptedJoined_91 rfl (lv_at hl 0 rfl) ?_
        refine fw_get (id := 1) (k := 0) (v := .ref (adr 12)) X hH (by decide) (fc_1 (by decide)) rfl inX3 (by decide) rfl tw_1_105 dX3_countAcceptedJoined_92 ?_
        refine fw_getN (id := 12) (k := 1) (v := .ref (adr 15)) X hH (by decide) (fc_12 (by decide)) rfl inX5 (by decide) rfl nw_1_89 dX3_countAcceptedJoined_95 ?_
        refine lv_iload hx hb dX3_countAcceptedJoined_98 (lv_at hl 6 rfl) ?_
        obtain ⟨w12, τ11, g10, hf⟩ := fw_b2s hf
        refine fw_ci hH (fw_rV (As := [.int x6]) (rest := [.int x5, .int x4, .int x1, .ref (adr 17)]) (id := 15) X hH (kX2_secondAt (by unfold fw_PL; decide) g10 _) qX2_secondAt tw_2_111 ⟨Nat.le_of_ble_eq_true rfl, Nat.le_of_ble_eq_true rfl⟩ rfl rfl (by decide) (fc_13 (by decide)) rfl rfl hl.1 rfl (Nat.le_of_ble_eq_true rfl) dX3_countAcceptedJoined_100) (fun H locs hH => ?_)
        obtain ⟨w15, τ14, g13, hf⟩ := fw_b2s hf
        refine fw_ci hH (fw_rV (As := [.int x1, .int x4, .int x5, .int w12]) (rest := []) (id := 17) X hH (kX0_accepts (by unfold fw_FL; decide) g13 _) qX0_accepts tw_2_115 ⟨Nat.le_of_ble_eq_true rfl, Nat.le_of_ble_eq_true rfl⟩ rfl rfl (by decide) (fc_15 (by decide)) rfl rfl hl.1 rfl (Nat.le_of_ble_eq_true rfl) dX3_countAcceptedJoined_103) (fun H locs hH => ?_)
        refine lv_if_eq (tgt := 112) hx hb dX3_countAcceptedJoined_106 (by decide) (fun hc => ?_) (fun hc => ?_)
        · have hf := fw_pos hc hf
          refine lv_iinc (v := (x6 + (1 : Int32))) (lv' := [(6, .int (x6 + (1 : Int32))), (0, .ref (adr 1)), (1, .int x1), (2, .int x2), (3, .int x3), (4, .int x4), (5, .int x5)]) hx hb dX3_countAcceptedJoined_112 hl (k := 6) rfl rfl (by decide) rfl (fun ls hl => ?_)
          refine lv_goto (tgt := 47) hx hb dX3_countAcceptedJoined_115 (by decide) ?_
          exact ih x1 x2 x3 x4 x5 (x6 + (1 : Int32)) τ14 hf _ _ _ hH (lv_sub hl [1, 2, 3, 4, 5, 6, 0] rfl)
        · have hf := fw_neg hc hf
          refine lv_iinc (v := (x2 + (1 : Int32))) (lv' := [(2, .int (x2 + (1 : Int32))), (0, .ref (adr 1)), (1, .int x1), (3, .int x3), (4, .int x4), (5, .int x5), (6, .int x6)]) hx hb dX3_countAcceptedJoined_109 hl (k := 2) rfl rfl (by decide) rfl (fun ls hl => ?_)
          refine lv_iinc (v := (x6 + (1 : Int32))) (lv' := [(6, .int (x6 + (1 : Int32))), (2, .int (x2 + (1 : Int32))), (0, .ref (adr 1)), (1, .int x1), (3, .int x3), (4, .int x4), (5, .int x5)]) hx hb dX3_countAcceptedJoined_112 hl (k := 6) rfl rfl (by decide) rfl (fun ls hl => ?_)
          refine lv_goto (tgt := 47) hx hb dX3_countAcceptedJoined_115 (by decide) ?_
          exact ih x1 (x2 + (1 : Int32)) x3 x4 x5 (x6 + (1 : Int32)) τ14 hf _ _ _ hH (lv_sub hl [2, 3, 1, 4, 5, 6, 0] rfl)
def pX3_countAcceptedJoined_4 : Nat → Int32 → Int32 → Int32 → fw_T → Option (Int32 × fw_T)
  | 0, _, _, _, _ => none
  | n + 1, x1, x2, x3, σ =>
    if (fw_g σ 13 2) ≤ x3 then
      some (x2, σ)
    else
      fw_b2 (pX2_firstAt 13 x3 σ) fun w3 τ2 =>
      fw_b2 (pX2_secondAt 13 x3 τ2) fun w6 τ5 =>
      pX3_countAcceptedJoined_47 (fun a0 a1 a2 σ => pX3_countAcceptedJoined_4 n a0 a1 a2 σ) 400 x1 x2 x3 w3 w6 (0 : Int32) τ5
set_option maxRecDepth 100000 in
set_option maxHeartbeats 4000000 in
theorem wX3_countAcceptedJoined_4 {args : Array Value} {r : Int32} {σ' : fw_T} (X : fcX p m c cX3_countAcceptedJoined 7 s args RX3 meth (some .int) D cI cO)  : ∀ (n : Nat), ∀ (x1 : Int32), ∀ (x2 : Int32), ∀ (x3 : Int32), ∀ (σ : fw_T), pX3_countAcceptedJoined_4 n x1 x2 x3 σ = some (r, σ') → ∀ (H : Heap) (locs : List Loc) (ls : Array Slot), fcH D cI cO adr A s H locs σ → lv_has ls 7 [(0, .ref (adr 1)), (1, .int x1), (2, .int x2), (3, .int x3)] → W p l e rmX3_countAcceptedJoined s m args below meth c H locs 0 0 (fw_Qi D 96 adr (fw_C cI cO adr) A below args s r σ') (F0 m 4 ls []) := by
  have hx := X.1.1
  have hb := X.1.2.1
  intro n
  induction n with
  | zero =>
    intro x1 x2 x3 σ hf
    exact absurd hf (by simp [pX3_countAcceptedJoined_4])
  | succ n ih =>
    intro x1 x2 x3 σ hf H locs ls hH hl
    rw [pX3_countAcceptedJoined_4] at hf
    refine lv_iload_n hx hb dX3_countAcceptedJoined_4 rfl (lv_at hl 3 rfl) ?_
    refine lv_aload_n hx hb dX3_countAcceptedJoined_5 rfl (lv_at hl 0 rfl) ?_
    refine fw_get (id := 1) (k := 0) (v := .ref (adr 12)) X hH (by decide) (fc_1 (by decide)) rfl inX3 (by decide) rfl tw_1_105 dX3_countAcceptedJoined_6 ?_
    refine fw_getN (id := 12) (k := 0) (v := .ref (adr 13)) X hH (by decide) (fc_12 (by decide)) rfl inX5 (by decide) rfl nw_1_86 dX3_countAcceptedJoined_9 ?_
    refine fw_getN (id := 13) (k := 2) (v := .int (fw_g σ 13 2)) X hH (by decide) (fc_13 (by decide)) rfl inX2 (by decide) rfl nw_1_46 dX3_countAcceptedJoined_12 ?_
    refine lv_icmp_ge (tgt := 124) hx hb dX3_countAcceptedJoined_15 (by decide) (fun hc => ?_) (fun hc => ?_)
    · have hf := fw_pos hc hf
      refine lv_iload_n hx hb dX3_countAcceptedJoined_124 rfl (lv_at hl 2 rfl) ?_
      obtain ⟨rfl, rfl⟩ := fw_s2 hf
      exact fw_reti X hH dX3_countAcceptedJoined_125
    · have hf := fw_neg hc hf
      refine lv_aload_n hx hb dX3_countAcceptedJoined_18 rfl (lv_at hl 0 rfl) ?_
      refine fw_get (id := 1) (k := 0) (v := .ref (adr 12)) X hH (by decide) (fc_1 (by decide)) rfl inX3 (by decide) rfl tw_1_105 dX3_countAcceptedJoined_19 ?_
      refine fw_getN (id := 12) (k := 0) (v := .ref (adr 13)) X hH (by decide) (fc_12 (by decide)) rfl inX5 (by decide) rfl nw_1_86 dX3_countAcceptedJoined_22 ?_
      refine lv_iload_n hx hb dX3_countAcceptedJoined_25 rfl (lv_at hl 3 rfl) ?_
      obtain ⟨w3, τ2, g1, hf⟩ := fw_b2s hf
      refine fw_ci hH (fw_rV (As := [.int x3]) (rest := []) (id := 13) X hH (kX2_firstAt (by unfold fw_PL; decide) g1 _) qX2_firstAt tw_2_106 ⟨Nat.le_of_ble_eq_true rfl, Nat.le_of_ble_eq_true rfl⟩ rfl rfl (by decide) (fc_13 (by decide)) rfl rfl hl.1 rfl (Nat.le_of_ble_eq_true rfl) dX3_countAcceptedJoined_26) (fun H locs hH => ?_)
      refine lv_istore (lv' := [(4, .int w3), (0, .ref (adr 1)), (1, .int x1), (2, .int x2), (3, .int x3)]) hx hb dX3_countAcceptedJoined_29 hl (by decide) rfl (fun ls hl => ?_)
      refine lv_aload_n hx hb dX3_countAcceptedJoined_31 rfl (lv_at hl 1 rfl) ?_
      refine fw_get (id := 1) (k := 0) (v := .ref (adr 12)) X hH (by decide) (fc_1 (by decide)) rfl inX3 (by decide) rfl tw_1_105 dX3_countAcceptedJoined_32 ?_
      refine fw_getN (id := 12) (k := 0) (v := .ref (adr 13)) X hH (by decide) (fc_12 (by decide)) rfl inX5 (by decide) rfl nw_1_86 dX3_countAcceptedJoined_35 ?_
      refine lv_iload_n hx hb dX3_countAcceptedJoined_38 rfl (lv_at hl 4 rfl) ?_
      obtain ⟨w6, τ5, g4, hf⟩ := fw_b2s hf
      refine fw_ci hH (fw_rV (As := [.int x3]) (rest := []) (id := 13) X hH (kX2_secondAt (by unfold fw_PL; decide) g4 _) qX2_secondAt tw_2_111 ⟨Nat.le_of_ble_eq_true rfl, Nat.le_of_ble_eq_true rfl⟩ rfl rfl (by decide) (fc_13 (by decide)) rfl rfl hl.1 rfl (Nat.le_of_ble_eq_true rfl) dX3_countAcceptedJoined_39) (fun H locs hH => ?_)
      refine lv_istore (lv' := [(5, .int w6), (4, .int w3), (0, .ref (adr 1)), (1, .int x1), (2, .int x2), (3, .int x3)]) hx hb dX3_countAcceptedJoined_42 hl (by decide) rfl (fun ls hl => ?_)
      refine lv_iconst (v := (0 : Int32)) hx hb dX3_countAcceptedJoined_44 (by decide) ?_
      refine lv_istore (lv' := [(6, .int (0 : Int32)), (5, .int w6), (4, .int w3), (0, .ref (adr 1)), (1, .int x1), (2, .int x2), (3, .int x3)]) hx hb dX3_countAcceptedJoined_45 hl (by decide) rfl (fun ls hl => ?_)
      exact wX3_countAcceptedJoined_47 X ih 400 x1 x2 x3 w3 w6 (0 : Int32) τ5 hf _ _ _ hH (lv_sub hl [3, 4, 5, 6, 2, 1, 0] rfl)
def pX3_countAcceptedJoined (x1 : Int32) (σ : fw_T) : Option (Int32 × fw_T) :=
  pX3_countAcceptedJoined_4 400 x1 (0 : Int32) (0 : Int32) σ
set_option maxRecDepth 100000 in
set_option maxHeartbeats 4000000 in
theorem kX3_countAcceptedJoined {x1 : Int32} {r : Int32} {σ σ' : fw_T} (hf : pX3_countAcceptedJoined x1 σ = some (r, σ')) : fw_Ci l yX3_countAcceptedJoined (Cond.code yX3_countAcceptedJoined cX3_countAcceptedJoined 7 (some .int) :: lwT) rmX3_countAcceptedJoined [.ref (adr 1), .int x1] D 96 adr (fw_C cI cO adr) (fcT cI cO) nwC σ r σ' := by
  refine fw_start (Qc := (fun A => va_Qi (fun r' (_ : Unit) => r' = r) (fun _ t => va_P D vwCl (fw_ws 96 adr (fw_C cI cO adr σ')) t.heap) A)) (by decide) (by simp [lg_sl, Value.category]) rfl ?_
  intro p e s m below meth c A X hH ls hl
  have hx := X.1.1
  have hb := X.1.2.1
  have hl : lv_has ls 7 [(0, .ref (adr 1)), (1, .int x1)] := hl
  unfold pX3_countAcceptedJoined at hf
  refine lv_iconst (v := (0 : Int32)) hx hb dX3_countAcceptedJoined_0 (by decide) ?_
  refine lv_istore_n (lv' := [(2, .int (0 : Int32)), (0, .ref (adr 1)), (1, .int x1)]) hx hb dX3_countAcceptedJoined_1 rfl hl (by decide) rfl (fun ls hl => ?_)
  refine lv_iconst (v := (0 : Int32)) hx hb dX3_countAcceptedJoined_2 (by decide) ?_
  refine lv_istore_n (lv' := [(3, .int (0 : Int32)), (2, .int (0 : Int32)), (0, .ref (adr 1)), (1, .int x1)]) hx hb dX3_countAcceptedJoined_3 rfl hl (by decide) rfl (fun ls hl => ?_)
  exact wX3_countAcceptedJoined_4 X 400 x1 (0 : Int32) (0 : Int32) σ hf _ _ _ hH (lv_sub hl [2, 3, 1, 0] rfl)
abbrev rmX3_countAccepted : Room := { frames := 3, cells := 0, slots := 0, locals := 74 }
theorem qX3_countAccepted : fw_QV RX3 yX3_countAccepted cX3_countAccepted 2 (some .int) 1 := ⟨⟨tw_2_95, tw_2_96, tw_1_2, tw_2_97⟩, by decide +kernel⟩
def pX3_countAccepted (x1 : Int32) (σ : fw_T) : Option (Int32 × fw_T) :=
  fw_b2 (pX0_isAtStage 17 x1 (0 : Int32) σ) fun w3 τ2 =>
  if w3 = 0 then
    fw_b2 (pX0_isAtStage 17 x1 (1 : Int32) τ2) fun w6 τ5 =>
    if w6 = 0 then
      fw_b2 (pX3_countAcceptedJoined x1 τ5) fun w9 τ8 =>
      some (w9, τ8)
    else
      fw_b2 (pX3_countAcceptedRight x1 τ5) fun w12 τ11 =>
      some (w12, τ11)
  else
    fw_b2 (pX3_countAcceptedLeft x1 τ2) fun w15 τ14 =>
    some (w15, τ14)
set_option maxRecDepth 100000 in
set_option maxHeartbeats 4000000 in
theorem kX3_countAccepted {x1 : Int32} {r : Int32} {σ σ' : fw_T} (hf : pX3_countAccepted x1 σ = some (r, σ')) : fw_Ci l yX3_countAccepted (Cond.code yX3_countAccepted cX3_countAccepted 2 (some .int) :: lwT) rmX3_countAccepted [.ref (adr 1), .int x1] D 96 adr (fw_C cI cO adr) (fcT cI cO) nwC σ r σ' := by
  refine fw_start (Qc := (fun A => va_Qi (fun r' (_ : Unit) => r' = r) (fun _ t => va_P D vwCl (fw_ws 96 adr (fw_C cI cO adr σ')) t.heap) A)) (by decide) (by simp [lg_sl, Value.category]) rfl ?_
  intro p e s m below meth c A X hH ls hl
  have hx := X.1.1
  have hb := X.1.2.1
  have hl : lv_has ls 2 [(0, .ref (adr 1)), (1, .int x1)] := hl
  unfold pX3_countAccepted at hf
  refine lv_aload_n hx hb dX3_countAccepted_0 rfl (lv_at hl 0 rfl) ?_
  refine fw_get (id := 1) (k := 0) (v := .ref (adr 12)) X hH (by decide) (fc_1 (by decide)) rfl inX3 (by decide) rfl tw_1_105 dX3_countAccepted_1 ?_
  refine fw_getN (id := 12) (k := 2) (v := .ref (adr 17)) X hH (by decide) (fc_12 (by decide)) rfl inX5 (by decide) rfl nw_1_91 dX3_countAccepted_4 ?_
  refine lv_iload_n hx hb dX3_countAccepted_7 rfl (lv_at hl 1 rfl) ?_
  refine lv_iconst (v := (0 : Int32)) hx hb dX3_countAccepted_8 (by decide) ?_
  obtain ⟨w3, τ2, g1, hf⟩ := fw_b2s hf
  refine fw_ci hH (fw_rV (As := [.int x1, .int (0 : Int32)]) (rest := []) (id := 17) X hH (kX0_isAtStage (by unfold fw_FL; decide) g1 _) qX0_isAtStage tw_2_98 ⟨Nat.le_of_ble_eq_true rfl, Nat.le_of_ble_eq_true rfl⟩ rfl rfl (by decide) (fc_15 (by decide)) rfl rfl hl.1 rfl (Nat.le_of_ble_eq_true rfl) dX3_countAccepted_9) (fun H locs hH => ?_)
  refine lv_if_eq (tgt := 21) hx hb dX3_countAccepted_12 (by decide) (fun hc => ?_) (fun hc => ?_)
  · have hf := fw_pos hc hf
    refine lv_aload_n hx hb dX3_countAccepted_21 rfl (lv_at hl 0 rfl) ?_
    refine fw_get (id := 1) (k := 0) (v := .ref (adr 12)) X hH (by decide) (fc_1 (by decide)) rfl inX3 (by decide) rfl tw_1_105 dX3_countAccepted_22 ?_
    refine fw_getN (id := 12) (k := 2) (v := .ref (adr 17)) X hH (by decide) (fc_12 (by decide)) rfl inX5 (by decide) rfl nw_1_91 dX3_countAccepted_25 ?_
    refine lv_iload_n hx hb dX3_countAccepted_28 rfl (lv_at hl 1 rfl) ?_
    refine lv_iconst (v := (1 : Int32)) hx hb dX3_countAccepted_29 (by decide) ?_
    obtain ⟨w6, τ5, g4, hf⟩ := fw_b2s hf
    refine fw_ci hH (fw_rV (As := [.int x1, .int (1 : Int32)]) (rest := []) (id := 17) X hH (kX0_isAtStage (by unfold fw_FL; decide) g4 _) qX0_isAtStage tw_2_98 ⟨Nat.le_of_ble_eq_true rfl, Nat.le_of_ble_eq_true rfl⟩ rfl rfl (by decide) (fc_15 (by decide)) rfl rfl hl.1 rfl (Nat.le_of_ble_eq_true rfl) dX3_countAccepted_30) (fun H locs hH => ?_)
    refine lv_if_eq (tgt := 42) hx hb dX3_countAccepted_33 (by decide) (fun hc => ?_) (fun hc => ?_)
    · have hf := fw_pos hc hf
      refine lv_aload_n hx hb dX3_countAccepted_42 rfl (lv_at hl 0 rfl) ?_
      refine lv_iload_n hx hb dX3_countAccepted_43 rfl (lv_at hl 1 rfl) ?_
      obtain ⟨w9, τ8, g7, hf⟩ := fw_b2s hf
      refine fw_ci hH (fw_rV (As := [.int x1]) (rest := []) (id := 1) X hH (kX3_countAcceptedJoined  g7 _) qX3_countAcceptedJoined tw_2_129 ⟨Nat.le_of_ble_eq_true rfl, Nat.le_of_ble_eq_true rfl⟩ rfl rfl (by decide) (fc_1 (by decide)) rfl rfl hl.1 rfl (Nat.le_of_ble_eq_true rfl) dX3_countAccepted_44) (fun H locs hH => ?_)
      obtain ⟨rfl, rfl⟩ := fw_s2 hf
      exact fw_reti X hH dX3_countAccepted_47
    · have hf := fw_neg hc hf
      refine lv_aload_n hx hb dX3_countAccepted_36 rfl (lv_at hl 0 rfl) ?_
      refine lv_iload_n hx hb dX3_countAccepted_37 rfl (lv_at hl 1 rfl) ?_
      obtain ⟨w12, τ11, g10, hf⟩ := fw_b2s hf
      refine fw_ci hH (fw_rV (As := [.int x1]) (rest := []) (id := 1) X hH (kX3_countAcceptedRight  g10 _) qX3_countAcceptedRight tw_2_125 ⟨Nat.le_of_ble_eq_true rfl, Nat.le_of_ble_eq_true rfl⟩ rfl rfl (by decide) (fc_1 (by decide)) rfl rfl hl.1 rfl (Nat.le_of_ble_eq_true rfl) dX3_countAccepted_38) (fun H locs hH => ?_)
      obtain ⟨rfl, rfl⟩ := fw_s2 hf
      exact fw_reti X hH dX3_countAccepted_41
  · have hf := fw_neg hc hf
    refine lv_aload_n hx hb dX3_countAccepted_15 rfl (lv_at hl 0 rfl) ?_
    refine lv_iload_n hx hb dX3_countAccepted_16 rfl (lv_at hl 1 rfl) ?_
    obtain ⟨w15, τ14, g13, hf⟩ := fw_b2s hf
    refine fw_ci hH (fw_rV (As := [.int x1]) (rest := []) (id := 1) X hH (kX3_countAcceptedLeft  g13 _) qX3_countAcceptedLeft tw_2_102 ⟨Nat.le_of_ble_eq_true rfl, Nat.le_of_ble_eq_true rfl⟩ rfl rfl (by decide) (fc_1 (by decide)) rfl rfl hl.1 rfl (Nat.le_of_ble_eq_true rfl) dX3_countAccepted_17) (fun H locs hH => ?_)
    obtain ⟨rfl, rfl⟩ := fw_s2 hf
    exact fw_reti X hH dX3_countAccepted_20
abbrev rmX7_acceptedBy : Room := { frames := 4, cells := 0, slots := 0, locals := 95 }
theorem qX7_acceptedBy : fw_QV RX7 yX7_acceptedBy cX7_acceptedBy 2 (some .int) 1 := ⟨⟨tw_2_90, tw_2_91, tw_1_1, tw_2_92⟩, by decide +kernel⟩
def pX7_acceptedBy (x1 : Int32) (σ : fw_T) : Option (Int32 × fw_T) :=
  fw_b2 (pX0_holds 17 x1 σ) fun w3 τ2 =>
  if w3 = 0 then
    fw_b2 (pX7_report (-10002 : Int32) τ2) fun w9 τ8 =>
    some (w9, τ8)
  else
    fw_b2 (pX3_countAccepted x1 τ2) fun w6 τ5 =>
    some (w6, τ5)
set_option maxRecDepth 100000 in
set_option maxHeartbeats 4000000 in
theorem kX7_acceptedBy {x1 : Int32} {r : Int32} {σ σ' : fw_T} (hf : pX7_acceptedBy x1 σ = some (r, σ')) : fw_Ci l yX7_acceptedBy (Cond.code yX7_acceptedBy cX7_acceptedBy 2 (some .int) :: lwT) rmX7_acceptedBy [.ref (adr 0), .int x1] D 96 adr (fw_C cI cO adr) (fcT cI cO) nwC σ r σ' := by
  refine fw_start (Qc := (fun A => va_Qi (fun r' (_ : Unit) => r' = r) (fun _ t => va_P D vwCl (fw_ws 96 adr (fw_C cI cO adr σ')) t.heap) A)) (by decide) (by simp [lg_sl, Value.category]) rfl ?_
  intro p e s m below meth c A X hH ls hl
  have hx := X.1.1
  have hb := X.1.2.1
  have hl : lv_has ls 2 [(0, .ref (adr 0)), (1, .int x1)] := hl
  unfold pX7_acceptedBy at hf
  refine lv_aload_n hx hb dX7_acceptedBy_0 rfl (lv_at hl 0 rfl) ?_
  refine fw_get (id := 0) (k := 1) (v := .ref (adr 12)) X hH (by decide) (fc_0 (by decide)) rfl inX7 (by decide) rfl tw_1_178 dX7_acceptedBy_1 ?_
  refine fw_getN (id := 12) (k := 2) (v := .ref (adr 17)) X hH (by decide) (fc_12 (by decide)) rfl inX5 (by decide) rfl nw_1_92 dX7_acceptedBy_4 ?_
  refine lv_iload_n hx hb dX7_acceptedBy_7 rfl (lv_at hl 1 rfl) ?_
  obtain ⟨w3, τ2, g1, hf⟩ := fw_b2s hf
  refine fw_ci hH (fw_rV (As := [.int x1]) (rest := []) (id := 17) X hH (kX0_holds (by unfold fw_FL; decide) g1 _) qX0_holds tw_2_93 ⟨Nat.le_of_ble_eq_true rfl, Nat.le_of_ble_eq_true rfl⟩ rfl rfl (by decide) (fc_15 (by decide)) rfl rfl hl.1 rfl (Nat.le_of_ble_eq_true rfl) dX7_acceptedBy_8) (fun H locs hH => ?_)
  refine lv_if_ne (tgt := 22) hx hb dX7_acceptedBy_11 (by decide) (fun hc => ?_) (fun hc => ?_)
  · have hf := fw_neg hc hf
    refine lv_aload_n hx hb dX7_acceptedBy_22 rfl (lv_at hl 0 rfl) ?_
    refine fw_get (id := 0) (k := 0) (v := .ref (adr 1)) X hH (by decide) (fc_0 (by decide)) rfl inX7 (by decide) rfl tw_1_177 dX7_acceptedBy_23 ?_
    refine lv_iload_n hx hb dX7_acceptedBy_26 rfl (lv_at hl 1 rfl) ?_
    obtain ⟨w6, τ5, g4, hf⟩ := fw_b2s hf
    refine fw_ci hH (fw_rV (As := [.int x1]) (rest := []) (id := 1) X hH (kX3_countAccepted  g4 _) qX3_countAccepted tw_2_94 ⟨Nat.le_of_ble_eq_true rfl, Nat.le_of_ble_eq_true rfl⟩ rfl rfl (by decide) (fc_1 (by decide)) rfl rfl hl.1 rfl (Nat.le_of_ble_eq_true rfl) dX7_acceptedBy_27) (fun H locs hH => ?_)
    obtain ⟨rfl, rfl⟩ := fw_s2 hf
    exact fw_reti X hH dX7_acceptedBy_30
  · have hf := fw_pos hc hf
    refine lv_aload_n hx hb dX7_acceptedBy_14 rfl (lv_at hl 0 rfl) ?_
    refine lv_sipush (v := (-10002 : Int32)) hx hb dX7_acceptedBy_15 (by decide) ?_
    obtain ⟨w9, τ8, g7, hf⟩ := fw_b2s hf
    refine fw_ci hH (fw_rV (As := [.int (-10002 : Int32)]) (rest := []) (id := 0) X hH (kX7_report  g7 _) qX7_report tw_2_10 ⟨Nat.le_of_ble_eq_true rfl, Nat.le_of_ble_eq_true rfl⟩ rfl rfl (by decide) (fc_0 (by decide)) rfl rfl hl.1 rfl (Nat.le_of_ble_eq_true rfl) dX7_acceptedBy_18) (fun H locs hH => ?_)
    obtain ⟨rfl, rfl⟩ := fw_s2 hf
    exact fw_reti X hH dX7_acceptedBy_21
abbrev rmJ7_fill_53178 : Room := { frames := 0, cells := 0, slots := 0, locals := 0 }
theorem qJ7_fill_53178 : fw_QS yJ7_fill_53178 cJ7_fill_53178 4 none 2 := ⟨⟨tw_2_146, tw_1_12, tw_2_147⟩, by decide +kernel⟩
def pJ7_fill_53178_5 : Nat → Int32 → Int32 → Int32 → fw_T → Option (fw_T)
  | 0, _, _, _, _ => none
  | n + 1, x1, x2, x3, σ =>
    if x3 ≤ x2 then
      some σ
    else
      (fw_wr σ 10 100 x2 x1).bind fun τ1 =>
      pJ7_fill_53178_5 n x1 (x2 + (1 : Int32)) x3 τ1
set_option maxRecDepth 100000 in
set_option maxHeartbeats 4000000 in
theorem wJ7_fill_53178_5 {args : Array Value} {σ' : fw_T} (X : fcX p m c cJ7_fill_53178 4 s args RJ7 meth none D cI cO)  : ∀ (n : Nat), ∀ (x1 : Int32), ∀ (x2 : Int32), ∀ (x3 : Int32), ∀ (σ : fw_T), pJ7_fill_53178_5 n x1 x2 x3 σ = some σ' → ∀ (H : Heap) (locs : List Loc) (ls : Array Slot), fcH D cI cO adr A s H locs σ → lv_has ls 4 [(0, .ref (adr 10)), (1, .int x1), (2, .int x2), (3, .int x3)] → W p l e rmJ7_fill_53178 s m args below meth c H locs 0 0 (fw_Qv D 96 adr (fw_C cI cO adr) A below args s σ') (F0 m 5 ls []) := by
  have hx := X.1.1
  have hb := X.1.2.1
  intro n
  induction n with
  | zero =>
    intro x1 x2 x3 σ hf
    exact absurd hf (by simp [pJ7_fill_53178_5])
  | succ n ih =>
    intro x1 x2 x3 σ hf H locs ls hH hl
    rw [pJ7_fill_53178_5] at hf
    refine lv_iload_n hx hb dJ7_fill_53178_5 rfl (lv_at hl 2 rfl) ?_
    refine lv_iload_n hx hb dJ7_fill_53178_6 rfl (lv_at hl 3 rfl) ?_
    refine lv_icmp_ge (tgt := 20) hx hb dJ7_fill_53178_7 (by decide) (fun hc => ?_) (fun hc => ?_)
    · have hf := fw_pos hc hf
      obtain rfl := Option.some.inj hf
      exact fw_retv X hH dJ7_fill_53178_20
    · have hf := fw_neg hc hf
      refine lv_aload_n hx hb dJ7_fill_53178_10 rfl (lv_at hl 0 rfl) ?_
      refine lv_iload_n hx hb dJ7_fill_53178_11 rfl (lv_at hl 2 rfl) ?_
      refine lv_iload_n hx hb dJ7_fill_53178_12 rfl (lv_at hl 1 rfl) ?_
      obtain ⟨τ1, g2, hf⟩ := fw_bd hf
      refine fw_iast (id := 10) (n := 100) X hH (by decide) (fun σ => fc_10 (by decide)) (fun k x j h => fc_ne h) rfl g2 dJ7_fill_53178_13 (fun H locs hH => ?_)
      refine lv_iinc (v := (x2 + (1 : Int32))) (lv' := [(2, .int (x2 + (1 : Int32))), (0, .ref (adr 10)), (1, .int x1), (3, .int x3)]) hx hb dJ7_fill_53178_14 hl (k := 2) rfl rfl (by decide) rfl (fun ls hl => ?_)
      refine lv_goto (tgt := 5) hx hb dJ7_fill_53178_17 (by decide) ?_
      exact ih x1 (x2 + (1 : Int32)) x3 τ1 hf _ _ _ hH (lv_sub hl [1, 2, 0, 3] rfl)
def pJ7_fill_53178 (x1 : Int32) (σ : fw_T) : Option (fw_T) :=
  pJ7_fill_53178_5 400 x1 (0 : Int32) (100 : Int32) σ
set_option maxRecDepth 100000 in
set_option maxHeartbeats 4000000 in
theorem kJ7_fill_53178 {x1 : Int32} {σ σ' : fw_T} (hf : pJ7_fill_53178 x1 σ = some σ') : fw_Cv l yJ7_fill_53178 (Cond.code yJ7_fill_53178 cJ7_fill_53178 4 none :: lwT) rmJ7_fill_53178 [.ref (adr 10), .int x1] D 96 adr (fw_C cI cO adr) (fcT cI cO) nwC σ σ' := by
  refine fw_start (Qc := (fun A => va_Qv (fun (_ : Unit) => True) (fun _ t => va_P D vwCl (fw_ws 96 adr (fw_C cI cO adr σ')) t.heap) A)) (by decide) (by simp [lg_sl, Value.category]) rfl ?_
  intro p e s m below meth c A X hH ls hl
  have hx := X.1.1
  have hb := X.1.2.1
  have hl : lv_has ls 4 [(0, .ref (adr 10)), (1, .int x1)] := hl
  unfold pJ7_fill_53178 at hf
  refine lv_iconst (v := (0 : Int32)) hx hb dJ7_fill_53178_0 (by decide) ?_
  refine lv_istore_n (lv' := [(2, .int (0 : Int32)), (0, .ref (adr 10)), (1, .int x1)]) hx hb dJ7_fill_53178_1 rfl hl (by decide) rfl (fun ls hl => ?_)
  refine lv_aload_n hx hb dJ7_fill_53178_2 rfl (lv_at hl 1 rfl) ?_
  refine fw_alen (id := 10) (n := 100) (v := (100 : Int32)) X hH (by decide) (fc_10 (by decide)) rfl (by decide) dJ7_fill_53178_3 ?_
  refine lv_istore_n (lv' := [(3, .int (100 : Int32)), (2, .int (0 : Int32)), (0, .ref (adr 10)), (1, .int x1)]) hx hb dJ7_fill_53178_4 rfl hl (by decide) rfl (fun ls hl => ?_)
  exact wJ7_fill_53178_5 X 400 x1 (0 : Int32) (100 : Int32) σ hf _ _ _ hH (lv_sub hl [2, 3, 1, 0] rfl)
abbrev rmX0_rejecters : Room := { frames := 2, cells := 0, slots := 0, locals := 48 }
theorem qX0_rejecters : fw_QV RX0 yX0_rejecters cX0_rejecters 6 (some .int) 3 := ⟨⟨tw_2_150, tw_2_151, tw_1_6, tw_2_152⟩, by decide +kernel⟩
def pX0_rejecters_6 (h : Nat) : Nat → Int32 → Int32 → Int32 → Int32 → Int32 → fw_T → Option (Int32 × fw_T)
  | 0, _, _, _, _, _, _ => none
  | n + 1, x1, x2, x3, x4, x5, σ =>
    if (fw_g σ h 4) ≤ x5 then
      some (x4, σ)
    else
      if (6 : Int32) ≤ x5 then
        some (x4, σ)
      else
        fw_b2 (pX0_accepts h x5 x1 x2 x3 σ) fun w3 τ2 =>
        if w3 = 0 then
          pX0_rejecters_6 h n x1 x2 x3 (x4 ||| ((1 : Int32) <<< (x5 &&& 31))) (x5 + (1 : Int32)) τ2
        else
          pX0_rejecters_6 h n x1 x2 x3 x4 (x5 + (1 : Int32)) τ2
set_option maxRecDepth 100000 in
set_option maxHeartbeats 4000000 in
theorem wX0_rejecters_6 {h : Nat} (hk : fw_FL h) {args : Array Value} {r : Int32} {σ' : fw_T} (X : fcX p m c cX0_rejecters 6 s args RX0 meth (some .int) D cI cO)  : ∀ (n : Nat), ∀ (x1 : Int32), ∀ (x2 : Int32), ∀ (x3 : Int32), ∀ (x4 : Int32), ∀ (x5 : Int32), ∀ (σ : fw_T), pX0_rejecters_6 h n x1 x2 x3 x4 x5 σ = some (r, σ') → ∀ (H : Heap) (locs : List Loc) (ls : Array Slot), fcH D cI cO adr A s H locs σ → lv_has ls 6 [(0, .ref (adr h)), (1, .int x1), (2, .int x2), (3, .int x3), (4, .int x4), (5, .int x5)] → W p l e rmX0_rejecters s m args below meth c H locs 0 0 (fw_Qi D 96 adr (fw_C cI cO adr) A below args s r σ') (F0 m 6 ls []) := by
  have hx := X.1.1
  have hb := X.1.2.1
  intro n
  induction n with
  | zero =>
    intro x1 x2 x3 x4 x5 σ hf
    exact absurd hf (by simp [pX0_rejecters_6])
  | succ n ih =>
    intro x1 x2 x3 x4 x5 σ hf H locs ls hH hl
    rw [pX0_rejecters_6] at hf
    refine lv_iload hx hb dX0_rejecters_6 (lv_at hl 5 rfl) ?_
    refine lv_aload_n hx hb dX0_rejecters_8 rfl (lv_at hl 0 rfl) ?_
    refine fw_get (id := h) (k := 4) (v := .int (fw_g σ h 4)) X hH hk.2.1 (fc_15 hk.1) rfl inX0 (by decide) rfl tw_1_70 dX0_rejecters_9 ?_
    refine lv_icmp_ge (tgt := 49) hx hb dX0_rejecters_12 (by decide) (fun hc => ?_) (fun hc => ?_)
    · have hf := fw_pos hc hf
      refine lv_iload hx hb dX0_rejecters_49 (lv_at hl 4 rfl) ?_
      obtain ⟨rfl, rfl⟩ := fw_s2 hf
      exact fw_reti X hH dX0_rejecters_51
    · have hf := fw_neg hc hf
      refine lv_iload hx hb dX0_rejecters_15 (lv_at hl 5 rfl) ?_
      refine lv_bipush (v := (6 : Int32)) hx hb dX0_rejecters_17 (by decide) ?_
      refine lv_icmp_ge (tgt := 49) hx hb dX0_rejecters_19 (by decide) (fun hc => ?_) (fun hc => ?_)
      · have hf := fw_pos hc hf
        refine lv_iload hx hb dX0_rejecters_49 (lv_at hl 4 rfl) ?_
        obtain ⟨rfl, rfl⟩ := fw_s2 hf
        exact fw_reti X hH dX0_rejecters_51
      · have hf := fw_neg hc hf
        refine lv_aload_n hx hb dX0_rejecters_22 rfl (lv_at hl 0 rfl) ?_
        refine lv_iload hx hb dX0_rejecters_23 (lv_at hl 5 rfl) ?_
        refine lv_iload_n hx hb dX0_rejecters_25 rfl (lv_at hl 1 rfl) ?_
        refine lv_iload_n hx hb dX0_rejecters_26 rfl (lv_at hl 2 rfl) ?_
        refine lv_iload_n hx hb dX0_rejecters_27 rfl (lv_at hl 3 rfl) ?_
        obtain ⟨w3, τ2, g1, hf⟩ := fw_b2s hf
        refine fw_ci hH (fw_rV (As := [.int x5, .int x1, .int x2, .int x3]) (rest := []) (id := h) X hH (kX0_accepts hk g1 _) qX0_accepts tw_2_153 ⟨Nat.le_of_ble_eq_true rfl, Nat.le_of_ble_eq_true rfl⟩ rfl rfl hk.2.1 (fc_15 hk.1) rfl rfl hl.1 rfl (Nat.le_of_ble_eq_true rfl) dX0_rejecters_28) (fun H locs hH => ?_)
        refine lv_if_ne (tgt := 43) hx hb dX0_rejecters_31 (by decide) (fun hc => ?_) (fun hc => ?_)
        · have hf := fw_neg hc hf
          refine lv_iinc (v := (x5 + (1 : Int32))) (lv' := [(5, .int (x5 + (1 : Int32))), (0, .ref (adr h)), (1, .int x1), (2, .int x2), (3, .int x3), (4, .int x4)]) hx hb dX0_rejecters_43 hl (k := 5) rfl rfl (by decide) rfl (fun ls hl => ?_)
          refine lv_goto (tgt := 6) hx hb dX0_rejecters_46 (by decide) ?_
          exact ih x1 x2 x3 x4 (x5 + (1 : Int32)) τ2 hf _ _ _ hH (lv_sub hl [1, 2, 3, 4, 5, 0] rfl)
        · have hf := fw_pos hc hf
          refine lv_iload hx hb dX0_rejecters_34 (lv_at hl 4 rfl) ?_
          refine lv_iconst (v := (1 : Int32)) hx hb dX0_rejecters_36 (by decide) ?_
          refine lv_iload hx hb dX0_rejecters_37 (lv_at hl 5 rfl) ?_
          refine lv_ishl hx hb dX0_rejecters_39 ?_
          refine lv_ior hx hb dX0_rejecters_40 ?_
          refine lv_istore (lv' := [(4, .int (x4 ||| ((1 : Int32) <<< (x5 &&& 31)))), (0, .ref (adr h)), (1, .int x1), (2, .int x2), (3, .int x3), (5, .int x5)]) hx hb dX0_rejecters_41 hl (by decide) rfl (fun ls hl => ?_)
          refine lv_iinc (v := (x5 + (1 : Int32))) (lv' := [(5, .int (x5 + (1 : Int32))), (4, .int (x4 ||| ((1 : Int32) <<< (x5 &&& 31)))), (0, .ref (adr h)), (1, .int x1), (2, .int x2), (3, .int x3)]) hx hb dX0_rejecters_43 hl (k := 5) rfl rfl (by decide) rfl (fun ls hl => ?_)
          refine lv_goto (tgt := 6) hx hb dX0_rejecters_46 (by decide) ?_
          exact ih x1 x2 x3 (x4 ||| ((1 : Int32) <<< (x5 &&& 31))) (x5 + (1 : Int32)) τ2 hf _ _ _ hH (lv_sub hl [2, 3, 4, 5, 1, 0] rfl)
def pX0_rejecters (h : Nat) (x1 : Int32) (x2 : Int32) (x3 : Int32) (σ : fw_T) : Option (Int32 × fw_T) :=
  pX0_rejecters_6 h 400 x1 x2 x3 (0 : Int32) (0 : Int32) σ
set_option maxRecDepth 100000 in
set_option maxHeartbeats 4000000 in
theorem kX0_rejecters {h : Nat} (hk : fw_FL h) {x1 : Int32} {x2 : Int32} {x3 : Int32} {r : Int32} {σ σ' : fw_T} (hf : pX0_rejecters h x1 x2 x3 σ = some (r, σ')) : fw_Ci l yX0_rejecters (Cond.code yX0_rejecters cX0_rejecters 6 (some .int) :: lwT) rmX0_rejecters [.ref (adr h), .int x1, .int x2, .int x3] D 96 adr (fw_C cI cO adr) (fcT cI cO) nwC σ r σ' := by
  refine fw_start (Qc := (fun A => va_Qi (fun r' (_ : Unit) => r' = r) (fun _ t => va_P D vwCl (fw_ws 96 adr (fw_C cI cO adr σ')) t.heap) A)) (by decide) (by simp [lg_sl, Value.category]) rfl ?_
  intro p e s m below meth c A X hH ls hl
  have hx := X.1.1
  have hb := X.1.2.1
  have hl : lv_has ls 6 [(0, .ref (adr h)), (1, .int x1), (2, .int x2), (3, .int x3)] := hl
  unfold pX0_rejecters at hf
  refine lv_iconst (v := (0 : Int32)) hx hb dX0_rejecters_0 (by decide) ?_
  refine lv_istore (lv' := [(4, .int (0 : Int32)), (0, .ref (adr h)), (1, .int x1), (2, .int x2), (3, .int x3)]) hx hb dX0_rejecters_1 hl (by decide) rfl (fun ls hl => ?_)
  refine lv_iconst (v := (0 : Int32)) hx hb dX0_rejecters_3 (by decide) ?_
  refine lv_istore (lv' := [(5, .int (0 : Int32)), (4, .int (0 : Int32)), (0, .ref (adr h)), (1, .int x1), (2, .int x2), (3, .int x3)]) hx hb dX0_rejecters_4 hl (by decide) rfl (fun ls hl => ?_)
  exact wX0_rejecters_6 hk X 400 x1 x2 x3 (0 : Int32) (0 : Int32) σ hf _ _ _ hH (lv_sub hl [2, 3, 4, 5, 1, 0] rfl)
abbrev rmX3_tallyMatches : Room := { frames := 3, cells := 0, slots := 0, locals := 73 }
theorem qX3_tallyMatches : fw_QV RX3 yX3_tallyMatches cX3_tallyMatches 6 none 0 := ⟨⟨tw_2_143, tv_X3_tallyMatches, tw_1_2, tw_2_144⟩, by decide +kernel⟩
def pX3_tallyMatches_51 (K10 : Int32 → fw_T → Option (fw_T)) : Nat → Int32 → Int32 → Int32 → Int32 → fw_T → Option (fw_T)
  | 0, _, _, _, _, _ => none
  | n + 1, x1, x2, x3, x4, σ =>
    if (fw_g σ 15 2) ≤ x4 then
      K10 (x1 + (1 : Int32)) σ
    else
      fw_b2 (pX2_secondAt 15 x4 σ) fun w11 τ10 =>
      fw_b2 (pX2_firstAt 15 x4 τ10) fun w14 τ13 =>
      if w14 = x3 then
        fw_b2 (pX7_isPair x2 w11 τ13) fun w17 τ16 =>
        if w17 = 0 then
          pX3_tallyMatches_51 K10 n x1 x2 x3 (x4 + (1 : Int32)) τ16
        else
          fw_b2 (pX0_rejecters 17 x2 x3 w11 τ16) fun w20 τ19 =>
          if w20 = 0 then
            (fw_rd τ19 10 100 (((10 : Int32) * x2) + w11)).bind fun w21 =>
            (fw_wr τ19 10 100 (((10 : Int32) * x2) + w11) (w21 + (1 : Int32))).bind fun τ23 =>
            pX3_tallyMatches_51 K10 n x1 x2 x3 (x4 + (1 : Int32)) τ23
          else
            pX3_tallyMatches_51 K10 n x1 x2 x3 (x4 + (1 : Int32)) τ19
      else
        pX3_tallyMatches_51 K10 n x1 x2 x3 (x4 + (1 : Int32)) τ13
set_option maxRecDepth 100000 in
set_option maxHeartbeats 4000000 in
theorem wX3_tallyMatches_51 {args : Array Value} {σ' : fw_T} {K10 : Int32 → fw_T → Option (fw_T)} (X : fcX p m c cX3_tallyMatches 6 s args RX3 meth none D cI cO) (hK10 : ∀ (x1 : Int32), ∀ (σ : fw_T), K10 x1 σ = some σ' → ∀ (H : Heap) (locs : List Loc) (ls : Array Slot), fcH D cI cO adr A s H locs σ → lv_has ls 6 [(0, .ref (adr 1)), (1, .int x1)] → W p l e rmX3_tallyMatches s m args below meth c H locs 0 0 (fw_Qv D 96 adr (fw_C cI cO adr) A below args s σ') (F0 m 10 ls [])) : ∀ (n : Nat), ∀ (x1 : Int32), ∀ (x2 : Int32), ∀ (x3 : Int32), ∀ (x4 : Int32), ∀ (σ : fw_T), pX3_tallyMatches_51 K10 n x1 x2 x3 x4 σ = some σ' → ∀ (H : Heap) (locs : List Loc) (ls : Array Slot), fcH D cI cO adr A s H locs σ → lv_has ls 6 [(0, .ref (adr 1)), (1, .int x1), (2, .int x2), (3, .int x3), (4, .int x4)] → W p l e rmX3_tallyMatches s m args below meth c H locs 0 0 (fw_Qv D 96 adr (fw_C cI cO adr) A below args s σ') (F0 m 51 ls []) := by
  have hx := X.1.1
  have hb := X.1.2.1
  intro n
  induction n with
  | zero =>
    intro x1 x2 x3 x4 σ hf
    exact absurd hf (by simp [pX3_tallyMatches_51])
  | succ n ih =>
    intro x1 x2 x3 x4 σ hf H locs ls hH hl
    rw [pX3_tallyMatches_51] at hf
    refine lv_iload hx hb dX3_tallyMatches_51 (lv_at hl 4 rfl) ?_
    refine lv_aload_n hx hb dX3_tallyMatches_53 rfl (lv_at hl 0 rfl) ?_
    refine fw_get (id := 1) (k := 0) (v := .ref (adr 12)) X hH (by decide) (fc_1 (by decide)) rfl inX3 (by decide) rfl tw_1_105 dX3_tallyMatches_54 ?_
    refine fw_getN (id := 12) (k := 1) (v := .ref (adr 15)) X hH (by decide) (fc_12 (by decide)) rfl inX5 (by decide) rfl nw_1_89 dX3_tallyMatches_57 ?_
    refine fw_getN (id := 15) (k := 2) (v := .int (fw_g σ 15 2)) X hH (by decide) (fc_13 (by decide)) rfl inX2 (by decide) rfl nw_1_46 dX3_tallyMatches_60 ?_
    refine lv_icmp_ge (tgt := 144) hx hb dX3_tallyMatches_63 (by decide) (fun hc => ?_) (fun hc => ?_)
    · have hf := fw_pos hc hf
      refine lv_iinc (v := (x1 + (1 : Int32))) (lv' := [(1, .int (x1 + (1 : Int32))), (0, .ref (adr 1)), (2, .int x2), (3, .int x3), (4, .int x4)]) hx hb dX3_tallyMatches_144 hl (k := 1) rfl rfl (by decide) rfl (fun ls hl => ?_)
      refine lv_goto (tgt := 10) hx hb dX3_tallyMatches_147 (by decide) ?_
      exact hK10 (x1 + (1 : Int32)) σ hf _ _ _ hH (lv_sub hl [1, 0] rfl)
    · have hf := fw_neg hc hf
      refine lv_aload_n hx hb dX3_tallyMatches_66 rfl (lv_at hl 0 rfl) ?_
      refine fw_get (id := 1) (k := 0) (v := .ref (adr 12)) X hH (by decide) (fc_1 (by decide)) rfl inX3 (by decide) rfl tw_1_105 dX3_tallyMatches_67 ?_
      refine fw_getN (id := 12) (k := 1) (v := .ref (adr 15)) X hH (by decide) (fc_12 (by decide)) rfl inX5 (by decide) rfl nw_1_89 dX3_tallyMatches_70 ?_
      refine lv_iload hx hb dX3_tallyMatches_73 (lv_at hl 4 rfl) ?_
      obtain ⟨w11, τ10, g9, hf⟩ := fw_b2s hf
      refine fw_ci hH (fw_rV (As := [.int x4]) (rest := []) (id := 15) X hH (kX2_secondAt (by unfold fw_PL; decide) g9 _) qX2_secondAt tw_2_111 ⟨Nat.le_of_ble_eq_true rfl, Nat.le_of_ble_eq_true rfl⟩ rfl rfl (by decide) (fc_13 (by decide)) rfl rfl hl.1 rfl (Nat.le_of_ble_eq_true rfl) dX3_tallyMatches_75) (fun H locs hH => ?_)
      refine lv_istore (lv' := [(5, .int w11), (0, .ref (adr 1)), (1, .int x1), (2, .int x2), (3, .int x3), (4, .int x4)]) hx hb dX3_tallyMatches_78 hl (by decide) rfl (fun ls hl => ?_)
      refine lv_aload_n hx hb dX3_tallyMatches_80 rfl (lv_at hl 1 rfl) ?_
      refine fw_get (id := 1) (k := 0) (v := .ref (adr 12)) X hH (by decide) (fc_1 (by decide)) rfl inX3 (by decide) rfl tw_1_105 dX3_tallyMatches_81 ?_
      refine fw_getN (id := 12) (k := 1) (v := .ref (adr 15)) X hH (by decide) (fc_12 (by decide)) rfl inX5 (by decide) rfl nw_1_89 dX3_tallyMatches_84 ?_
      refine lv_iload hx hb dX3_tallyMatches_87 (lv_at hl 5 rfl) ?_
      obtain ⟨w14, τ13, g12, hf⟩ := fw_b2s hf
      refine fw_ci hH (fw_rV (As := [.int x4]) (rest := []) (id := 15) X hH (kX2_firstAt (by unfold fw_PL; decide) g12 _) qX2_firstAt tw_2_106 ⟨Nat.le_of_ble_eq_true rfl, Nat.le_of_ble_eq_true rfl⟩ rfl rfl (by decide) (fc_13 (by decide)) rfl rfl hl.1 rfl (Nat.le_of_ble_eq_true rfl) dX3_tallyMatches_89) (fun H locs hH => ?_)
      refine lv_iload_n hx hb dX3_tallyMatches_92 rfl (lv_at hl 4 rfl) ?_
      refine lv_icmp_ne (tgt := 138) hx hb dX3_tallyMatches_93 (by decide) (fun hc => ?_) (fun hc => ?_)
      · have hf := fw_neg hc hf
        refine lv_iinc (v := (x4 + (1 : Int32))) (lv' := [(4, .int (x4 + (1 : Int32))), (5, .int w11), (0, .ref (adr 1)), (1, .int x1), (2, .int x2), (3, .int x3)]) hx hb dX3_tallyMatches_138 hl (k := 5) rfl rfl (by decide) rfl (fun ls hl => ?_)
        refine lv_goto (tgt := 51) hx hb dX3_tallyMatches_141 (by decide) ?_
        exact ih x1 x2 x3 (x4 + (1 : Int32)) τ13 hf _ _ _ hH (lv_sub hl [2, 3, 4, 5, 0] rfl)
      · have hf := fw_pos hc hf
        refine lv_iload_n hx hb dX3_tallyMatches_96 rfl (lv_at hl 3 rfl) ?_
        refine lv_iload hx hb dX3_tallyMatches_97 (lv_at hl 0 rfl) ?_
        obtain ⟨w17, τ16, g15, hf⟩ := fw_b2s hf
        refine fw_ci hH (fw_rN (As := [.int x2, .int w11]) (rest := []) X hH (kX7_isPair  g15 _) qX7_isPair nw_2_148 ⟨Nat.le_of_ble_eq_true rfl, Nat.le_of_ble_eq_true rfl⟩ rfl rfl rfl hl.1 rfl (Nat.le_of_ble_eq_true rfl) dX3_tallyMatches_99) (fun H locs hH => ?_)
        refine lv_if_eq (tgt := 138) hx hb dX3_tallyMatches_102 (by decide) (fun hc => ?_) (fun hc => ?_)
        · have hf := fw_pos hc hf
          refine lv_iinc (v := (x4 + (1 : Int32))) (lv' := [(4, .int (x4 + (1 : Int32))), (5, .int w11), (0, .ref (adr 1)), (1, .int x1), (2, .int x2), (3, .int x3)]) hx hb dX3_tallyMatches_138 hl (k := 5) rfl rfl (by decide) rfl (fun ls hl => ?_)
          refine lv_goto (tgt := 51) hx hb dX3_tallyMatches_141 (by decide) ?_
          exact ih x1 x2 x3 (x4 + (1 : Int32)) τ16 hf _ _ _ hH (lv_sub hl [2, 3, 4, 5, 0] rfl)
        · have hf := fw_neg hc hf
          refine lv_aload_n hx hb dX3_tallyMatches_105 rfl (lv_at hl 1 rfl) ?_
          refine fw_get (id := 1) (k := 0) (v := .ref (adr 12)) X hH (by decide) (fc_1 (by decide)) rfl inX3 (by decide) rfl tw_1_105 dX3_tallyMatches_106 ?_
          refine fw_getN (id := 12) (k := 2) (v := .ref (adr 17)) X hH (by decide) (fc_12 (by decide)) rfl inX5 (by decide) rfl nw_1_91 dX3_tallyMatches_109 ?_
          refine lv_iload_n hx hb dX3_tallyMatches_112 rfl (lv_at hl 3 rfl) ?_
          refine lv_iload_n hx hb dX3_tallyMatches_113 rfl (lv_at hl 4 rfl) ?_
          refine lv_iload hx hb dX3_tallyMatches_114 (lv_at hl 0 rfl) ?_
          obtain ⟨w20, τ19, g18, hf⟩ := fw_b2s hf
          refine fw_ci hH (fw_rV (As := [.int x2, .int x3, .int w11]) (rest := []) (id := 17) X hH (kX0_rejecters (by unfold fw_FL; decide) g18 _) qX0_rejecters tw_2_149 ⟨Nat.le_of_ble_eq_true rfl, Nat.le_of_ble_eq_true rfl⟩ rfl rfl (by decide) (fc_15 (by decide)) rfl rfl hl.1 rfl (Nat.le_of_ble_eq_true rfl) dX3_tallyMatches_116) (fun H locs hH => ?_)
          refine lv_if_ne (tgt := 138) hx hb dX3_tallyMatches_119 (by decide) (fun hc => ?_) (fun hc => ?_)
          · have hf := fw_neg hc hf
            refine lv_iinc (v := (x4 + (1 : Int32))) (lv' := [(4, .int (x4 + (1 : Int32))), (5, .int w11), (0, .ref (adr 1)), (1, .int x1), (2, .int x2), (3, .int x3)]) hx hb dX3_tallyMatches_138 hl (k := 5) rfl rfl (by decide) rfl (fun ls hl => ?_)
            refine lv_goto (tgt := 51) hx hb dX3_tallyMatches_141 (by decide) ?_
            exact ih x1 x2 x3 (x4 + (1 : Int32)) τ19 hf _ _ _ hH (lv_sub hl [2, 3, 4, 5, 0] rfl)
          · have hf := fw_pos hc hf
            refine lv_aload_n hx hb dX3_tallyMatches_122 rfl (lv_at hl 1 rfl) ?_
            refine fw_get (id := 1) (k := 1) (v := .ref (adr 10)) X hH (by decide) (fc_1 (by decide)) rfl inX3 (by decide) rfl tw_1_107 dX3_tallyMatches_123 ?_
            refine lv_bipush (v := (10 : Int32)) hx hb dX3_tallyMatches_126 (by decide) ?_
            refine lv_iload_n hx hb dX3_tallyMatches_128 rfl (lv_at hl 3 rfl) ?_
            refine lv_imul hx hb dX3_tallyMatches_129 ?_
            refine lv_iload hx hb dX3_tallyMatches_130 (lv_at hl 0 rfl) ?_
            refine lv_iadd hx hb dX3_tallyMatches_132 ?_
            refine lv_dup2_11 hx hb dX3_tallyMatches_133 rfl rfl ?_
            obtain ⟨w21, g22, hf⟩ := fw_bd hf
            refine fw_iald (id := 10) (n := 100) X hH (by decide) (fc_10 (by decide)) rfl g22 dX3_tallyMatches_134 ?_
            refine lv_iconst (v := (1 : Int32)) hx hb dX3_tallyMatches_135 (by decide) ?_
            refine lv_iadd hx hb dX3_tallyMatches_136 ?_
            obtain ⟨τ23, g24, hf⟩ := fw_bd hf
            refine fw_iast (id := 10) (n := 100) X hH (by decide) (fun σ => fc_10 (by decide)) (fun k x j h => fc_ne h) rfl g24 dX3_tallyMatches_137 (fun H locs hH => ?_)
            refine lv_iinc (v := (x4 + (1 : Int32))) (lv' := [(4, .int (x4 + (1 : Int32))), (5, .int w11), (0, .ref (adr 1)), (1, .int x1), (2, .int x2), (3, .int x3)]) hx hb dX3_tallyMatches_138 hl (k := 5) rfl rfl (by decide) rfl (fun ls hl => ?_)
            refine lv_goto (tgt := 51) hx hb dX3_tallyMatches_141 (by decide) ?_
            exact ih x1 x2 x3 (x4 + (1 : Int32)) τ23 hf _ _ _ hH (lv_sub hl [2, 3, 4, 5, 0] rfl)
def pX3_tallyMatches_10 : Nat → Int32 → fw_T → Option (fw_T)
  | 0, _, _ => none
  | n + 1, x1, σ =>
    if (fw_g σ 13 2) ≤ x1 then
      some σ
    else
      fw_b2 (pX2_firstAt 13 x1 σ) fun w5 τ4 =>
      fw_b2 (pX2_secondAt 13 x1 τ4) fun w8 τ7 =>
      pX3_tallyMatches_51 (fun a0 σ => pX3_tallyMatches_10 n a0 σ) 400 x1 w5 w8 (0 : Int32) τ7
set_option maxRecDepth 100000 in
set_option maxHeartbeats 4000000 in
theorem wX3_tallyMatches_10 {args : Array Value} {σ' : fw_T} (X : fcX p m c cX3_tallyMatches 6 s args RX3 meth none D cI cO)  : ∀ (n : Nat), ∀ (x1 : Int32), ∀ (σ : fw_T), pX3_tallyMatches_10 n x1 σ = some σ' → ∀ (H : Heap) (locs : List Loc) (ls : Array Slot), fcH D cI cO adr A s H locs σ → lv_has ls 6 [(0, .ref (adr 1)), (1, .int x1)] → W p l e rmX3_tallyMatches s m args below meth c H locs 0 0 (fw_Qv D 96 adr (fw_C cI cO adr) A below args s σ') (F0 m 10 ls []) := by
  have hx := X.1.1
  have hb := X.1.2.1
  intro n
  induction n with
  | zero =>
    intro x1 σ hf
    exact absurd hf (by simp [pX3_tallyMatches_10])
  | succ n ih =>
    intro x1 σ hf H locs ls hH hl
    rw [pX3_tallyMatches_10] at hf
    refine lv_iload_n hx hb dX3_tallyMatches_10 rfl (lv_at hl 1 rfl) ?_
    refine lv_aload_n hx hb dX3_tallyMatches_11 rfl (lv_at hl 0 rfl) ?_
    refine fw_get (id := 1) (k := 0) (v := .ref (adr 12)) X hH (by decide) (fc_1 (by decide)) rfl inX3 (by decide) rfl tw_1_105 dX3_tallyMatches_12 ?_
    refine fw_getN (id := 12) (k := 0) (v := .ref (adr 13)) X hH (by decide) (fc_12 (by decide)) rfl inX5 (by decide) rfl nw_1_86 dX3_tallyMatches_15 ?_
    refine fw_getN (id := 13) (k := 2) (v := .int (fw_g σ 13 2)) X hH (by decide) (fc_13 (by decide)) rfl inX2 (by decide) rfl nw_1_46 dX3_tallyMatches_18 ?_
    refine lv_icmp_ge (tgt := 150) hx hb dX3_tallyMatches_21 (by decide) (fun hc => ?_) (fun hc => ?_)
    · have hf := fw_pos hc hf
      obtain rfl := Option.some.inj hf
      exact fw_retv X hH dX3_tallyMatches_150
    · have hf := fw_neg hc hf
      refine lv_aload_n hx hb dX3_tallyMatches_24 rfl (lv_at hl 0 rfl) ?_
      refine fw_get (id := 1) (k := 0) (v := .ref (adr 12)) X hH (by decide) (fc_1 (by decide)) rfl inX3 (by decide) rfl tw_1_105 dX3_tallyMatches_25 ?_
      refine fw_getN (id := 12) (k := 0) (v := .ref (adr 13)) X hH (by decide) (fc_12 (by decide)) rfl inX5 (by decide) rfl nw_1_86 dX3_tallyMatches_28 ?_
      refine lv_iload_n hx hb dX3_tallyMatches_31 rfl (lv_at hl 1 rfl) ?_
      obtain ⟨w5, τ4, g3, hf⟩ := fw_b2s hf
      refine fw_ci hH (fw_rV (As := [.int x1]) (rest := []) (id := 13) X hH (kX2_firstAt (by unfold fw_PL; decide) g3 _) qX2_firstAt tw_2_106 ⟨Nat.le_of_ble_eq_true rfl, Nat.le_of_ble_eq_true rfl⟩ rfl rfl (by decide) (fc_13 (by decide)) rfl rfl hl.1 rfl (Nat.le_of_ble_eq_true rfl) dX3_tallyMatches_32) (fun H locs hH => ?_)
      refine lv_istore_n (lv' := [(2, .int w5), (0, .ref (adr 1)), (1, .int x1)]) hx hb dX3_tallyMatches_35 rfl hl (by decide) rfl (fun ls hl => ?_)
      refine lv_aload_n hx hb dX3_tallyMatches_36 rfl (lv_at hl 1 rfl) ?_
      refine fw_get (id := 1) (k := 0) (v := .ref (adr 12)) X hH (by decide) (fc_1 (by decide)) rfl inX3 (by decide) rfl tw_1_105 dX3_tallyMatches_37 ?_
      refine fw_getN (id := 12) (k := 0) (v := .ref (adr 13)) X hH (by decide) (fc_12 (by decide)) rfl inX5 (by decide) rfl nw_1_86 dX3_tallyMatches_40 ?_
      refine lv_iload_n hx hb dX3_tallyMatches_43 rfl (lv_at hl 2 rfl) ?_
      obtain ⟨w8, τ7, g6, hf⟩ := fw_b2s hf
      refine fw_ci hH (fw_rV (As := [.int x1]) (rest := []) (id := 13) X hH (kX2_secondAt (by unfold fw_PL; decide) g6 _) qX2_secondAt tw_2_111 ⟨Nat.le_of_ble_eq_true rfl, Nat.le_of_ble_eq_true rfl⟩ rfl rfl (by decide) (fc_13 (by decide)) rfl rfl hl.1 rfl (Nat.le_of_ble_eq_true rfl) dX3_tallyMatches_44) (fun H locs hH => ?_)
      refine lv_istore_n (lv' := [(3, .int w8), (2, .int w5), (0, .ref (adr 1)), (1, .int x1)]) hx hb dX3_tallyMatches_47 rfl hl (by decide) rfl (fun ls hl => ?_)
      refine lv_iconst (v := (0 : Int32)) hx hb dX3_tallyMatches_48 (by decide) ?_
      refine lv_istore (lv' := [(4, .int (0 : Int32)), (3, .int w8), (2, .int w5), (0, .ref (adr 1)), (1, .int x1)]) hx hb dX3_tallyMatches_49 hl (by decide) rfl (fun ls hl => ?_)
      exact wX3_tallyMatches_51 X ih 400 x1 w5 w8 (0 : Int32) τ7 hf _ _ _ hH (lv_sub hl [3, 4, 2, 1, 0] rfl)
def pX3_tallyMatches (σ : fw_T) : Option (fw_T) :=
  (pJ7_fill_53178 (0 : Int32) σ).bind fun τ2 =>
  pX3_tallyMatches_10 400 (0 : Int32) τ2
set_option maxRecDepth 100000 in
set_option maxHeartbeats 4000000 in
theorem kX3_tallyMatches {σ σ' : fw_T} (hf : pX3_tallyMatches σ = some σ') : fw_Cv l yX3_tallyMatches (Cond.code yX3_tallyMatches cX3_tallyMatches 6 none :: lwT) rmX3_tallyMatches [.ref (adr 1)] D 96 adr (fw_C cI cO adr) (fcT cI cO) nwC σ σ' := by
  refine fw_start (Qc := (fun A => va_Qv (fun (_ : Unit) => True) (fun _ t => va_P D vwCl (fw_ws 96 adr (fw_C cI cO adr σ')) t.heap) A)) (by decide) (by simp [lg_sl, Value.category]) rfl ?_
  intro p e s m below meth c A X hH ls hl
  have hx := X.1.1
  have hb := X.1.2.1
  have hl : lv_has ls 6 [(0, .ref (adr 1))] := hl
  unfold pX3_tallyMatches at hf
  refine lv_aload_n hx hb dX3_tallyMatches_0 rfl (lv_at hl 0 rfl) ?_
  refine fw_get (id := 1) (k := 1) (v := .ref (adr 10)) X hH (by decide) (fc_1 (by decide)) rfl inX3 (by decide) rfl tw_1_107 dX3_tallyMatches_1 ?_
  refine lv_iconst (v := (0 : Int32)) hx hb dX3_tallyMatches_4 (by decide) ?_
  obtain ⟨τ2, g1, hf⟩ := fw_bd hf
  refine fw_cv hH (fw_rS (As := [.ref (adr 10), .int (0 : Int32)]) (rest := []) X hH (kJ7_fill_53178  g1 _) qJ7_fill_53178 tw_2_145 ⟨Nat.le_of_ble_eq_true rfl, Nat.le_of_ble_eq_true rfl⟩ rfl rfl rfl hl.1 rfl (Nat.le_of_ble_eq_true rfl) dX3_tallyMatches_5) (fun H locs hH => ?_)
  refine lv_iconst (v := (0 : Int32)) hx hb dX3_tallyMatches_8 (by decide) ?_
  refine lv_istore_n (lv' := [(1, .int (0 : Int32)), (0, .ref (adr 1))]) hx hb dX3_tallyMatches_9 rfl hl (by decide) rfl (fun ls hl => ?_)
  exact wX3_tallyMatches_10 X 400 (0 : Int32) τ2 hf _ _ _ hH (lv_sub hl [1, 0] rfl)
abbrev rmX3_countAnswers : Room := { frames := 4, cells := 0, slots := 0, locals := 98 }
theorem qX3_countAnswers : fw_QV RX3 yX3_countAnswers cX3_countAnswers 3 (some .int) 0 := ⟨⟨tw_2_138, tw_2_139, tw_1_2, tw_2_140⟩, by decide +kernel⟩
def pX3_countAnswers_8 : Nat → Int32 → Int32 → fw_T → Option (Int32 × fw_T)
  | 0, _, _, _ => none
  | n + 1, x1, x2, σ =>
    if (100 : Int32) ≤ x2 then
      some (x1, σ)
    else
      (fw_rd σ 10 100 x2).bind fun w3 =>
      if w3 ≤ 0 then
        pX3_countAnswers_8 n x1 (x2 + (1 : Int32)) σ
      else
        pX3_countAnswers_8 n (x1 + (1 : Int32)) (x2 + (1 : Int32)) σ
set_option maxRecDepth 100000 in
set_option maxHeartbeats 4000000 in
theorem wX3_countAnswers_8 {args : Array Value} {r : Int32} {σ' : fw_T} (X : fcX p m c cX3_countAnswers 3 s args RX3 meth (some .int) D cI cO)  : ∀ (n : Nat), ∀ (x1 : Int32), ∀ (x2 : Int32), ∀ (σ : fw_T), pX3_countAnswers_8 n x1 x2 σ = some (r, σ') → ∀ (H : Heap) (locs : List Loc) (ls : Array Slot), fcH D cI cO adr A s H locs σ → lv_has ls 3 [(0, .ref (adr 1)), (1, .int x1), (2, .int x2)] → W p l e rmX3_countAnswers s m args below meth c H locs 0 0 (fw_Qi D 96 adr (fw_C cI cO adr) A below args s r σ') (F0 m 8 ls []) := by
  have hx := X.1.1
  have hb := X.1.2.1
  intro n
  induction n with
  | zero =>
    intro x1 x2 σ hf
    exact absurd hf (by simp [pX3_countAnswers_8])
  | succ n ih =>
    intro x1 x2 σ hf H locs ls hH hl
    rw [pX3_countAnswers_8] at hf
    refine lv_iload_n hx hb dX3_countAnswers_8 rfl (lv_at hl 2 rfl) ?_
    refine lv_bipush (v := (100 : Int32)) hx hb dX3_countAnswers_9 (by decide) ?_
    refine lv_icmp_ge (tgt := 32) hx hb dX3_countAnswers_11 (by decide) (fun hc => ?_) (fun hc => ?_)
    · have hf := fw_pos hc hf
      refine lv_iload_n hx hb dX3_countAnswers_32 rfl (lv_at hl 1 rfl) ?_
      obtain ⟨rfl, rfl⟩ := fw_s2 hf
      exact fw_reti X hH dX3_countAnswers_33
    · have hf := fw_neg hc hf
      refine lv_aload_n hx hb dX3_countAnswers_14 rfl (lv_at hl 0 rfl) ?_
      refine fw_get (id := 1) (k := 1) (v := .ref (adr 10)) X hH (by decide) (fc_1 (by decide)) rfl inX3 (by decide) rfl tw_1_107 dX3_countAnswers_15 ?_
      refine lv_iload_n hx hb dX3_countAnswers_18 rfl (lv_at hl 2 rfl) ?_
      obtain ⟨w3, g4, hf⟩ := fw_bd hf
      refine fw_iald (id := 10) (n := 100) X hH (by decide) (fc_10 (by decide)) rfl g4 dX3_countAnswers_19 ?_
      refine lv_if_le (tgt := 26) hx hb dX3_countAnswers_20 (by decide) (fun hc => ?_) (fun hc => ?_)
      · have hf := fw_pos hc hf
        refine lv_iinc (v := (x2 + (1 : Int32))) (lv' := [(2, .int (x2 + (1 : Int32))), (0, .ref (adr 1)), (1, .int x1)]) hx hb dX3_countAnswers_26 hl (k := 2) rfl rfl (by decide) rfl (fun ls hl => ?_)
        refine lv_goto (tgt := 8) hx hb dX3_countAnswers_29 (by decide) ?_
        exact ih x1 (x2 + (1 : Int32)) σ hf _ _ _ hH (lv_sub hl [1, 2, 0] rfl)
      · have hf := fw_neg hc hf
        refine lv_iinc (v := (x1 + (1 : Int32))) (lv' := [(1, .int (x1 + (1 : Int32))), (0, .ref (adr 1)), (2, .int x2)]) hx hb dX3_countAnswers_23 hl (k := 1) rfl rfl (by decide) rfl (fun ls hl => ?_)
        refine lv_iinc (v := (x2 + (1 : Int32))) (lv' := [(2, .int (x2 + (1 : Int32))), (1, .int (x1 + (1 : Int32))), (0, .ref (adr 1))]) hx hb dX3_countAnswers_26 hl (k := 2) rfl rfl (by decide) rfl (fun ls hl => ?_)
        refine lv_goto (tgt := 8) hx hb dX3_countAnswers_29 (by decide) ?_
        exact ih (x1 + (1 : Int32)) (x2 + (1 : Int32)) σ hf _ _ _ hH (lv_sub hl [2, 1, 0] rfl)
def pX3_countAnswers (σ : fw_T) : Option (Int32 × fw_T) :=
  (pX3_tallyMatches σ).bind fun τ2 =>
  pX3_countAnswers_8 400 (0 : Int32) (0 : Int32) τ2
set_option maxRecDepth 100000 in
set_option maxHeartbeats 4000000 in
theorem kX3_countAnswers {r : Int32} {σ σ' : fw_T} (hf : pX3_countAnswers σ = some (r, σ')) : fw_Ci l yX3_countAnswers (Cond.code yX3_countAnswers cX3_countAnswers 3 (some .int) :: lwT) rmX3_countAnswers [.ref (adr 1)] D 96 adr (fw_C cI cO adr) (fcT cI cO) nwC σ r σ' := by
  refine fw_start (Qc := (fun A => va_Qi (fun r' (_ : Unit) => r' = r) (fun _ t => va_P D vwCl (fw_ws 96 adr (fw_C cI cO adr σ')) t.heap) A)) (by decide) (by simp [lg_sl, Value.category]) rfl ?_
  intro p e s m below meth c A X hH ls hl
  have hx := X.1.1
  have hb := X.1.2.1
  have hl : lv_has ls 3 [(0, .ref (adr 1))] := hl
  unfold pX3_countAnswers at hf
  refine lv_aload_n hx hb dX3_countAnswers_0 rfl (lv_at hl 0 rfl) ?_
  obtain ⟨τ2, g1, hf⟩ := fw_bd hf
  refine fw_cv hH (fw_rV (As := []) (rest := []) (id := 1) X hH (kX3_tallyMatches  g1 _) qX3_tallyMatches tw_2_141 ⟨Nat.le_of_ble_eq_true rfl, Nat.le_of_ble_eq_true rfl⟩ rfl rfl (by decide) (fc_1 (by decide)) rfl rfl hl.1 rfl (Nat.le_of_ble_eq_true rfl) dX3_countAnswers_1) (fun H locs hH => ?_)
  refine lv_iconst (v := (0 : Int32)) hx hb dX3_countAnswers_4 (by decide) ?_
  refine lv_istore_n (lv' := [(1, .int (0 : Int32)), (0, .ref (adr 1))]) hx hb dX3_countAnswers_5 rfl hl (by decide) rfl (fun ls hl => ?_)
  refine lv_iconst (v := (0 : Int32)) hx hb dX3_countAnswers_6 (by decide) ?_
  refine lv_istore_n (lv' := [(2, .int (0 : Int32)), (1, .int (0 : Int32)), (0, .ref (adr 1))]) hx hb dX3_countAnswers_7 rfl hl (by decide) rfl (fun ls hl => ?_)
  exact wX3_countAnswers_8 X 400 (0 : Int32) (0 : Int32) τ2 hf _ _ _ hH (lv_sub hl [2, 1, 0] rfl)
abbrev rmX7_answerCount : Room := { frames := 5, cells := 0, slots := 0, locals := 120 }
theorem qX7_answerCount : fw_QV RX7 yX7_answerCount cX7_answerCount 1 (some .int) 0 := ⟨⟨tw_2_134, tw_2_135, tw_1_1, tw_2_136⟩, by decide +kernel⟩
def pX7_answerCount (σ : fw_T) : Option (Int32 × fw_T) :=
  fw_b2 (pX3_countAnswers σ) fun w3 τ2 =>
  some (w3, τ2)
set_option maxRecDepth 100000 in
set_option maxHeartbeats 4000000 in
theorem kX7_answerCount {r : Int32} {σ σ' : fw_T} (hf : pX7_answerCount σ = some (r, σ')) : fw_Ci l yX7_answerCount (Cond.code yX7_answerCount cX7_answerCount 1 (some .int) :: lwT) rmX7_answerCount [.ref (adr 0)] D 96 adr (fw_C cI cO adr) (fcT cI cO) nwC σ r σ' := by
  refine fw_start (Qc := (fun A => va_Qi (fun r' (_ : Unit) => r' = r) (fun _ t => va_P D vwCl (fw_ws 96 adr (fw_C cI cO adr σ')) t.heap) A)) (by decide) (by simp [lg_sl, Value.category]) rfl ?_
  intro p e s m below meth c A X hH ls hl
  have hx := X.1.1
  have hb := X.1.2.1
  have hl : lv_has ls 1 [(0, .ref (adr 0))] := hl
  unfold pX7_answerCount at hf
  refine lv_aload_n hx hb dX7_answerCount_0 rfl (lv_at hl 0 rfl) ?_
  refine fw_get (id := 0) (k := 0) (v := .ref (adr 1)) X hH (by decide) (fc_0 (by decide)) rfl inX7 (by decide) rfl tw_1_177 dX7_answerCount_1 ?_
  obtain ⟨w3, τ2, g1, hf⟩ := fw_b2s hf
  refine fw_ci hH (fw_rV (As := []) (rest := []) (id := 1) X hH (kX3_countAnswers  g1 _) qX3_countAnswers tw_2_137 ⟨Nat.le_of_ble_eq_true rfl, Nat.le_of_ble_eq_true rfl⟩ rfl rfl (by decide) (fc_1 (by decide)) rfl rfl hl.1 rfl (Nat.le_of_ble_eq_true rfl) dX7_answerCount_4) (fun H locs hH => ?_)
  obtain ⟨rfl, rfl⟩ := fw_s2 hf
  exact fw_reti X hH dX7_answerCount_7
abbrev rmX3_answerAt : Room := { frames := 4, cells := 0, slots := 0, locals := 98 }
theorem qX3_answerAt : fw_QV RX3 yX3_answerAt cX3_answerAt 4 (some .int) 1 := ⟨⟨tw_2_159, tw_2_160, tw_1_2, tw_2_161⟩, by decide +kernel⟩
def pX3_answerAt_8 : Nat → Int32 → Int32 → Int32 → fw_T → Option (Int32 × fw_T)
  | 0, _, _, _, _ => none
  | n + 1, x1, x2, x3, σ =>
    if (100 : Int32) ≤ x3 then
      some ((-10001 : Int32), σ)
    else
      (fw_rd σ 10 100 x3).bind fun w3 =>
      if w3 ≤ 0 then
        pX3_answerAt_8 n x1 x2 (x3 + (1 : Int32)) σ
      else
        if x2 = x1 then
          some (x3, σ)
        else
          pX3_answerAt_8 n x1 (x2 + (1 : Int32)) (x3 + (1 : Int32)) σ
set_option maxRecDepth 100000 in
set_option maxHeartbeats 4000000 in
theorem wX3_answerAt_8 {args : Array Value} {r : Int32} {σ' : fw_T} (X : fcX p m c cX3_answerAt 4 s args RX3 meth (some .int) D cI cO)  : ∀ (n : Nat), ∀ (x1 : Int32), ∀ (x2 : Int32), ∀ (x3 : Int32), ∀ (σ : fw_T), pX3_answerAt_8 n x1 x2 x3 σ = some (r, σ') → ∀ (H : Heap) (locs : List Loc) (ls : Array Slot), fcH D cI cO adr A s H locs σ → lv_has ls 4 [(0, .ref (adr 1)), (1, .int x1), (2, .int x2), (3, .int x3)] → W p l e rmX3_answerAt s m args below meth c H locs 0 0 (fw_Qi D 96 adr (fw_C cI cO adr) A below args s r σ') (F0 m 8 ls []) := by
  have hx := X.1.1
  have hb := X.1.2.1
  intro n
  induction n with
  | zero =>
    intro x1 x2 x3 σ hf
    exact absurd hf (by simp [pX3_answerAt_8])
  | succ n ih =>
    intro x1 x2 x3 σ hf H locs ls hH hl
    rw [pX3_answerAt_8] at hf
    refine lv_iload_n hx hb dX3_answerAt_8 rfl (lv_at hl 3 rfl) ?_
    refine lv_bipush (v := (100 : Int32)) hx hb dX3_answerAt_9 (by decide) ?_
    refine lv_icmp_ge (tgt := 39) hx hb dX3_answerAt_11 (by decide) (fun hc => ?_) (fun hc => ?_)
    · have hf := fw_pos hc hf
      refine lv_sipush (v := (-10001 : Int32)) hx hb dX3_answerAt_39 (by decide) ?_
      obtain ⟨rfl, rfl⟩ := fw_s2 hf
      exact fw_reti X hH dX3_answerAt_42
    · have hf := fw_neg hc hf
      refine lv_aload_n hx hb dX3_answerAt_14 rfl (lv_at hl 0 rfl) ?_
      refine fw_get (id := 1) (k := 1) (v := .ref (adr 10)) X hH (by decide) (fc_1 (by decide)) rfl inX3 (by decide) rfl tw_1_107 dX3_answerAt_15 ?_
      refine lv_iload_n hx hb dX3_answerAt_18 rfl (lv_at hl 3 rfl) ?_
      obtain ⟨w3, g4, hf⟩ := fw_bd hf
      refine fw_iald (id := 10) (n := 100) X hH (by decide) (fc_10 (by decide)) rfl g4 dX3_answerAt_19 ?_
      refine lv_if_le (tgt := 33) hx hb dX3_answerAt_20 (by decide) (fun hc => ?_) (fun hc => ?_)
      · have hf := fw_pos hc hf
        refine lv_iinc (v := (x3 + (1 : Int32))) (lv' := [(3, .int (x3 + (1 : Int32))), (0, .ref (adr 1)), (1, .int x1), (2, .int x2)]) hx hb dX3_answerAt_33 hl (k := 3) rfl rfl (by decide) rfl (fun ls hl => ?_)
        refine lv_goto (tgt := 8) hx hb dX3_answerAt_36 (by decide) ?_
        exact ih x1 x2 (x3 + (1 : Int32)) σ hf _ _ _ hH (lv_sub hl [1, 2, 3, 0] rfl)
      · have hf := fw_neg hc hf
        refine lv_iload_n hx hb dX3_answerAt_23 rfl (lv_at hl 2 rfl) ?_
        refine lv_iload_n hx hb dX3_answerAt_24 rfl (lv_at hl 1 rfl) ?_
        refine lv_icmp_ne (tgt := 30) hx hb dX3_answerAt_25 (by decide) (fun hc => ?_) (fun hc => ?_)
        · have hf := fw_neg hc hf
          refine lv_iinc (v := (x2 + (1 : Int32))) (lv' := [(2, .int (x2 + (1 : Int32))), (0, .ref (adr 1)), (1, .int x1), (3, .int x3)]) hx hb dX3_answerAt_30 hl (k := 2) rfl rfl (by decide) rfl (fun ls hl => ?_)
          refine lv_iinc (v := (x3 + (1 : Int32))) (lv' := [(3, .int (x3 + (1 : Int32))), (2, .int (x2 + (1 : Int32))), (0, .ref (adr 1)), (1, .int x1)]) hx hb dX3_answerAt_33 hl (k := 3) rfl rfl (by decide) rfl (fun ls hl => ?_)
          refine lv_goto (tgt := 8) hx hb dX3_answerAt_36 (by decide) ?_
          exact ih x1 (x2 + (1 : Int32)) (x3 + (1 : Int32)) σ hf _ _ _ hH (lv_sub hl [2, 3, 1, 0] rfl)
        · have hf := fw_pos hc hf
          refine lv_iload_n hx hb dX3_answerAt_28 rfl (lv_at hl 3 rfl) ?_
          obtain ⟨rfl, rfl⟩ := fw_s2 hf
          exact fw_reti X hH dX3_answerAt_29
def pX3_answerAt (x1 : Int32) (σ : fw_T) : Option (Int32 × fw_T) :=
  (pX3_tallyMatches σ).bind fun τ2 =>
  pX3_answerAt_8 400 x1 (0 : Int32) (0 : Int32) τ2
set_option maxRecDepth 100000 in
set_option maxHeartbeats 4000000 in
theorem kX3_answerAt {x1 : Int32} {r : Int32} {σ σ' : fw_T} (hf : pX3_answerAt x1 σ = some (r, σ')) : fw_Ci l yX3_answerAt (Cond.code yX3_answerAt cX3_answerAt 4 (some .int) :: lwT) rmX3_answerAt [.ref (adr 1), .int x1] D 96 adr (fw_C cI cO adr) (fcT cI cO) nwC σ r σ' := by
  refine fw_start (Qc := (fun A => va_Qi (fun r' (_ : Unit) => r' = r) (fun _ t => va_P D vwCl (fw_ws 96 adr (fw_C cI cO adr σ')) t.heap) A)) (by decide) (by simp [lg_sl, Value.category]) rfl ?_
  intro p e s m below meth c A X hH ls hl
  have hx := X.1.1
  have hb := X.1.2.1
  have hl : lv_has ls 4 [(0, .ref (adr 1)), (1, .int x1)] := hl
  unfold pX3_answerAt at hf
  refine lv_aload_n hx hb dX3_answerAt_0 rfl (lv_at hl 0 rfl) ?_
  obtain ⟨τ2, g1, hf⟩ := fw_bd hf
  refine fw_cv hH (fw_rV (As := []) (rest := []) (id := 1) X hH (kX3_tallyMatches  g1 _) qX3_tallyMatches tw_2_141 ⟨Nat.le_of_ble_eq_true rfl, Nat.le_of_ble_eq_true rfl⟩ rfl rfl (by decide) (fc_1 (by decide)) rfl rfl hl.1 rfl (Nat.le_of_ble_eq_true rfl) dX3_answerAt_1) (fun H locs hH => ?_)
  refine lv_iconst (v := (0 : Int32)) hx hb dX3_answerAt_4 (by decide) ?_
  refine lv_istore_n (lv' := [(2, .int (0 : Int32)), (0, .ref (adr 1)), (1, .int x1)]) hx hb dX3_answerAt_5 rfl hl (by decide) rfl (fun ls hl => ?_)
  refine lv_iconst (v := (0 : Int32)) hx hb dX3_answerAt_6 (by decide) ?_
  refine lv_istore_n (lv' := [(3, .int (0 : Int32)), (2, .int (0 : Int32)), (0, .ref (adr 1)), (1, .int x1)]) hx hb dX3_answerAt_7 rfl hl (by decide) rfl (fun ls hl => ?_)
  exact wX3_answerAt_8 X 400 x1 (0 : Int32) (0 : Int32) τ2 hf _ _ _ hH (lv_sub hl [2, 3, 1, 0] rfl)
abbrev rmX7_answer : Room := { frames := 5, cells := 0, slots := 0, locals := 121 }
theorem qX7_answer : fw_QV RX7 yX7_answer cX7_answer 2 (some .int) 1 := ⟨⟨tw_2_155, tw_2_156, tw_1_1, tw_2_157⟩, by decide +kernel⟩
def pX7_answer (x1 : Int32) (σ : fw_T) : Option (Int32 × fw_T) :=
  if 0 ≤ x1 then
    fw_b2 (pX3_answerAt x1 σ) fun w3 τ2 =>
    fw_b2 (pX7_report w3 τ2) fun w6 τ5 =>
    some (w6, τ5)
  else
    fw_b2 (pX7_report (-10002 : Int32) σ) fun w9 τ8 =>
    some (w9, τ8)
set_option maxRecDepth 100000 in
set_option maxHeartbeats 4000000 in
theorem kX7_answer {x1 : Int32} {r : Int32} {σ σ' : fw_T} (hf : pX7_answer x1 σ = some (r, σ')) : fw_Ci l yX7_answer (Cond.code yX7_answer cX7_answer 2 (some .int) :: lwT) rmX7_answer [.ref (adr 0), .int x1] D 96 adr (fw_C cI cO adr) (fcT cI cO) nwC σ r σ' := by
  refine fw_start (Qc := (fun A => va_Qi (fun r' (_ : Unit) => r' = r) (fun _ t => va_P D vwCl (fw_ws 96 adr (fw_C cI cO adr σ')) t.heap) A)) (by decide) (by simp [lg_sl, Value.category]) rfl ?_
  intro p e s m below meth c A X hH ls hl
  have hx := X.1.1
  have hb := X.1.2.1
  have hl : lv_has ls 2 [(0, .ref (adr 0)), (1, .int x1)] := hl
  unfold pX7_answer at hf
  refine lv_aload_n hx hb dX7_answer_0 rfl (lv_at hl 0 rfl) ?_
  refine lv_iload_n hx hb dX7_answer_1 rfl (lv_at hl 1 rfl) ?_
  refine lv_if_ge (tgt := 11) hx hb dX7_answer_2 (by decide) (fun hc => ?_) (fun hc => ?_)
  · have hf := fw_pos hc hf
    refine lv_aload_n hx hb dX7_answer_11 rfl (lv_at hl 0 rfl) ?_
    refine fw_get (id := 0) (k := 0) (v := .ref (adr 1)) X hH (by decide) (fc_0 (by decide)) rfl inX7 (by decide) rfl tw_1_177 dX7_answer_12 ?_
    refine lv_iload_n hx hb dX7_answer_15 rfl (lv_at hl 1 rfl) ?_
    obtain ⟨w3, τ2, g1, hf⟩ := fw_b2s hf
    refine fw_ci hH (fw_rV (As := [.int x1]) (rest := [.ref (adr 0)]) (id := 1) X hH (kX3_answerAt  g1 _) qX3_answerAt tw_2_158 ⟨Nat.le_of_ble_eq_true rfl, Nat.le_of_ble_eq_true rfl⟩ rfl rfl (by decide) (fc_1 (by decide)) rfl rfl hl.1 rfl (Nat.le_of_ble_eq_true rfl) dX7_answer_16) (fun H locs hH => ?_)
    obtain ⟨w6, τ5, g4, hf⟩ := fw_b2s hf
    refine fw_ci hH (fw_rV (As := [.int w3]) (rest := []) (id := 0) X hH (kX7_report  g4 _) qX7_report tw_2_10 ⟨Nat.le_of_ble_eq_true rfl, Nat.le_of_ble_eq_true rfl⟩ rfl rfl (by decide) (fc_0 (by decide)) rfl rfl hl.1 rfl (Nat.le_of_ble_eq_true rfl) dX7_answer_19) (fun H locs hH => ?_)
    obtain ⟨rfl, rfl⟩ := fw_s2 hf
    exact fw_reti X hH dX7_answer_22
  · have hf := fw_neg hc hf
    refine lv_sipush (v := (-10002 : Int32)) hx hb dX7_answer_5 (by decide) ?_
    refine lv_goto (tgt := 19) hx hb dX7_answer_8 (by decide) ?_
    obtain ⟨w9, τ8, g7, hf⟩ := fw_b2s hf
    refine fw_ci hH (fw_rV (As := [.int (-10002 : Int32)]) (rest := []) (id := 0) X hH (kX7_report  g7 _) qX7_report tw_2_10 ⟨Nat.le_of_ble_eq_true rfl, Nat.le_of_ble_eq_true rfl⟩ rfl rfl (by decide) (fc_0 (by decide)) rfl rfl hl.1 rfl (Nat.le_of_ble_eq_true rfl) dX7_answer_19) (fun H locs hH => ?_)
    obtain ⟨rfl, rfl⟩ := fw_s2 hf
    exact fw_reti X hH dX7_answer_22
abbrev rmX2_secondsOf : Room := { frames := 2, cells := 0, slots := 0, locals := 42 }
theorem qX2_secondsOf : fw_QV RX2 yX2_secondsOf cX2_secondsOf 4 (some .int) 1 := ⟨⟨tw_2_176, tw_2_177, tw_1_4, tw_2_178⟩, by decide +kernel⟩
def pX2_secondsOf_4 (h : Nat) : Nat → Int32 → Int32 → Int32 → fw_T → Option (Int32 × fw_T)
  | 0, _, _, _, _ => none
  | n + 1, x1, x2, x3, σ =>
    if (fw_g σ h 2) ≤ x3 then
      some (x2, σ)
    else
      fw_b2 (pX2_firstAt h x3 σ) fun w3 τ2 =>
      if w3 = x1 then
        fw_b2 (pX2_secondAt h x3 τ2) fun w6 τ5 =>
        pX2_secondsOf_4 h n x1 (x2 ||| ((1 : Int32) <<< (w6 &&& 31))) (x3 + (1 : Int32)) τ5
      else
        pX2_secondsOf_4 h n x1 x2 (x3 + (1 : Int32)) τ2
set_option maxRecDepth 100000 in
set_option maxHeartbeats 4000000 in
theorem wX2_secondsOf_4 {h : Nat} (hk : fw_PL h) {args : Array Value} {r : Int32} {σ' : fw_T} (X : fcX p m c cX2_secondsOf 4 s args RX2 meth (some .int) D cI cO)  : ∀ (n : Nat), ∀ (x1 : Int32), ∀ (x2 : Int32), ∀ (x3 : Int32), ∀ (σ : fw_T), pX2_secondsOf_4 h n x1 x2 x3 σ = some (r, σ') → ∀ (H : Heap) (locs : List Loc) (ls : Array Slot), fcH D cI cO adr A s H locs σ → lv_has ls 4 [(0, .ref (adr h)), (1, .int x1), (2, .int x2), (3, .int x3)] → W p l e rmX2_secondsOf s m args below meth c H locs 0 0 (fw_Qi D 96 adr (fw_C cI cO adr) A below args s r σ') (F0 m 4 ls []) := by
  have hx := X.1.1
  have hb := X.1.2.1
  intro n
  induction n with
  | zero =>
    intro x1 x2 x3 σ hf
    exact absurd hf (by simp [pX2_secondsOf_4])
  | succ n ih =>
    intro x1 x2 x3 σ hf H locs ls hH hl
    rw [pX2_secondsOf_4] at hf
    refine lv_iload_n hx hb dX2_secondsOf_4 rfl (lv_at hl 3 rfl) ?_
    refine lv_aload_n hx hb dX2_secondsOf_5 rfl (lv_at hl 0 rfl) ?_
    refine fw_get (id := h) (k := 2) (v := .int (fw_g σ h 2)) X hH hk.2.1 (fc_13 hk.1) rfl inX2 (by decide) rfl tw_1_45 dX2_secondsOf_6 ?_
    refine lv_icmp_ge (tgt := 37) hx hb dX2_secondsOf_9 (by decide) (fun hc => ?_) (fun hc => ?_)
    · have hf := fw_pos hc hf
      refine lv_iload_n hx hb dX2_secondsOf_37 rfl (lv_at hl 2 rfl) ?_
      obtain ⟨rfl, rfl⟩ := fw_s2 hf
      exact fw_reti X hH dX2_secondsOf_38
    · have hf := fw_neg hc hf
      refine lv_aload_n hx hb dX2_secondsOf_12 rfl (lv_at hl 0 rfl) ?_
      refine lv_iload_n hx hb dX2_secondsOf_13 rfl (lv_at hl 3 rfl) ?_
      obtain ⟨w3, τ2, g1, hf⟩ := fw_b2s hf
      refine fw_ci hH (fw_rV (As := [.int x3]) (rest := []) (id := h) X hH (kX2_firstAt hk g1 _) qX2_firstAt tw_2_179 ⟨Nat.le_of_ble_eq_true rfl, Nat.le_of_ble_eq_true rfl⟩ rfl rfl hk.2.1 (fc_13 hk.1) rfl rfl hl.1 rfl (Nat.le_of_ble_eq_true rfl) dX2_secondsOf_14) (fun H locs hH => ?_)
      refine lv_iload_n hx hb dX2_secondsOf_17 rfl (lv_at hl 1 rfl) ?_
      refine lv_icmp_ne (tgt := 31) hx hb dX2_secondsOf_18 (by decide) (fun hc => ?_) (fun hc => ?_)
      · have hf := fw_neg hc hf
        refine lv_iinc (v := (x3 + (1 : Int32))) (lv' := [(3, .int (x3 + (1 : Int32))), (0, .ref (adr h)), (1, .int x1), (2, .int x2)]) hx hb dX2_secondsOf_31 hl (k := 3) rfl rfl (by decide) rfl (fun ls hl => ?_)
        refine lv_goto (tgt := 4) hx hb dX2_secondsOf_34 (by decide) ?_
        exact ih x1 x2 (x3 + (1 : Int32)) τ2 hf _ _ _ hH (lv_sub hl [1, 2, 3, 0] rfl)
      · have hf := fw_pos hc hf
        refine lv_iload_n hx hb dX2_secondsOf_21 rfl (lv_at hl 2 rfl) ?_
        refine lv_iconst (v := (1 : Int32)) hx hb dX2_secondsOf_22 (by decide) ?_
        refine lv_aload_n hx hb dX2_secondsOf_23 rfl (lv_at hl 0 rfl) ?_
        refine lv_iload_n hx hb dX2_secondsOf_24 rfl (lv_at hl 3 rfl) ?_
        obtain ⟨w6, τ5, g4, hf⟩ := fw_b2s hf
        refine fw_ci hH (fw_rV (As := [.int x3]) (rest := [.int (1 : Int32), .int x2]) (id := h) X hH (kX2_secondAt hk g4 _) qX2_secondAt tw_2_180 ⟨Nat.le_of_ble_eq_true rfl, Nat.le_of_ble_eq_true rfl⟩ rfl rfl hk.2.1 (fc_13 hk.1) rfl rfl hl.1 rfl (Nat.le_of_ble_eq_true rfl) dX2_secondsOf_25) (fun H locs hH => ?_)
        refine lv_ishl hx hb dX2_secondsOf_28 ?_
        refine lv_ior hx hb dX2_secondsOf_29 ?_
        refine lv_istore_n (lv' := [(2, .int (x2 ||| ((1 : Int32) <<< (w6 &&& 31)))), (0, .ref (adr h)), (1, .int x1), (3, .int x3)]) hx hb dX2_secondsOf_30 rfl hl (by decide) rfl (fun ls hl => ?_)
        refine lv_iinc (v := (x3 + (1 : Int32))) (lv' := [(3, .int (x3 + (1 : Int32))), (2, .int (x2 ||| ((1 : Int32) <<< (w6 &&& 31)))), (0, .ref (adr h)), (1, .int x1)]) hx hb dX2_secondsOf_31 hl (k := 3) rfl rfl (by decide) rfl (fun ls hl => ?_)
        refine lv_goto (tgt := 4) hx hb dX2_secondsOf_34 (by decide) ?_
        exact ih x1 (x2 ||| ((1 : Int32) <<< (w6 &&& 31))) (x3 + (1 : Int32)) τ5 hf _ _ _ hH (lv_sub hl [2, 3, 1, 0] rfl)
def pX2_secondsOf (h : Nat) (x1 : Int32) (σ : fw_T) : Option (Int32 × fw_T) :=
  pX2_secondsOf_4 h 400 x1 (0 : Int32) (0 : Int32) σ
set_option maxRecDepth 100000 in
set_option maxHeartbeats 4000000 in
theorem kX2_secondsOf {h : Nat} (hk : fw_PL h) {x1 : Int32} {r : Int32} {σ σ' : fw_T} (hf : pX2_secondsOf h x1 σ = some (r, σ')) : fw_Ci l yX2_secondsOf (Cond.code yX2_secondsOf cX2_secondsOf 4 (some .int) :: lwT) rmX2_secondsOf [.ref (adr h), .int x1] D 96 adr (fw_C cI cO adr) (fcT cI cO) nwC σ r σ' := by
  refine fw_start (Qc := (fun A => va_Qi (fun r' (_ : Unit) => r' = r) (fun _ t => va_P D vwCl (fw_ws 96 adr (fw_C cI cO adr σ')) t.heap) A)) (by decide) (by simp [lg_sl, Value.category]) rfl ?_
  intro p e s m below meth c A X hH ls hl
  have hx := X.1.1
  have hb := X.1.2.1
  have hl : lv_has ls 4 [(0, .ref (adr h)), (1, .int x1)] := hl
  unfold pX2_secondsOf at hf
  refine lv_iconst (v := (0 : Int32)) hx hb dX2_secondsOf_0 (by decide) ?_
  refine lv_istore_n (lv' := [(2, .int (0 : Int32)), (0, .ref (adr h)), (1, .int x1)]) hx hb dX2_secondsOf_1 rfl hl (by decide) rfl (fun ls hl => ?_)
  refine lv_iconst (v := (0 : Int32)) hx hb dX2_secondsOf_2 (by decide) ?_
  refine lv_istore_n (lv' := [(3, .int (0 : Int32)), (2, .int (0 : Int32)), (0, .ref (adr h)), (1, .int x1)]) hx hb dX2_secondsOf_3 rfl hl (by decide) rfl (fun ls hl => ?_)
  exact wX2_secondsOf_4 hk X 400 x1 (0 : Int32) (0 : Int32) σ hf _ _ _ hH (lv_sub hl [2, 3, 1, 0] rfl)
end
