section
variable {p : Program} {l : Launch} {e : Env} {s : State} {m : MethodId} {below : List Frame} {meth : Method} {c : Code} {D : va_G} {cI cO cB : ClassId} {adr : Nat → Nat} {A : Nat → Prop}
abbrev rmX2_copyFrom : Room := { frames := 1, cells := 0, slots := 0, locals := 26 }
theorem qX2_copyFrom : fw_QV RX2 yX2_copyFrom cX2_copyFrom 2 none 1 := ⟨⟨tw_1_209, tw_1_210, tw_1_4, tw_1_211⟩, by decide +kernel⟩
def pX2_copyFrom (h : Nat) (h2 : Nat) (σ : fw_T) : Option (fw_T) :=
  some (fw_u (fw_cp σ (h2 + 1) (h + 1) 10) h 2 (fw_g (fw_cp σ (h2 + 1) (h + 1) 10) h2 2))
set_option maxRecDepth 100000 in
set_option maxHeartbeats 4000000 in
theorem kX2_copyFrom {h : Nat} (hk : fw_PL h) {h2 : Nat} (hk2 : fw_PL h2) {σ σ' : fw_T} (hf : pX2_copyFrom h h2 σ = some σ') : fw_Cv l yX2_copyFrom (Cond.code yX2_copyFrom cX2_copyFrom 2 none :: lwT) rmX2_copyFrom [.ref (adr h), .ref (adr h2)] D 96 adr (fw_C cI cO adr) (fcT cI cO) nwC σ σ' := by
  refine fw_start (Qc := (fun A => va_Qv (fun (_ : Unit) => True) (fun _ t => va_P D vwCl (fw_ws 96 adr (fw_C cI cO adr σ')) t.heap) A)) (by decide) (by simp [lg_sl, Value.category]) rfl ?_
  intro p e s m below meth c A X hH ls hl
  have hx := X.1.1
  have hb := X.1.2.1
  have hl : lv_has ls 2 [(0, .ref (adr h)), (1, .ref (adr h2))] := hl
  unfold pX2_copyFrom at hf
  refine lv_aload_n hx hb dX2_copyFrom_0 rfl (lv_at hl 1 rfl) ?_
  refine fw_get (id := h2) (k := 0) (v := .ref (adr (h2 + 1))) X hH hk2.2.1 (fc_13 hk2.1) rfl inX2 (by decide) rfl tw_1_43 dX2_copyFrom_1 ?_
  refine lv_iconst (v := (0 : Int32)) hx hb dX2_copyFrom_4 (by decide) ?_
  refine lv_aload_n hx hb dX2_copyFrom_5 rfl (lv_at hl 0 rfl) ?_
  refine fw_get (id := h) (k := 0) (v := .ref (adr (h + 1))) X hH hk.2.1 (fc_13 hk.1) rfl inX2 (by decide) rfl tw_1_43 dX2_copyFrom_6 ?_
  refine lv_iconst (v := (0 : Int32)) hx hb dX2_copyFrom_9 (by decide) ?_
  refine lv_bipush (v := (10 : Int32)) hx hb dX2_copyFrom_10 (by decide) ?_
  refine fw_acp (src := (h2 + 1)) (dst := (h + 1)) (n := 10) X hH hl.1 hk2.2.2.2 hk.2.2.2 (fc_14 hk2.2.2.1) (fun σ => fc_14 hk.2.2.1) (fun j h => fc_cn h) rfl (by decide) (by decide) (by decide) (by decide) tw_1_212 tw_1_214 tw_1_213 tw_1_11 (Nat.le_of_ble_eq_true rfl) (Nat.le_of_ble_eq_true rfl) dX2_copyFrom_12 (fun H locs hH => ?_)
  refine lv_aload_n hx hb dX2_copyFrom_15 rfl (lv_at hl 0 rfl) ?_
  refine lv_aload_n hx hb dX2_copyFrom_16 rfl (lv_at hl 1 rfl) ?_
  refine fw_get (id := h2) (k := 2) (v := .int (fw_g (fw_cp σ (h2 + 1) (h + 1) 10) h2 2)) X hH hk2.2.1 (fc_13 hk2.1) rfl inX2 (by decide) rfl tw_1_45 dX2_copyFrom_17 ?_
  refine fw_put (id := h) (k := 2) (v := .int (fw_g (fw_cp σ (h2 + 1) (h + 1) 10) h2 2)) (ty := .int) (σ' := (fw_u (fw_cp σ (h2 + 1) (h + 1) 10) h 2 (fw_g (fw_cp σ (h2 + 1) (h + 1) 10) h2 2))) X hH hk.2.1 (fc_13 hk.1) (fp_13_2 hk.1) (fun j h => fc_ne h) rfl inX2 tyX2 tyX2_ok nmX2 (by decide) (Nat.le_of_ble_eq_true rfl) rfl (by decide +kernel) rfl rfl tw_1_45 dX2_copyFrom_20 (fun H locs hH => ?_)
  obtain rfl := Option.some.inj hf
  exact fw_retv X hH dX2_copyFrom_23
abbrev rmX0_copyFrom : Room := { frames := 1, cells := 0, slots := 0, locals := 26 }
theorem qX0_copyFrom : fw_QV RX0 yX0_copyFrom cX0_copyFrom 2 none 1 := ⟨⟨tw_1_216, tw_1_217, tw_1_6, tw_1_218⟩, by decide +kernel⟩
def pX0_copyFrom (h : Nat) (h2 : Nat) (σ : fw_T) : Option (fw_T) :=
  some (fw_u (fw_cp (fw_cp (fw_cp (fw_cp σ (h2 + 1) (h + 1) 6) (h2 + 2) (h + 2) 6) (h2 + 3) (h + 3) 6) (h2 + 4) (h + 4) 6) h 4 (fw_g (fw_cp (fw_cp (fw_cp (fw_cp σ (h2 + 1) (h + 1) 6) (h2 + 2) (h + 2) 6) (h2 + 3) (h + 3) 6) (h2 + 4) (h + 4) 6) h2 4))
set_option maxRecDepth 100000 in
set_option maxHeartbeats 4000000 in
theorem kX0_copyFrom {h : Nat} (hk : fw_FL h) {h2 : Nat} (hk2 : fw_FL h2) {σ σ' : fw_T} (hf : pX0_copyFrom h h2 σ = some σ') : fw_Cv l yX0_copyFrom (Cond.code yX0_copyFrom cX0_copyFrom 2 none :: lwT) rmX0_copyFrom [.ref (adr h), .ref (adr h2)] D 96 adr (fw_C cI cO adr) (fcT cI cO) nwC σ σ' := by
  refine fw_start (Qc := (fun A => va_Qv (fun (_ : Unit) => True) (fun _ t => va_P D vwCl (fw_ws 96 adr (fw_C cI cO adr σ')) t.heap) A)) (by decide) (by simp [lg_sl, Value.category]) rfl ?_
  intro p e s m below meth c A X hH ls hl
  have hx := X.1.1
  have hb := X.1.2.1
  have hl : lv_has ls 2 [(0, .ref (adr h)), (1, .ref (adr h2))] := hl
  unfold pX0_copyFrom at hf
  refine lv_aload_n hx hb dX0_copyFrom_0 rfl (lv_at hl 1 rfl) ?_
  refine fw_get (id := h2) (k := 0) (v := .ref (adr (h2 + 1))) X hH hk2.2.1 (fc_15 hk2.1) rfl inX0 (by decide) rfl tw_1_62 dX0_copyFrom_1 ?_
  refine lv_iconst (v := (0 : Int32)) hx hb dX0_copyFrom_4 (by decide) ?_
  refine lv_aload_n hx hb dX0_copyFrom_5 rfl (lv_at hl 0 rfl) ?_
  refine fw_get (id := h) (k := 0) (v := .ref (adr (h + 1))) X hH hk.2.1 (fc_15 hk.1) rfl inX0 (by decide) rfl tw_1_62 dX0_copyFrom_6 ?_
  refine lv_iconst (v := (0 : Int32)) hx hb dX0_copyFrom_9 (by decide) ?_
  refine lv_bipush (v := (6 : Int32)) hx hb dX0_copyFrom_10 (by decide) ?_
  refine fw_acp (src := (h2 + 1)) (dst := (h + 1)) (n := 6) X hH hl.1 hk2.2.2.1.2 hk.2.2.1.2 (fc_16 hk2.2.2.1.1) (fun σ => fc_16 hk.2.2.1.1) (fun j h => fc_cn h) rfl (by decide) (by decide) (by decide) (by decide) tw_1_219 tw_1_214 tw_1_213 tw_1_11 (Nat.le_of_ble_eq_true rfl) (Nat.le_of_ble_eq_true rfl) dX0_copyFrom_12 (fun H locs hH => ?_)
  refine lv_aload_n hx hb dX0_copyFrom_15 rfl (lv_at hl 1 rfl) ?_
  refine fw_get (id := h2) (k := 1) (v := .ref (adr (h2 + 2))) X hH hk2.2.1 (fc_15 hk2.1) rfl inX0 (by decide) rfl tw_1_64 dX0_copyFrom_16 ?_
  refine lv_iconst (v := (0 : Int32)) hx hb dX0_copyFrom_19 (by decide) ?_
  refine lv_aload_n hx hb dX0_copyFrom_20 rfl (lv_at hl 0 rfl) ?_
  refine fw_get (id := h) (k := 1) (v := .ref (adr (h + 2))) X hH hk.2.1 (fc_15 hk.1) rfl inX0 (by decide) rfl tw_1_64 dX0_copyFrom_21 ?_
  refine lv_iconst (v := (0 : Int32)) hx hb dX0_copyFrom_24 (by decide) ?_
  refine lv_bipush (v := (6 : Int32)) hx hb dX0_copyFrom_25 (by decide) ?_
  refine fw_acp (src := (h2 + 2)) (dst := (h + 2)) (n := 6) X hH hl.1 hk2.2.2.2.1.2 hk.2.2.2.1.2 (fc_16 hk2.2.2.2.1.1) (fun σ => fc_16 hk.2.2.2.1.1) (fun j h => fc_cn h) rfl (by decide) (by decide) (by decide) (by decide) tw_1_219 tw_1_214 tw_1_213 tw_1_11 (Nat.le_of_ble_eq_true rfl) (Nat.le_of_ble_eq_true rfl) dX0_copyFrom_27 (fun H locs hH => ?_)
  refine lv_aload_n hx hb dX0_copyFrom_30 rfl (lv_at hl 1 rfl) ?_
  refine fw_get (id := h2) (k := 2) (v := .ref (adr (h2 + 3))) X hH hk2.2.1 (fc_15 hk2.1) rfl inX0 (by decide) rfl tw_1_66 dX0_copyFrom_31 ?_
  refine lv_iconst (v := (0 : Int32)) hx hb dX0_copyFrom_34 (by decide) ?_
  refine lv_aload_n hx hb dX0_copyFrom_35 rfl (lv_at hl 0 rfl) ?_
  refine fw_get (id := h) (k := 2) (v := .ref (adr (h + 3))) X hH hk.2.1 (fc_15 hk.1) rfl inX0 (by decide) rfl tw_1_66 dX0_copyFrom_36 ?_
  refine lv_iconst (v := (0 : Int32)) hx hb dX0_copyFrom_39 (by decide) ?_
  refine lv_bipush (v := (6 : Int32)) hx hb dX0_copyFrom_40 (by decide) ?_
  refine fw_acp (src := (h2 + 3)) (dst := (h + 3)) (n := 6) X hH hl.1 hk2.2.2.2.2.1.2 hk.2.2.2.2.1.2 (fc_16 hk2.2.2.2.2.1.1) (fun σ => fc_16 hk.2.2.2.2.1.1) (fun j h => fc_cn h) rfl (by decide) (by decide) (by decide) (by decide) tw_1_219 tw_1_214 tw_1_213 tw_1_11 (Nat.le_of_ble_eq_true rfl) (Nat.le_of_ble_eq_true rfl) dX0_copyFrom_42 (fun H locs hH => ?_)
  refine lv_aload_n hx hb dX0_copyFrom_45 rfl (lv_at hl 1 rfl) ?_
  refine fw_get (id := h2) (k := 3) (v := .ref (adr (h2 + 4))) X hH hk2.2.1 (fc_15 hk2.1) rfl inX0 (by decide) rfl tw_1_68 dX0_copyFrom_46 ?_
  refine lv_iconst (v := (0 : Int32)) hx hb dX0_copyFrom_49 (by decide) ?_
  refine lv_aload_n hx hb dX0_copyFrom_50 rfl (lv_at hl 0 rfl) ?_
  refine fw_get (id := h) (k := 3) (v := .ref (adr (h + 4))) X hH hk.2.1 (fc_15 hk.1) rfl inX0 (by decide) rfl tw_1_68 dX0_copyFrom_51 ?_
  refine lv_iconst (v := (0 : Int32)) hx hb dX0_copyFrom_54 (by decide) ?_
  refine lv_bipush (v := (6 : Int32)) hx hb dX0_copyFrom_55 (by decide) ?_
  refine fw_acp (src := (h2 + 4)) (dst := (h + 4)) (n := 6) X hH hl.1 hk2.2.2.2.2.2.2 hk.2.2.2.2.2.2 (fc_16 hk2.2.2.2.2.2.1) (fun σ => fc_16 hk.2.2.2.2.2.1) (fun j h => fc_cn h) rfl (by decide) (by decide) (by decide) (by decide) tw_1_219 tw_1_214 tw_1_213 tw_1_11 (Nat.le_of_ble_eq_true rfl) (Nat.le_of_ble_eq_true rfl) dX0_copyFrom_57 (fun H locs hH => ?_)
  refine lv_aload_n hx hb dX0_copyFrom_60 rfl (lv_at hl 0 rfl) ?_
  refine lv_aload_n hx hb dX0_copyFrom_61 rfl (lv_at hl 1 rfl) ?_
  refine fw_get (id := h2) (k := 4) (v := .int (fw_g (fw_cp (fw_cp (fw_cp (fw_cp σ (h2 + 1) (h + 1) 6) (h2 + 2) (h + 2) 6) (h2 + 3) (h + 3) 6) (h2 + 4) (h + 4) 6) h2 4)) X hH hk2.2.1 (fc_15 hk2.1) rfl inX0 (by decide) rfl tw_1_70 dX0_copyFrom_62 ?_
  refine fw_put (id := h) (k := 4) (v := .int (fw_g (fw_cp (fw_cp (fw_cp (fw_cp σ (h2 + 1) (h + 1) 6) (h2 + 2) (h + 2) 6) (h2 + 3) (h + 3) 6) (h2 + 4) (h + 4) 6) h2 4)) (ty := .int) (σ' := (fw_u (fw_cp (fw_cp (fw_cp (fw_cp σ (h2 + 1) (h + 1) 6) (h2 + 2) (h + 2) 6) (h2 + 3) (h + 3) 6) (h2 + 4) (h + 4) 6) h 4 (fw_g (fw_cp (fw_cp (fw_cp (fw_cp σ (h2 + 1) (h + 1) 6) (h2 + 2) (h + 2) 6) (h2 + 3) (h + 3) 6) (h2 + 4) (h + 4) 6) h2 4))) X hH hk.2.1 (fc_15 hk.1) (fp_15_4 hk.1) (fun j h => fc_ne h) rfl inX0 tyX0 tyX0_ok nmX0 (by decide) (Nat.le_of_ble_eq_true rfl) rfl (by decide +kernel) rfl rfl tw_1_70 dX0_copyFrom_65 (fun H locs hH => ?_)
  obtain rfl := Option.some.inj hf
  exact fw_retv X hH dX0_copyFrom_68
abbrev rmX5_copyFrom : Room := { frames := 2, cells := 0, slots := 0, locals := 47 }
theorem qX5_copyFrom : fw_QV RX5 yX5_copyFrom cX5_copyFrom 2 none 1 := ⟨⟨tw_1_205, tw_1_206, tw_1_3, tw_1_207⟩, by decide +kernel⟩
def pX5_copyFrom (h : Nat) (h2 : Nat) (σ : fw_T) : Option (fw_T) :=
  (pX2_copyFrom (h + 1) (h2 + 1) σ).bind fun τ2 =>
  (pX2_copyFrom (h + 3) (h2 + 3) τ2).bind fun τ4 =>
  (pX0_copyFrom (h + 5) (h2 + 5) τ4).bind fun τ6 =>
  (pX2_copyFrom (h + 10) (h2 + 10) τ6).bind fun τ8 =>
  some τ8
set_option maxRecDepth 100000 in
set_option maxHeartbeats 4000000 in
theorem kX5_copyFrom {h : Nat} (hk : fw_ST h) {h2 : Nat} (hk2 : fw_ST h2) {σ σ' : fw_T} (hf : pX5_copyFrom h h2 σ = some σ') : fw_Cv l yX5_copyFrom (Cond.code yX5_copyFrom cX5_copyFrom 2 none :: lwT) rmX5_copyFrom [.ref (adr h), .ref (adr h2)] D 96 adr (fw_C cI cO adr) (fcT cI cO) nwC σ σ' := by
  refine fw_start (Qc := (fun A => va_Qv (fun (_ : Unit) => True) (fun _ t => va_P D vwCl (fw_ws 96 adr (fw_C cI cO adr σ')) t.heap) A)) (by decide) (by simp [lg_sl, Value.category]) rfl ?_
  intro p e s m below meth c A X hH ls hl
  have hx := X.1.1
  have hb := X.1.2.1
  have hl : lv_has ls 2 [(0, .ref (adr h)), (1, .ref (adr h2))] := hl
  unfold pX5_copyFrom at hf
  refine lv_aload_n hx hb dX5_copyFrom_0 rfl (lv_at hl 0 rfl) ?_
  refine fw_get (id := h) (k := 0) (v := .ref (adr (h + 1))) X hH hk.2.1 (fc_12 hk.1) rfl inX5 (by decide) rfl tw_1_84 dX5_copyFrom_1 ?_
  refine lv_aload_n hx hb dX5_copyFrom_4 rfl (lv_at hl 1 rfl) ?_
  refine fw_get (id := h2) (k := 0) (v := .ref (adr (h2 + 1))) X hH hk2.2.1 (fc_12 hk2.1) rfl inX5 (by decide) rfl tw_1_84 dX5_copyFrom_5 ?_
  obtain ⟨τ2, g1, hf⟩ := fw_bd hf
  refine fw_cv hH (fw_rV (As := [.ref (adr (h2 + 1))]) (rest := []) (id := (h + 1)) X hH (kX2_copyFrom hk.2.2.1 hk2.2.2.1 g1 _) qX2_copyFrom tw_1_208 ⟨Nat.le_of_ble_eq_true rfl, Nat.le_of_ble_eq_true rfl⟩ rfl rfl hk.2.2.1.2.1 (fc_13 hk.2.2.1.1) rfl rfl hl.1 rfl (Nat.le_of_ble_eq_true rfl) dX5_copyFrom_8) (fun H locs hH => ?_)
  refine lv_aload_n hx hb dX5_copyFrom_11 rfl (lv_at hl 0 rfl) ?_
  refine fw_get (id := h) (k := 1) (v := .ref (adr (h + 3))) X hH hk.2.1 (fc_12 hk.1) rfl inX5 (by decide) rfl tw_1_87 dX5_copyFrom_12 ?_
  refine lv_aload_n hx hb dX5_copyFrom_15 rfl (lv_at hl 1 rfl) ?_
  refine fw_get (id := h2) (k := 1) (v := .ref (adr (h2 + 3))) X hH hk2.2.1 (fc_12 hk2.1) rfl inX5 (by decide) rfl tw_1_87 dX5_copyFrom_16 ?_
  obtain ⟨τ4, g3, hf⟩ := fw_bd hf
  refine fw_cv hH (fw_rV (As := [.ref (adr (h2 + 3))]) (rest := []) (id := (h + 3)) X hH (kX2_copyFrom hk.2.2.2.1 hk2.2.2.2.1 g3 _) qX2_copyFrom tw_1_208 ⟨Nat.le_of_ble_eq_true rfl, Nat.le_of_ble_eq_true rfl⟩ rfl rfl hk.2.2.2.1.2.1 (fc_13 hk.2.2.2.1.1) rfl rfl hl.1 rfl (Nat.le_of_ble_eq_true rfl) dX5_copyFrom_19) (fun H locs hH => ?_)
  refine lv_aload_n hx hb dX5_copyFrom_22 rfl (lv_at hl 0 rfl) ?_
  refine fw_get (id := h) (k := 2) (v := .ref (adr (h + 5))) X hH hk.2.1 (fc_12 hk.1) rfl inX5 (by decide) rfl tw_1_90 dX5_copyFrom_23 ?_
  refine lv_aload_n hx hb dX5_copyFrom_26 rfl (lv_at hl 1 rfl) ?_
  refine fw_get (id := h2) (k := 2) (v := .ref (adr (h2 + 5))) X hH hk2.2.1 (fc_12 hk2.1) rfl inX5 (by decide) rfl tw_1_90 dX5_copyFrom_27 ?_
  obtain ⟨τ6, g5, hf⟩ := fw_bd hf
  refine fw_cv hH (fw_rV (As := [.ref (adr (h2 + 5))]) (rest := []) (id := (h + 5)) X hH (kX0_copyFrom hk.2.2.2.2.1 hk2.2.2.2.2.1 g5 _) qX0_copyFrom tw_1_215 ⟨Nat.le_of_ble_eq_true rfl, Nat.le_of_ble_eq_true rfl⟩ rfl rfl hk.2.2.2.2.1.2.1 (fc_15 hk.2.2.2.2.1.1) rfl rfl hl.1 rfl (Nat.le_of_ble_eq_true rfl) dX5_copyFrom_30) (fun H locs hH => ?_)
  refine lv_aload_n hx hb dX5_copyFrom_33 rfl (lv_at hl 0 rfl) ?_
  refine fw_get (id := h) (k := 3) (v := .ref (adr (h + 10))) X hH hk.2.1 (fc_12 hk.1) rfl inX5 (by decide) rfl tw_1_93 dX5_copyFrom_34 ?_
  refine lv_aload_n hx hb dX5_copyFrom_37 rfl (lv_at hl 1 rfl) ?_
  refine fw_get (id := h2) (k := 3) (v := .ref (adr (h2 + 10))) X hH hk2.2.1 (fc_12 hk2.1) rfl inX5 (by decide) rfl tw_1_93 dX5_copyFrom_38 ?_
  obtain ⟨τ8, g7, hf⟩ := fw_bd hf
  refine fw_cv hH (fw_rV (As := [.ref (adr (h2 + 10))]) (rest := []) (id := (h + 10)) X hH (kX2_copyFrom hk.2.2.2.2.2 hk2.2.2.2.2.2 g7 _) qX2_copyFrom tw_1_208 ⟨Nat.le_of_ble_eq_true rfl, Nat.le_of_ble_eq_true rfl⟩ rfl rfl hk.2.2.2.2.2.2.1 (fc_13 hk.2.2.2.2.2.1) rfl rfl hl.1 rfl (Nat.le_of_ble_eq_true rfl) dX5_copyFrom_41) (fun H locs hH => ?_)
  obtain rfl := Option.some.inj hf
  exact fw_retv X hH dX5_copyFrom_44
abbrev rmX1_draft : Room := { frames := 3, cells := 0, slots := 0, locals := 68 }
theorem qX1_draft : fw_QV RX1 yX1_draft cX1_draft 2 none 1 := ⟨⟨tw_1_201, tw_1_202, tw_1_7, tw_1_203⟩, by decide +kernel⟩
def pX1_draft (h2 : Nat) (σ : fw_T) : Option (fw_T) :=
  (fw_ix (fw_g σ 2 1) 6).bind fun k1 =>
  (pX5_copyFrom (24 + 12 * k1) h2 σ).bind fun τ4 =>
  some τ4
set_option maxRecDepth 100000 in
set_option maxHeartbeats 4000000 in
theorem kX1_draft {h2 : Nat} (hk2 : fw_ST h2) {σ σ' : fw_T} (hf : pX1_draft h2 σ = some σ') : fw_Cv l yX1_draft (Cond.code yX1_draft cX1_draft 2 none :: lwT) rmX1_draft [.ref (adr 2), .ref (adr h2)] D 96 adr (fw_C cI cO adr) (fcT cI cO) nwC σ σ' := by
  refine fw_start (Qc := (fun A => va_Qv (fun (_ : Unit) => True) (fun _ t => va_P D vwCl (fw_ws 96 adr (fw_C cI cO adr σ')) t.heap) A)) (by decide) (by simp [lg_sl, Value.category]) rfl ?_
  intro p e s m below meth c A X hH ls hl
  have hx := X.1.1
  have hb := X.1.2.1
  have hl : lv_has ls 2 [(0, .ref (adr 2)), (1, .ref (adr h2))] := hl
  unfold pX1_draft at hf
  refine lv_aload_n hx hb dX1_draft_0 rfl (lv_at hl 0 rfl) ?_
  refine fw_get (id := 2) (k := 0) (v := .ref (adr 3)) X hH (by decide) (fc_2 (by decide)) rfl inX1 (by decide) rfl tw_1_126 dX1_draft_1 ?_
  refine lv_aload_n hx hb dX1_draft_4 rfl (lv_at hl 0 rfl) ?_
  refine fw_get (id := 2) (k := 1) (v := .int (fw_g σ 2 1)) X hH (by decide) (fc_2 (by decide)) rfl inX1 (by decide) rfl tw_1_127 dX1_draft_5 ?_
  obtain ⟨k1, g2, hf⟩ := fw_bd hf
  refine fw_aald (id := 3) (n := 6) (f := fun j => 24 + 12 * j) X hH (by decide) (fc_3 (by decide)) rfl g2 dX1_draft_8 ?_
  refine lv_aload_n hx hb dX1_draft_9 rfl (lv_at hl 1 rfl) ?_
  obtain ⟨τ4, g3, hf⟩ := fw_bd hf
  refine fw_cv hH (fw_rV (As := [.ref (adr h2)]) (rest := []) (id := (24 + 12 * k1)) X hH (kX5_copyFrom (fw_slot (fw_ixs g2).2.2) hk2 g3 _) qX5_copyFrom tw_1_204 ⟨Nat.le_of_ble_eq_true rfl, Nat.le_of_ble_eq_true rfl⟩ rfl rfl (fw_slot (fw_ixs g2).2.2).2.1 (fc_12 (fw_slot (fw_ixs g2).2.2).1) rfl rfl hl.1 rfl (Nat.le_of_ble_eq_true rfl) dX1_draft_10) (fun H locs hH => ?_)
  obtain rfl := Option.some.inj hf
  exact fw_retv X hH dX1_draft_13
abbrev rmX7_isValue : Room := { frames := 0, cells := 0, slots := 0, locals := 0 }
theorem qX7_isValue : fw_QS yX7_isValue cX7_isValue 1 (some .boolean) 1 := ⟨⟨tw_1_228, tw_1_1, tw_1_229⟩, by decide +kernel⟩
def pX7_isValue (x0 : Int32) (σ : fw_T) : Option (Int32 × fw_T) :=
  if x0 < 0 then
    fw_rz (0 : Int32) σ
  else
    if (10 : Int32) ≤ x0 then
      fw_rz (0 : Int32) σ
    else
      fw_rz (1 : Int32) σ
set_option maxRecDepth 100000 in
set_option maxHeartbeats 4000000 in
theorem kX7_isValue {x0 : Int32} {r : Int32} {σ σ' : fw_T} (hf : pX7_isValue x0 σ = some (r, σ')) : fw_Ci l yX7_isValue (Cond.code yX7_isValue cX7_isValue 1 (some .boolean) :: lwT) rmX7_isValue [.int x0] D 96 adr (fw_C cI cO adr) (fcT cI cO) nwC σ r σ' := by
  refine fw_start (Qc := (fun A => va_Qi (fun r' (_ : Unit) => r' = r) (fun _ t => va_P D vwCl (fw_ws 96 adr (fw_C cI cO adr σ')) t.heap) A)) (by decide) (by simp [lg_sl, Value.category]) rfl ?_
  intro p e s m below meth c A X hH ls hl
  have hx := X.1.1
  have hb := X.1.2.1
  have hl : lv_has ls 1 [(0, .int x0)] := hl
  unfold pX7_isValue at hf
  refine lv_iload_n hx hb dX7_isValue_0 rfl (lv_at hl 0 rfl) ?_
  refine lv_if_lt (tgt := 14) hx hb dX7_isValue_1 (by decide) (fun hc => ?_) (fun hc => ?_)
  · have hf := fw_pos hc hf
    refine lv_iconst (v := (0 : Int32)) hx hb dX7_isValue_14 (by decide) ?_
    obtain ⟨rfl, rfl, hz⟩ := fw_rzs hf
    exact fw_retz X hH hz dX7_isValue_15
  · have hf := fw_neg hc hf
    refine lv_iload_n hx hb dX7_isValue_4 rfl (lv_at hl 0 rfl) ?_
    refine lv_bipush (v := (10 : Int32)) hx hb dX7_isValue_5 (by decide) ?_
    refine lv_icmp_ge (tgt := 14) hx hb dX7_isValue_7 (by decide) (fun hc => ?_) (fun hc => ?_)
    · have hf := fw_pos hc hf
      refine lv_iconst (v := (0 : Int32)) hx hb dX7_isValue_14 (by decide) ?_
      obtain ⟨rfl, rfl, hz⟩ := fw_rzs hf
      exact fw_retz X hH hz dX7_isValue_15
    · have hf := fw_neg hc hf
      refine lv_iconst (v := (1 : Int32)) hx hb dX7_isValue_10 (by decide) ?_
      refine lv_goto (tgt := 15) hx hb dX7_isValue_11 (by decide) ?_
      obtain ⟨rfl, rfl, hz⟩ := fw_rzs hf
      exact fw_retz X hH hz dX7_isValue_15
abbrev rmX7_isPair : Room := { frames := 1, cells := 0, slots := 0, locals := 20 }
theorem qX7_isPair : fw_QS yX7_isPair cX7_isPair 2 (some .boolean) 2 := ⟨⟨tw_1_225, tw_1_1, tw_1_226⟩, by decide +kernel⟩
def pX7_isPair (x0 : Int32) (x1 : Int32) (σ : fw_T) : Option (Int32 × fw_T) :=
  fw_b2 (pX7_isValue x0 σ) fun w3 τ2 =>
  if w3 = 0 then
    fw_rz (0 : Int32) τ2
  else
    fw_b2 (pX7_isValue x1 τ2) fun w6 τ5 =>
    if w6 = 0 then
      fw_rz (0 : Int32) τ5
    else
      fw_rz (1 : Int32) τ5
set_option maxRecDepth 100000 in
set_option maxHeartbeats 4000000 in
theorem kX7_isPair {x0 : Int32} {x1 : Int32} {r : Int32} {σ σ' : fw_T} (hf : pX7_isPair x0 x1 σ = some (r, σ')) : fw_Ci l yX7_isPair (Cond.code yX7_isPair cX7_isPair 2 (some .boolean) :: lwT) rmX7_isPair [.int x0, .int x1] D 96 adr (fw_C cI cO adr) (fcT cI cO) nwC σ r σ' := by
  refine fw_start (Qc := (fun A => va_Qi (fun r' (_ : Unit) => r' = r) (fun _ t => va_P D vwCl (fw_ws 96 adr (fw_C cI cO adr σ')) t.heap) A)) (by decide) (by simp [lg_sl, Value.category]) rfl ?_
  intro p e s m below meth c A X hH ls hl
  have hx := X.1.1
  have hb := X.1.2.1
  have hl : lv_has ls 2 [(0, .int x0), (1, .int x1)] := hl
  unfold pX7_isPair at hf
  refine lv_iload_n hx hb dX7_isPair_0 rfl (lv_at hl 0 rfl) ?_
  obtain ⟨w3, τ2, g1, hf⟩ := fw_b2s hf
  refine fw_ci hH (fw_rS (As := [.int x0]) (rest := []) X hH (kX7_isValue  g1 _) qX7_isValue tw_1_227 ⟨Nat.le_of_ble_eq_true rfl, Nat.le_of_ble_eq_true rfl⟩ rfl rfl rfl hl.1 rfl (Nat.le_of_ble_eq_true rfl) dX7_isPair_1) (fun H locs hH => ?_)
  refine lv_if_eq (tgt := 18) hx hb dX7_isPair_4 (by decide) (fun hc => ?_) (fun hc => ?_)
  · have hf := fw_pos hc hf
    refine lv_iconst (v := (0 : Int32)) hx hb dX7_isPair_18 (by decide) ?_
    obtain ⟨rfl, rfl, hz⟩ := fw_rzs hf
    exact fw_retz X hH hz dX7_isPair_19
  · have hf := fw_neg hc hf
    refine lv_iload_n hx hb dX7_isPair_7 rfl (lv_at hl 1 rfl) ?_
    obtain ⟨w6, τ5, g4, hf⟩ := fw_b2s hf
    refine fw_ci hH (fw_rS (As := [.int x1]) (rest := []) X hH (kX7_isValue  g4 _) qX7_isValue tw_1_227 ⟨Nat.le_of_ble_eq_true rfl, Nat.le_of_ble_eq_true rfl⟩ rfl rfl rfl hl.1 rfl (Nat.le_of_ble_eq_true rfl) dX7_isPair_8) (fun H locs hH => ?_)
    refine lv_if_eq (tgt := 18) hx hb dX7_isPair_11 (by decide) (fun hc => ?_) (fun hc => ?_)
    · have hf := fw_pos hc hf
      refine lv_iconst (v := (0 : Int32)) hx hb dX7_isPair_18 (by decide) ?_
      obtain ⟨rfl, rfl, hz⟩ := fw_rzs hf
      exact fw_retz X hH hz dX7_isPair_19
    · have hf := fw_neg hc hf
      refine lv_iconst (v := (1 : Int32)) hx hb dX7_isPair_14 (by decide) ?_
      refine lv_goto (tgt := 19) hx hb dX7_isPair_15 (by decide) ?_
      obtain ⟨rfl, rfl, hz⟩ := fw_rzs hf
      exact fw_retz X hH hz dX7_isPair_19
abbrev rmX2_holds : Room := { frames := 0, cells := 0, slots := 0, locals := 0 }
theorem qX2_holds : fw_QV RX2 yX2_holds cX2_holds 5 (some .boolean) 2 := ⟨⟨tw_1_231, tw_1_232, tw_1_4, tw_1_233⟩, by decide +kernel⟩
def pX2_holds_10 (h : Nat) : Nat → Int32 → Int32 → fw_T → Option (Int32 × fw_T)
  | 0, _, _, _ => none
  | n + 1, x3, x4, σ =>
    if (fw_g σ h 2) ≤ x4 then
      fw_rz (0 : Int32) σ
    else
      if (10 : Int32) ≤ x4 then
        fw_rz (0 : Int32) σ
      else
        (fw_rd σ (h + 1) 10 x4).bind fun w1 =>
        if w1 = x3 then
          fw_rz (1 : Int32) σ
        else
          pX2_holds_10 h n x3 (x4 + (1 : Int32)) σ
set_option maxRecDepth 100000 in
set_option maxHeartbeats 4000000 in
theorem wX2_holds_10 {h : Nat} (hk : fw_PL h) {args : Array Value} {r : Int32} {σ' : fw_T} (X : fcX p m c cX2_holds 5 s args RX2 meth (some .boolean) D cI cO)  : ∀ (n : Nat), ∀ (x3 : Int32), ∀ (x4 : Int32), ∀ (σ : fw_T), pX2_holds_10 h n x3 x4 σ = some (r, σ') → ∀ (H : Heap) (locs : List Loc) (ls : Array Slot), fcH D cI cO adr A s H locs σ → lv_has ls 5 [(0, .ref (adr h)), (3, .int x3), (4, .int x4)] → W p l e rmX2_holds s m args below meth c H locs 0 0 (fw_Qi D 96 adr (fw_C cI cO adr) A below args s r σ') (F0 m 10 ls []) := by
  have hx := X.1.1
  have hb := X.1.2.1
  intro n
  induction n with
  | zero =>
    intro x3 x4 σ hf
    exact absurd hf (by simp [pX2_holds_10])
  | succ n ih =>
    intro x3 x4 σ hf H locs ls hH hl
    rw [pX2_holds_10] at hf
    refine lv_iload hx hb dX2_holds_10 (lv_at hl 2 rfl) ?_
    refine lv_aload_n hx hb dX2_holds_12 rfl (lv_at hl 0 rfl) ?_
    refine fw_get (id := h) (k := 2) (v := .int (fw_g σ h 2)) X hH hk.2.1 (fc_13 hk.1) rfl inX2 (by decide) rfl tw_1_45 dX2_holds_13 ?_
    refine lv_icmp_ge (tgt := 45) hx hb dX2_holds_16 (by decide) (fun hc => ?_) (fun hc => ?_)
    · have hf := fw_pos hc hf
      refine lv_iconst (v := (0 : Int32)) hx hb dX2_holds_45 (by decide) ?_
      obtain ⟨rfl, rfl, hz⟩ := fw_rzs hf
      exact fw_retz X hH hz dX2_holds_46
    · have hf := fw_neg hc hf
      refine lv_iload hx hb dX2_holds_19 (lv_at hl 2 rfl) ?_
      refine lv_bipush (v := (10 : Int32)) hx hb dX2_holds_21 (by decide) ?_
      refine lv_icmp_ge (tgt := 45) hx hb dX2_holds_23 (by decide) (fun hc => ?_) (fun hc => ?_)
      · have hf := fw_pos hc hf
        refine lv_iconst (v := (0 : Int32)) hx hb dX2_holds_45 (by decide) ?_
        obtain ⟨rfl, rfl, hz⟩ := fw_rzs hf
        exact fw_retz X hH hz dX2_holds_46
      · have hf := fw_neg hc hf
        refine lv_aload_n hx hb dX2_holds_26 rfl (lv_at hl 0 rfl) ?_
        refine fw_get (id := h) (k := 0) (v := .ref (adr (h + 1))) X hH hk.2.1 (fc_13 hk.1) rfl inX2 (by decide) rfl tw_1_43 dX2_holds_27 ?_
        refine lv_iload hx hb dX2_holds_30 (lv_at hl 2 rfl) ?_
        obtain ⟨w1, g2, hf⟩ := fw_bd hf
        refine fw_iald (id := (h + 1)) (n := 10) X hH hk.2.2.2 (fc_14 hk.2.2.1) rfl g2 dX2_holds_32 ?_
        refine lv_iload_n hx hb dX2_holds_33 rfl (lv_at hl 1 rfl) ?_
        refine lv_icmp_ne (tgt := 39) hx hb dX2_holds_34 (by decide) (fun hc => ?_) (fun hc => ?_)
        · have hf := fw_neg hc hf
          refine lv_iinc (v := (x4 + (1 : Int32))) (lv' := [(4, .int (x4 + (1 : Int32))), (0, .ref (adr h)), (3, .int x3)]) hx hb dX2_holds_39 hl (k := 2) rfl rfl (by decide) rfl (fun ls hl => ?_)
          refine lv_goto (tgt := 10) hx hb dX2_holds_42 (by decide) ?_
          exact ih x3 (x4 + (1 : Int32)) σ hf _ _ _ hH (lv_sub hl [1, 2, 0] rfl)
        · have hf := fw_pos hc hf
          refine lv_iconst (v := (1 : Int32)) hx hb dX2_holds_37 (by decide) ?_
          obtain ⟨rfl, rfl, hz⟩ := fw_rzs hf
          exact fw_retz X hH hz dX2_holds_38
def pX2_holds (h : Nat) (x1 : Int32) (x2 : Int32) (σ : fw_T) : Option (Int32 × fw_T) :=
  pX2_holds_10 h 400 (((10 : Int32) * x1) + x2) (0 : Int32) σ
set_option maxRecDepth 100000 in
set_option maxHeartbeats 4000000 in
theorem kX2_holds {h : Nat} (hk : fw_PL h) {x1 : Int32} {x2 : Int32} {r : Int32} {σ σ' : fw_T} (hf : pX2_holds h x1 x2 σ = some (r, σ')) : fw_Ci l yX2_holds (Cond.code yX2_holds cX2_holds 5 (some .boolean) :: lwT) rmX2_holds [.ref (adr h), .int x1, .int x2] D 96 adr (fw_C cI cO adr) (fcT cI cO) nwC σ r σ' := by
  refine fw_start (Qc := (fun A => va_Qi (fun r' (_ : Unit) => r' = r) (fun _ t => va_P D vwCl (fw_ws 96 adr (fw_C cI cO adr σ')) t.heap) A)) (by decide) (by simp [lg_sl, Value.category]) rfl ?_
  intro p e s m below meth c A X hH ls hl
  have hx := X.1.1
  have hb := X.1.2.1
  have hl : lv_has ls 5 [(0, .ref (adr h)), (1, .int x1), (2, .int x2)] := hl
  unfold pX2_holds at hf
  refine lv_bipush (v := (10 : Int32)) hx hb dX2_holds_0 (by decide) ?_
  refine lv_iload_n hx hb dX2_holds_2 rfl (lv_at hl 1 rfl) ?_
  refine lv_imul hx hb dX2_holds_3 ?_
  refine lv_iload_n hx hb dX2_holds_4 rfl (lv_at hl 2 rfl) ?_
  refine lv_iadd hx hb dX2_holds_5 ?_
  refine lv_istore_n (lv' := [(3, .int (((10 : Int32) * x1) + x2)), (0, .ref (adr h)), (1, .int x1), (2, .int x2)]) hx hb dX2_holds_6 rfl hl (by decide) rfl (fun ls hl => ?_)
  refine lv_iconst (v := (0 : Int32)) hx hb dX2_holds_7 (by decide) ?_
  refine lv_istore (lv' := [(4, .int (0 : Int32)), (3, .int (((10 : Int32) * x1) + x2)), (0, .ref (adr h)), (1, .int x1), (2, .int x2)]) hx hb dX2_holds_8 hl (by decide) rfl (fun ls hl => ?_)
  exact wX2_holds_10 hk X 400 (((10 : Int32) * x1) + x2) (0 : Int32) σ hf _ _ _ hH (lv_sub hl [2, 1, 0] rfl)
abbrev rmX2_isFull : Room := { frames := 0, cells := 0, slots := 0, locals := 0 }
theorem qX2_isFull : fw_QV RX2 yX2_isFull cX2_isFull 1 (some .boolean) 0 := ⟨⟨tw_1_235, tw_1_236, tw_1_4, tw_1_237⟩, by decide +kernel⟩
def pX2_isFull (h : Nat) (σ : fw_T) : Option (Int32 × fw_T) :=
  if (fw_g σ h 2) < (fw_g σ h 1) then
    fw_rz (0 : Int32) σ
  else
    fw_rz (1 : Int32) σ
set_option maxRecDepth 100000 in
set_option maxHeartbeats 4000000 in
theorem kX2_isFull {h : Nat} (hk : fw_PL h) {r : Int32} {σ σ' : fw_T} (hf : pX2_isFull h σ = some (r, σ')) : fw_Ci l yX2_isFull (Cond.code yX2_isFull cX2_isFull 1 (some .boolean) :: lwT) rmX2_isFull [.ref (adr h)] D 96 adr (fw_C cI cO adr) (fcT cI cO) nwC σ r σ' := by
  refine fw_start (Qc := (fun A => va_Qi (fun r' (_ : Unit) => r' = r) (fun _ t => va_P D vwCl (fw_ws 96 adr (fw_C cI cO adr σ')) t.heap) A)) (by decide) (by simp [lg_sl, Value.category]) rfl ?_
  intro p e s m below meth c A X hH ls hl
  have hx := X.1.1
  have hb := X.1.2.1
  have hl : lv_has ls 1 [(0, .ref (adr h))] := hl
  unfold pX2_isFull at hf
  refine lv_aload_n hx hb dX2_isFull_0 rfl (lv_at hl 0 rfl) ?_
  refine fw_get (id := h) (k := 2) (v := .int (fw_g σ h 2)) X hH hk.2.1 (fc_13 hk.1) rfl inX2 (by decide) rfl tw_1_45 dX2_isFull_1 ?_
  refine lv_aload_n hx hb dX2_isFull_4 rfl (lv_at hl 0 rfl) ?_
  refine fw_get (id := h) (k := 1) (v := .int (fw_g σ h 1)) X hH hk.2.1 (fc_13 hk.1) rfl inX2 (by decide) rfl tw_1_44 dX2_isFull_5 ?_
  refine lv_icmp_lt (tgt := 15) hx hb dX2_isFull_8 (by decide) (fun hc => ?_) (fun hc => ?_)
  · have hf := fw_pos hc hf
    refine lv_iconst (v := (0 : Int32)) hx hb dX2_isFull_15 (by decide) ?_
    obtain ⟨rfl, rfl, hz⟩ := fw_rzs hf
    exact fw_retz X hH hz dX2_isFull_16
  · have hf := fw_neg hc hf
    refine lv_iconst (v := (1 : Int32)) hx hb dX2_isFull_11 (by decide) ?_
    refine lv_goto (tgt := 16) hx hb dX2_isFull_12 (by decide) ?_
    obtain ⟨rfl, rfl, hz⟩ := fw_rzs hf
    exact fw_retz X hH hz dX2_isFull_16
abbrev rmX2_insert : Room := { frames := 2, cells := 0, slots := 0, locals := 41 }
theorem qX2_insert : fw_QV RX2 yX2_insert cX2_insert 3 (some .int) 2 := ⟨⟨tw_1_221, tw_1_222, tw_1_4, tw_1_223⟩, by decide +kernel⟩
def pX2_insert (h : Nat) (x1 : Int32) (x2 : Int32) (σ : fw_T) : Option (Int32 × fw_T) :=
  fw_b2 (pX7_isPair x1 x2 σ) fun w3 τ2 =>
  if w3 = 0 then
    some ((-10002 : Int32), τ2)
  else
    fw_b2 (pX2_holds h x1 x2 τ2) fun w6 τ5 =>
    if w6 = 0 then
      fw_b2 (pX2_isFull h τ5) fun w9 τ8 =>
      if w9 = 0 then
        (fw_wr τ8 (h + 1) 10 (fw_g τ8 h 2) (((10 : Int32) * x1) + x2)).bind fun τ10 =>
        some ((fw_g (fw_u τ10 h 2 ((fw_g τ10 h 2) + (1 : Int32))) h 2), (fw_u τ10 h 2 ((fw_g τ10 h 2) + (1 : Int32))))
      else
        some ((-10004 : Int32), τ8)
    else
      some ((-10003 : Int32), τ5)
set_option maxRecDepth 100000 in
set_option maxHeartbeats 4000000 in
theorem kX2_insert {h : Nat} (hk : fw_PL h) {x1 : Int32} {x2 : Int32} {r : Int32} {σ σ' : fw_T} (hf : pX2_insert h x1 x2 σ = some (r, σ')) : fw_Ci l yX2_insert (Cond.code yX2_insert cX2_insert 3 (some .int) :: lwT) rmX2_insert [.ref (adr h), .int x1, .int x2] D 96 adr (fw_C cI cO adr) (fcT cI cO) nwC σ r σ' := by
  refine fw_start (Qc := (fun A => va_Qi (fun r' (_ : Unit) => r' = r) (fun _ t => va_P D vwCl (fw_ws 96 adr (fw_C cI cO adr σ')) t.heap) A)) (by decide) (by simp [lg_sl, Value.category]) rfl ?_
  intro p e s m below meth c A X hH ls hl
  have hx := X.1.1
  have hb := X.1.2.1
  have hl : lv_has ls 3 [(0, .ref (adr h)), (1, .int x1), (2, .int x2)] := hl
  unfold pX2_insert at hf
  refine lv_iload_n hx hb dX2_insert_0 rfl (lv_at hl 1 rfl) ?_
  refine lv_iload_n hx hb dX2_insert_1 rfl (lv_at hl 2 rfl) ?_
  obtain ⟨w3, τ2, g1, hf⟩ := fw_b2s hf
  refine fw_ci hH (fw_rN (As := [.int x1, .int x2]) (rest := []) X hH (kX7_isPair  g1 _) qX7_isPair nw_1_224 ⟨Nat.le_of_ble_eq_true rfl, Nat.le_of_ble_eq_true rfl⟩ rfl rfl rfl hl.1 rfl (Nat.le_of_ble_eq_true rfl) dX2_insert_2) (fun H locs hH => ?_)
  refine lv_if_ne (tgt := 12) hx hb dX2_insert_5 (by decide) (fun hc => ?_) (fun hc => ?_)
  · have hf := fw_neg hc hf
    refine lv_aload_n hx hb dX2_insert_12 rfl (lv_at hl 0 rfl) ?_
    refine lv_iload_n hx hb dX2_insert_13 rfl (lv_at hl 1 rfl) ?_
    refine lv_iload_n hx hb dX2_insert_14 rfl (lv_at hl 2 rfl) ?_
    obtain ⟨w6, τ5, g4, hf⟩ := fw_b2s hf
    refine fw_ci hH (fw_rV (As := [.int x1, .int x2]) (rest := []) (id := h) X hH (kX2_holds hk g4 _) qX2_holds tw_1_230 ⟨Nat.le_of_ble_eq_true rfl, Nat.le_of_ble_eq_true rfl⟩ rfl rfl hk.2.1 (fc_13 hk.1) rfl rfl hl.1 rfl (Nat.le_of_ble_eq_true rfl) dX2_insert_15) (fun H locs hH => ?_)
    refine lv_if_eq (tgt := 25) hx hb dX2_insert_18 (by decide) (fun hc => ?_) (fun hc => ?_)
    · have hf := fw_pos hc hf
      refine lv_aload_n hx hb dX2_insert_25 rfl (lv_at hl 0 rfl) ?_
      obtain ⟨w9, τ8, g7, hf⟩ := fw_b2s hf
      refine fw_ci hH (fw_rV (As := []) (rest := []) (id := h) X hH (kX2_isFull hk g7 _) qX2_isFull tw_1_234 ⟨Nat.le_of_ble_eq_true rfl, Nat.le_of_ble_eq_true rfl⟩ rfl rfl hk.2.1 (fc_13 hk.1) rfl rfl hl.1 rfl (Nat.le_of_ble_eq_true rfl) dX2_insert_26) (fun H locs hH => ?_)
      refine lv_if_eq (tgt := 36) hx hb dX2_insert_29 (by decide) (fun hc => ?_) (fun hc => ?_)
      · have hf := fw_pos hc hf
        refine lv_aload_n hx hb dX2_insert_36 rfl (lv_at hl 0 rfl) ?_
        refine fw_get (id := h) (k := 0) (v := .ref (adr (h + 1))) X hH hk.2.1 (fc_13 hk.1) rfl inX2 (by decide) rfl tw_1_43 dX2_insert_37 ?_
        refine lv_aload_n hx hb dX2_insert_40 rfl (lv_at hl 0 rfl) ?_
        refine fw_get (id := h) (k := 2) (v := .int (fw_g τ8 h 2)) X hH hk.2.1 (fc_13 hk.1) rfl inX2 (by decide) rfl tw_1_45 dX2_insert_41 ?_
        refine lv_bipush (v := (10 : Int32)) hx hb dX2_insert_44 (by decide) ?_
        refine lv_iload_n hx hb dX2_insert_46 rfl (lv_at hl 1 rfl) ?_
        refine lv_imul hx hb dX2_insert_47 ?_
        refine lv_iload_n hx hb dX2_insert_48 rfl (lv_at hl 2 rfl) ?_
        refine lv_iadd hx hb dX2_insert_49 ?_
        obtain ⟨τ10, g11, hf⟩ := fw_bd hf
        refine fw_iast (id := (h + 1)) (n := 10) X hH hk.2.2.2 (fun σ => fc_14 hk.2.2.1) (fun k x j h => fc_ne h) rfl g11 dX2_insert_50 (fun H locs hH => ?_)
        refine lv_aload_n hx hb dX2_insert_51 rfl (lv_at hl 0 rfl) ?_
        refine lv_dup hx hb dX2_insert_52 rfl ?_
        refine fw_get (id := h) (k := 2) (v := .int (fw_g τ10 h 2)) X hH hk.2.1 (fc_13 hk.1) rfl inX2 (by decide) rfl tw_1_45 dX2_insert_53 ?_
        refine lv_iconst (v := (1 : Int32)) hx hb dX2_insert_56 (by decide) ?_
        refine lv_iadd hx hb dX2_insert_57 ?_
        refine fw_put (id := h) (k := 2) (v := .int ((fw_g τ10 h 2) + (1 : Int32))) (ty := .int) (σ' := (fw_u τ10 h 2 ((fw_g τ10 h 2) + (1 : Int32)))) X hH hk.2.1 (fc_13 hk.1) (fp_13_2 hk.1) (fun j h => fc_ne h) rfl inX2 tyX2 tyX2_ok nmX2 (by decide) (Nat.le_of_ble_eq_true rfl) rfl (by decide +kernel) rfl rfl tw_1_45 dX2_insert_58 (fun H locs hH => ?_)
        refine lv_aload_n hx hb dX2_insert_61 rfl (lv_at hl 0 rfl) ?_
        refine fw_get (id := h) (k := 2) (v := .int (fw_g (fw_u τ10 h 2 ((fw_g τ10 h 2) + (1 : Int32))) h 2)) X hH hk.2.1 (fc_13 hk.1) rfl inX2 (by decide) rfl tw_1_45 dX2_insert_62 ?_
        obtain ⟨rfl, rfl⟩ := fw_s2 hf
        exact fw_reti X hH dX2_insert_65
      · have hf := fw_neg hc hf
        refine lv_sipush (v := (-10004 : Int32)) hx hb dX2_insert_32 (by decide) ?_
        obtain ⟨rfl, rfl⟩ := fw_s2 hf
        exact fw_reti X hH dX2_insert_35
    · have hf := fw_neg hc hf
      refine lv_sipush (v := (-10003 : Int32)) hx hb dX2_insert_21 (by decide) ?_
      obtain ⟨rfl, rfl⟩ := fw_s2 hf
      exact fw_reti X hH dX2_insert_24
  · have hf := fw_pos hc hf
    refine lv_sipush (v := (-10002 : Int32)) hx hb dX2_insert_8 (by decide) ?_
    obtain ⟨rfl, rfl⟩ := fw_s2 hf
    exact fw_reti X hH dX2_insert_11
abbrev rmX7_isError : Room := { frames := 0, cells := 0, slots := 0, locals := 0 }
theorem qX7_isError : fw_QS yX7_isError cX7_isError 1 (some .boolean) 1 := ⟨⟨tw_2_3, tw_1_1, tw_2_4⟩, by decide +kernel⟩
def pX7_isError (x0 : Int32) (σ : fw_T) : Option (Int32 × fw_T) :=
  if x0 = (-10002 : Int32) then
    fw_rz (1 : Int32) σ
  else
    if x0 = (-10003 : Int32) then
      fw_rz (1 : Int32) σ
    else
      if x0 = (-10004 : Int32) then
        fw_rz (1 : Int32) σ
      else
        fw_rz (0 : Int32) σ
set_option maxRecDepth 100000 in
set_option maxHeartbeats 4000000 in
theorem kX7_isError {x0 : Int32} {r : Int32} {σ σ' : fw_T} (hf : pX7_isError x0 σ = some (r, σ')) : fw_Ci l yX7_isError (Cond.code yX7_isError cX7_isError 1 (some .boolean) :: lwT) rmX7_isError [.int x0] D 96 adr (fw_C cI cO adr) (fcT cI cO) nwC σ r σ' := by
  refine fw_start (Qc := (fun A => va_Qi (fun r' (_ : Unit) => r' = r) (fun _ t => va_P D vwCl (fw_ws 96 adr (fw_C cI cO adr σ')) t.heap) A)) (by decide) (by simp [lg_sl, Value.category]) rfl ?_
  intro p e s m below meth c A X hH ls hl
  have hx := X.1.1
  have hb := X.1.2.1
  have hl : lv_has ls 1 [(0, .int x0)] := hl
  unfold pX7_isError at hf
  refine lv_iload_n hx hb dX7_isError_0 rfl (lv_at hl 0 rfl) ?_
  refine lv_sipush (v := (-10002 : Int32)) hx hb dX7_isError_1 (by decide) ?_
  refine lv_icmp_eq (tgt := 21) hx hb dX7_isError_4 (by decide) (fun hc => ?_) (fun hc => ?_)
  · have hf := fw_pos hc hf
    refine lv_iconst (v := (1 : Int32)) hx hb dX7_isError_21 (by decide) ?_
    refine lv_goto (tgt := 26) hx hb dX7_isError_22 (by decide) ?_
    obtain ⟨rfl, rfl, hz⟩ := fw_rzs hf
    exact fw_retz X hH hz dX7_isError_26
  · have hf := fw_neg hc hf
    refine lv_iload_n hx hb dX7_isError_7 rfl (lv_at hl 0 rfl) ?_
    refine lv_sipush (v := (-10003 : Int32)) hx hb dX7_isError_8 (by decide) ?_
    refine lv_icmp_eq (tgt := 21) hx hb dX7_isError_11 (by decide) (fun hc => ?_) (fun hc => ?_)
    · have hf := fw_pos hc hf
      refine lv_iconst (v := (1 : Int32)) hx hb dX7_isError_21 (by decide) ?_
      refine lv_goto (tgt := 26) hx hb dX7_isError_22 (by decide) ?_
      obtain ⟨rfl, rfl, hz⟩ := fw_rzs hf
      exact fw_retz X hH hz dX7_isError_26
    · have hf := fw_neg hc hf
      refine lv_iload_n hx hb dX7_isError_14 rfl (lv_at hl 0 rfl) ?_
      refine lv_sipush (v := (-10004 : Int32)) hx hb dX7_isError_15 (by decide) ?_
      refine lv_icmp_ne (tgt := 25) hx hb dX7_isError_18 (by decide) (fun hc => ?_) (fun hc => ?_)
      · have hf := fw_neg hc hf
        refine lv_iconst (v := (0 : Int32)) hx hb dX7_isError_25 (by decide) ?_
        obtain ⟨rfl, rfl, hz⟩ := fw_rzs hf
        exact fw_retz X hH hz dX7_isError_26
      · have hf := fw_pos hc hf
        refine lv_iconst (v := (1 : Int32)) hx hb dX7_isError_21 (by decide) ?_
        refine lv_goto (tgt := 26) hx hb dX7_isError_22 (by decide) ?_
        obtain ⟨rfl, rfl, hz⟩ := fw_rzs hf
        exact fw_retz X hH hz dX7_isError_26
abbrev rmX1_keepDraft : Room := { frames := 1, cells := 0, slots := 0, locals := 21 }
theorem qX1_keepDraft : fw_QV RX1 yX1_keepDraft cX1_keepDraft 1 none 0 := ⟨⟨tw_2_6, tw_2_7, tw_1_7, tw_2_8⟩, by decide +kernel⟩
def pX1_keepDraft (σ : fw_T) : Option (fw_T) :=
  some (fw_u (fw_u σ 2 1 (((fw_g σ 2 1) + (1 : Int32)) - ((fw_g σ 2 1) + (1 : Int32)) / (6 : Int32) * (6 : Int32))) 2 2 (if (5 : Int32) < ((fw_g (fw_u σ 2 1 (((fw_g σ 2 1) + (1 : Int32)) - ((fw_g σ 2 1) + (1 : Int32)) / (6 : Int32) * (6 : Int32))) 2 2) + (1 : Int32)) then (5 : Int32) else ((fw_g (fw_u σ 2 1 (((fw_g σ 2 1) + (1 : Int32)) - ((fw_g σ 2 1) + (1 : Int32)) / (6 : Int32) * (6 : Int32))) 2 2) + (1 : Int32))))
set_option maxRecDepth 100000 in
set_option maxHeartbeats 4000000 in
theorem kX1_keepDraft {σ σ' : fw_T} (hf : pX1_keepDraft σ = some σ') : fw_Cv l yX1_keepDraft (Cond.code yX1_keepDraft cX1_keepDraft 1 none :: lwT) rmX1_keepDraft [.ref (adr 2)] D 96 adr (fw_C cI cO adr) (fcT cI cO) nwC σ σ' := by
  refine fw_start (Qc := (fun A => va_Qv (fun (_ : Unit) => True) (fun _ t => va_P D vwCl (fw_ws 96 adr (fw_C cI cO adr σ')) t.heap) A)) (by decide) (by simp [lg_sl, Value.category]) rfl ?_
  intro p e s m below meth c A X hH ls hl
  have hx := X.1.1
  have hb := X.1.2.1
  have hl : lv_has ls 1 [(0, .ref (adr 2))] := hl
  unfold pX1_keepDraft at hf
  refine lv_aload_n hx hb dX1_keepDraft_0 rfl (lv_at hl 0 rfl) ?_
  refine lv_aload_n hx hb dX1_keepDraft_1 rfl (lv_at hl 0 rfl) ?_
  refine fw_get (id := 2) (k := 1) (v := .int (fw_g σ 2 1)) X hH (by decide) (fc_2 (by decide)) rfl inX1 (by decide) rfl tw_1_127 dX1_keepDraft_2 ?_
  refine lv_iconst (v := (1 : Int32)) hx hb dX1_keepDraft_5 (by decide) ?_
  refine lv_iadd hx hb dX1_keepDraft_6 ?_
  refine lv_bipush (v := (6 : Int32)) hx hb dX1_keepDraft_7 (by decide) ?_
  refine lv_irem hx hb dX1_keepDraft_9 (by decide) ?_
  refine fw_put (id := 2) (k := 1) (v := .int (((fw_g σ 2 1) + (1 : Int32)) - ((fw_g σ 2 1) + (1 : Int32)) / (6 : Int32) * (6 : Int32))) (ty := .int) (σ' := (fw_u σ 2 1 (((fw_g σ 2 1) + (1 : Int32)) - ((fw_g σ 2 1) + (1 : Int32)) / (6 : Int32) * (6 : Int32)))) X hH (by decide) (fc_2 (by decide)) (fp_2_1 (by decide)) (fun j h => fc_ne h) rfl inX1 tyX1 tyX1_ok nmX1 (by decide) (Nat.le_of_ble_eq_true rfl) rfl (by decide +kernel) rfl rfl tw_1_127 dX1_keepDraft_10 (fun H locs hH => ?_)
  refine lv_aload_n hx hb dX1_keepDraft_13 rfl (lv_at hl 0 rfl) ?_
  refine lv_aload_n hx hb dX1_keepDraft_14 rfl (lv_at hl 0 rfl) ?_
  refine fw_get (id := 2) (k := 2) (v := .int (fw_g (fw_u σ 2 1 (((fw_g σ 2 1) + (1 : Int32)) - ((fw_g σ 2 1) + (1 : Int32)) / (6 : Int32) * (6 : Int32))) 2 2)) X hH (by decide) (fc_2 (by decide)) rfl inX1 (by decide) rfl tw_1_128 dX1_keepDraft_15 ?_
  refine lv_iconst (v := (1 : Int32)) hx hb dX1_keepDraft_18 (by decide) ?_
  refine lv_iadd hx hb dX1_keepDraft_19 ?_
  refine lv_iconst (v := (5 : Int32)) hx hb dX1_keepDraft_20 (by decide) ?_
  refine va_mmin hx hb (X.1.2.2.1.trans hl.1.symm) X.1.2.2.2.1 (X.1.2.2.2.2 _ tw_2_9) (X.1.2.2.2.2 _ tw_1_41) (X.1.2.2.2.2 _ tw_1_5) (X.1.2.2.2.2 _ tw_1_42) (Nat.le_of_ble_eq_true rfl) (Nat.le_of_ble_eq_true rfl) (Nat.zero_le _) (Nat.zero_le _) dX1_keepDraft_21 ?_
  refine fw_put (id := 2) (k := 2) (v := .int (if (5 : Int32) < ((fw_g (fw_u σ 2 1 (((fw_g σ 2 1) + (1 : Int32)) - ((fw_g σ 2 1) + (1 : Int32)) / (6 : Int32) * (6 : Int32))) 2 2) + (1 : Int32)) then (5 : Int32) else ((fw_g (fw_u σ 2 1 (((fw_g σ 2 1) + (1 : Int32)) - ((fw_g σ 2 1) + (1 : Int32)) / (6 : Int32) * (6 : Int32))) 2 2) + (1 : Int32)))) (ty := .int) (σ' := (fw_u (fw_u σ 2 1 (((fw_g σ 2 1) + (1 : Int32)) - ((fw_g σ 2 1) + (1 : Int32)) / (6 : Int32) * (6 : Int32))) 2 2 (if (5 : Int32) < ((fw_g (fw_u σ 2 1 (((fw_g σ 2 1) + (1 : Int32)) - ((fw_g σ 2 1) + (1 : Int32)) / (6 : Int32) * (6 : Int32))) 2 2) + (1 : Int32)) then (5 : Int32) else ((fw_g (fw_u σ 2 1 (((fw_g σ 2 1) + (1 : Int32)) - ((fw_g σ 2 1) + (1 : Int32)) / (6 : Int32) * (6 : Int32))) 2 2) + (1 : Int32))))) X hH (by decide) (fc_2 (by decide)) (fp_2_2 (by decide)) (fun j h => fc_ne h) rfl inX1 tyX1 tyX1_ok nmX1 (by decide) (Nat.le_of_ble_eq_true rfl) rfl (by decide +kernel) rfl rfl tw_1_128 dX1_keepDraft_24 (fun H locs hH => ?_)
  obtain rfl := Option.some.inj hf
  exact fw_retv X hH dX1_keepDraft_27
abbrev rmX7_report : Room := { frames := 1, cells := 0, slots := 0, locals := 20 }
theorem qX7_report : fw_QV RX7 yX7_report cX7_report 2 (some .int) 1 := ⟨⟨tw_2_12, tv_X7_report, tw_1_1, tw_2_13⟩, by decide +kernel⟩
def pX7_report (x1 : Int32) (σ : fw_T) : Option (Int32 × fw_T) :=
  fw_b2 (pX7_isError x1 σ) fun w3 τ2 =>
  if w3 = 0 then
    some (x1, τ2)
  else
    (fw_rd τ2 9 3 ((-10002 : Int32) - x1)).bind fun w4 =>
    (fw_wr τ2 9 3 ((-10002 : Int32) - x1) (w4 + (1 : Int32))).bind fun τ6 =>
    some (x1, τ6)
set_option maxRecDepth 100000 in
set_option maxHeartbeats 4000000 in
theorem kX7_report {x1 : Int32} {r : Int32} {σ σ' : fw_T} (hf : pX7_report x1 σ = some (r, σ')) : fw_Ci l yX7_report (Cond.code yX7_report cX7_report 2 (some .int) :: lwT) rmX7_report [.ref (adr 0), .int x1] D 96 adr (fw_C cI cO adr) (fcT cI cO) nwC σ r σ' := by
  refine fw_start (Qc := (fun A => va_Qi (fun r' (_ : Unit) => r' = r) (fun _ t => va_P D vwCl (fw_ws 96 adr (fw_C cI cO adr σ')) t.heap) A)) (by decide) (by simp [lg_sl, Value.category]) rfl ?_
  intro p e s m below meth c A X hH ls hl
  have hx := X.1.1
  have hb := X.1.2.1
  have hl : lv_has ls 2 [(0, .ref (adr 0)), (1, .int x1)] := hl
  unfold pX7_report at hf
  refine lv_iload_n hx hb dX7_report_0 rfl (lv_at hl 1 rfl) ?_
  obtain ⟨w3, τ2, g1, hf⟩ := fw_b2s hf
  refine fw_ci hH (fw_rS (As := [.int x1]) (rest := []) X hH (kX7_isError  g1 _) qX7_isError tw_2_2 ⟨Nat.le_of_ble_eq_true rfl, Nat.le_of_ble_eq_true rfl⟩ rfl rfl rfl hl.1 rfl (Nat.le_of_ble_eq_true rfl) dX7_report_1) (fun H locs hH => ?_)
  refine lv_if_eq (tgt := 21) hx hb dX7_report_4 (by decide) (fun hc => ?_) (fun hc => ?_)
  · have hf := fw_pos hc hf
    refine lv_iload_n hx hb dX7_report_21 rfl (lv_at hl 1 rfl) ?_
    obtain ⟨rfl, rfl⟩ := fw_s2 hf
    exact fw_reti X hH dX7_report_22
  · have hf := fw_neg hc hf
    refine lv_aload_n hx hb dX7_report_7 rfl (lv_at hl 0 rfl) ?_
    refine fw_get (id := 0) (k := 5) (v := .ref (adr 9)) X hH (by decide) (fc_0 (by decide)) rfl inX7 (by decide) rfl tw_1_182 dX7_report_8 ?_
    refine lv_sipush (v := (-10002 : Int32)) hx hb dX7_report_11 (by decide) ?_
    refine lv_iload_n hx hb dX7_report_14 rfl (lv_at hl 1 rfl) ?_
    refine lv_isub hx hb dX7_report_15 ?_
    refine lv_dup2_11 hx hb dX7_report_16 rfl rfl ?_
    obtain ⟨w4, g5, hf⟩ := fw_bd hf
    refine fw_iald (id := 9) (n := 3) X hH (by decide) (fc_9 (by decide)) rfl g5 dX7_report_17 ?_
    refine lv_iconst (v := (1 : Int32)) hx hb dX7_report_18 (by decide) ?_
    refine lv_iadd hx hb dX7_report_19 ?_
    obtain ⟨τ6, g7, hf⟩ := fw_bd hf
    refine fw_iast (id := 9) (n := 3) X hH (by decide) (fun σ => fc_9 (by decide)) (fun k x j h => fc_ne h) rfl g7 dX7_report_20 (fun H locs hH => ?_)
    refine lv_iload_n hx hb dX7_report_21 rfl (lv_at hl 1 rfl) ?_
    obtain ⟨rfl, rfl⟩ := fw_s2 hf
    exact fw_reti X hH dX7_report_22
abbrev rmX7_settle : Room := { frames := 2, cells := 0, slots := 0, locals := 41 }
theorem qX7_settle : fw_QV RX7 yX7_settle cX7_settle 2 (some .int) 1 := ⟨⟨tw_2_0, tv_X7_settle, tw_1_1, tw_2_1⟩, by decide +kernel⟩
def pX7_settle (x1 : Int32) (σ : fw_T) : Option (Int32 × fw_T) :=
  fw_b2 (pX7_isError x1 σ) fun w3 τ2 =>
  if w3 = 0 then
    (pX1_keepDraft τ2).bind fun τ8 =>
    fw_b2 (pX7_report x1 τ8) fun w11 τ10 =>
    some (w11, τ10)
  else
    fw_b2 (pX7_report x1 τ2) fun w6 τ5 =>
    some (w6, τ5)
set_option maxRecDepth 100000 in
set_option maxHeartbeats 4000000 in
theorem kX7_settle {x1 : Int32} {r : Int32} {σ σ' : fw_T} (hf : pX7_settle x1 σ = some (r, σ')) : fw_Ci l yX7_settle (Cond.code yX7_settle cX7_settle 2 (some .int) :: lwT) rmX7_settle [.ref (adr 0), .int x1] D 96 adr (fw_C cI cO adr) (fcT cI cO) nwC σ r σ' := by
  refine fw_start (Qc := (fun A => va_Qi (fun r' (_ : Unit) => r' = r) (fun _ t => va_P D vwCl (fw_ws 96 adr (fw_C cI cO adr σ')) t.heap) A)) (by decide) (by simp [lg_sl, Value.category]) rfl ?_
  intro p e s m below meth c A X hH ls hl
  have hx := X.1.1
  have hb := X.1.2.1
  have hl : lv_has ls 2 [(0, .ref (adr 0)), (1, .int x1)] := hl
  unfold pX7_settle at hf
  refine lv_iload_n hx hb dX7_settle_0 rfl (lv_at hl 1 rfl) ?_
  obtain ⟨w3, τ2, g1, hf⟩ := fw_b2s hf
  refine fw_ci hH (fw_rS (As := [.int x1]) (rest := []) X hH (kX7_isError  g1 _) qX7_isError tw_2_2 ⟨Nat.le_of_ble_eq_true rfl, Nat.le_of_ble_eq_true rfl⟩ rfl rfl rfl hl.1 rfl (Nat.le_of_ble_eq_true rfl) dX7_settle_1) (fun H locs hH => ?_)
  refine lv_if_ne (tgt := 14) hx hb dX7_settle_4 (by decide) (fun hc => ?_) (fun hc => ?_)
  · have hf := fw_neg hc hf
    refine lv_aload_n hx hb dX7_settle_14 rfl (lv_at hl 0 rfl) ?_
    refine lv_iload_n hx hb dX7_settle_15 rfl (lv_at hl 1 rfl) ?_
    obtain ⟨w6, τ5, g4, hf⟩ := fw_b2s hf
    refine fw_ci hH (fw_rV (As := [.int x1]) (rest := []) (id := 0) X hH (kX7_report  g4 _) qX7_report tw_2_10 ⟨Nat.le_of_ble_eq_true rfl, Nat.le_of_ble_eq_true rfl⟩ rfl rfl (by decide) (fc_0 (by decide)) rfl rfl hl.1 rfl (Nat.le_of_ble_eq_true rfl) dX7_settle_16) (fun H locs hH => ?_)
    obtain ⟨rfl, rfl⟩ := fw_s2 hf
    exact fw_reti X hH dX7_settle_19
  · have hf := fw_pos hc hf
    refine lv_aload_n hx hb dX7_settle_7 rfl (lv_at hl 0 rfl) ?_
    refine fw_get (id := 0) (k := 2) (v := .ref (adr 2)) X hH (by decide) (fc_0 (by decide)) rfl inX7 (by decide) rfl tw_1_179 dX7_settle_8 ?_
    obtain ⟨τ8, g7, hf⟩ := fw_bd hf
    refine fw_cv hH (fw_rV (As := []) (rest := []) (id := 2) X hH (kX1_keepDraft  g7 _) qX1_keepDraft tw_2_5 ⟨Nat.le_of_ble_eq_true rfl, Nat.le_of_ble_eq_true rfl⟩ rfl rfl (by decide) (fc_2 (by decide)) rfl rfl hl.1 rfl (Nat.le_of_ble_eq_true rfl) dX7_settle_11) (fun H locs hH => ?_)
    refine lv_aload_n hx hb dX7_settle_14 rfl (lv_at hl 0 rfl) ?_
    refine lv_iload_n hx hb dX7_settle_15 rfl (lv_at hl 1 rfl) ?_
    obtain ⟨w11, τ10, g9, hf⟩ := fw_b2s hf
    refine fw_ci hH (fw_rV (As := [.int x1]) (rest := []) (id := 0) X hH (kX7_report  g9 _) qX7_report tw_2_10 ⟨Nat.le_of_ble_eq_true rfl, Nat.le_of_ble_eq_true rfl⟩ rfl rfl (by decide) (fc_0 (by decide)) rfl rfl hl.1 rfl (Nat.le_of_ble_eq_true rfl) dX7_settle_16) (fun H locs hH => ?_)
    obtain ⟨rfl, rfl⟩ := fw_s2 hf
    exact fw_reti X hH dX7_settle_19
abbrev rmX7_addLeft : Room := { frames := 4, cells := 0, slots := 0, locals := 89 }
theorem qX7_addLeft : fw_QV RX7 yX7_addLeft cX7_addLeft 3 (some .int) 2 := ⟨⟨tw_1_197, tw_1_198, tw_1_1, tw_1_199⟩, by decide +kernel⟩
def pX7_addLeft (x1 : Int32) (x2 : Int32) (σ : fw_T) : Option (Int32 × fw_T) :=
  (pX1_draft 12 σ).bind fun τ2 =>
  fw_b2 (pX2_insert 13 x1 x2 τ2) fun w5 τ4 =>
  fw_b2 (pX7_settle w5 τ4) fun w8 τ7 =>
  some (w8, τ7)
set_option maxRecDepth 100000 in
set_option maxHeartbeats 4000000 in
theorem kX7_addLeft {x1 : Int32} {x2 : Int32} {r : Int32} {σ σ' : fw_T} (hf : pX7_addLeft x1 x2 σ = some (r, σ')) : fw_Ci l yX7_addLeft (Cond.code yX7_addLeft cX7_addLeft 3 (some .int) :: lwT) rmX7_addLeft [.ref (adr 0), .int x1, .int x2] D 96 adr (fw_C cI cO adr) (fcT cI cO) nwC σ r σ' := by
  refine fw_start (Qc := (fun A => va_Qi (fun r' (_ : Unit) => r' = r) (fun _ t => va_P D vwCl (fw_ws 96 adr (fw_C cI cO adr σ')) t.heap) A)) (by decide) (by simp [lg_sl, Value.category]) rfl ?_
  intro p e s m below meth c A X hH ls hl
  have hx := X.1.1
  have hb := X.1.2.1
  have hl : lv_has ls 3 [(0, .ref (adr 0)), (1, .int x1), (2, .int x2)] := hl
  unfold pX7_addLeft at hf
  refine lv_aload_n hx hb dX7_addLeft_0 rfl (lv_at hl 0 rfl) ?_
  refine fw_get (id := 0) (k := 2) (v := .ref (adr 2)) X hH (by decide) (fc_0 (by decide)) rfl inX7 (by decide) rfl tw_1_179 dX7_addLeft_1 ?_
  refine lv_aload_n hx hb dX7_addLeft_4 rfl (lv_at hl 0 rfl) ?_
  refine fw_get (id := 0) (k := 1) (v := .ref (adr 12)) X hH (by decide) (fc_0 (by decide)) rfl inX7 (by decide) rfl tw_1_178 dX7_addLeft_5 ?_
  obtain ⟨τ2, g1, hf⟩ := fw_bd hf
  refine fw_cv hH (fw_rV (As := [.ref (adr 12)]) (rest := []) (id := 2) X hH (kX1_draft (by unfold fw_ST fw_PL fw_FL; decide) g1 _) qX1_draft tw_1_200 ⟨Nat.le_of_ble_eq_true rfl, Nat.le_of_ble_eq_true rfl⟩ rfl rfl (by decide) (fc_2 (by decide)) rfl rfl hl.1 rfl (Nat.le_of_ble_eq_true rfl) dX7_addLeft_8) (fun H locs hH => ?_)
  refine lv_aload_n hx hb dX7_addLeft_11 rfl (lv_at hl 0 rfl) ?_
  refine lv_aload_n hx hb dX7_addLeft_12 rfl (lv_at hl 0 rfl) ?_
  refine fw_get (id := 0) (k := 1) (v := .ref (adr 12)) X hH (by decide) (fc_0 (by decide)) rfl inX7 (by decide) rfl tw_1_178 dX7_addLeft_13 ?_
  refine fw_getN (id := 12) (k := 0) (v := .ref (adr 13)) X hH (by decide) (fc_12 (by decide)) rfl inX5 (by decide) rfl nw_1_85 dX7_addLeft_16 ?_
  refine lv_iload_n hx hb dX7_addLeft_19 rfl (lv_at hl 1 rfl) ?_
  refine lv_iload_n hx hb dX7_addLeft_20 rfl (lv_at hl 2 rfl) ?_
  obtain ⟨w5, τ4, g3, hf⟩ := fw_b2s hf
  refine fw_ci hH (fw_rV (As := [.int x1, .int x2]) (rest := [.ref (adr 0)]) (id := 13) X hH (kX2_insert (by unfold fw_PL; decide) g3 _) qX2_insert tw_1_220 ⟨Nat.le_of_ble_eq_true rfl, Nat.le_of_ble_eq_true rfl⟩ rfl rfl (by decide) (fc_13 (by decide)) rfl rfl hl.1 rfl (Nat.le_of_ble_eq_true rfl) dX7_addLeft_21) (fun H locs hH => ?_)
  obtain ⟨w8, τ7, g6, hf⟩ := fw_b2s hf
  refine fw_ci hH (fw_rV (As := [.int w5]) (rest := []) (id := 0) X hH (kX7_settle  g6 _) qX7_settle tw_1_238 ⟨Nat.le_of_ble_eq_true rfl, Nat.le_of_ble_eq_true rfl⟩ rfl rfl (by decide) (fc_0 (by decide)) rfl rfl hl.1 rfl (Nat.le_of_ble_eq_true rfl) dX7_addLeft_24) (fun H locs hH => ?_)
  obtain ⟨rfl, rfl⟩ := fw_s2 hf
  exact fw_reti X hH dX7_addLeft_27
abbrev rmX7_addRight : Room := { frames := 4, cells := 0, slots := 0, locals := 89 }
theorem qX7_addRight : fw_QV RX7 yX7_addRight cX7_addRight 3 (some .int) 2 := ⟨⟨tw_2_15, tw_2_16, tw_1_1, tw_2_17⟩, by decide +kernel⟩
def pX7_addRight (x1 : Int32) (x2 : Int32) (σ : fw_T) : Option (Int32 × fw_T) :=
  (pX1_draft 12 σ).bind fun τ2 =>
  fw_b2 (pX2_insert 15 x1 x2 τ2) fun w5 τ4 =>
  fw_b2 (pX7_settle w5 τ4) fun w8 τ7 =>
  some (w8, τ7)
set_option maxRecDepth 100000 in
set_option maxHeartbeats 4000000 in
theorem kX7_addRight {x1 : Int32} {x2 : Int32} {r : Int32} {σ σ' : fw_T} (hf : pX7_addRight x1 x2 σ = some (r, σ')) : fw_Ci l yX7_addRight (Cond.code yX7_addRight cX7_addRight 3 (some .int) :: lwT) rmX7_addRight [.ref (adr 0), .int x1, .int x2] D 96 adr (fw_C cI cO adr) (fcT cI cO) nwC σ r σ' := by
  refine fw_start (Qc := (fun A => va_Qi (fun r' (_ : Unit) => r' = r) (fun _ t => va_P D vwCl (fw_ws 96 adr (fw_C cI cO adr σ')) t.heap) A)) (by decide) (by simp [lg_sl, Value.category]) rfl ?_
  intro p e s m below meth c A X hH ls hl
  have hx := X.1.1
  have hb := X.1.2.1
  have hl : lv_has ls 3 [(0, .ref (adr 0)), (1, .int x1), (2, .int x2)] := hl
  unfold pX7_addRight at hf
  refine lv_aload_n hx hb dX7_addRight_0 rfl (lv_at hl 0 rfl) ?_
  refine fw_get (id := 0) (k := 2) (v := .ref (adr 2)) X hH (by decide) (fc_0 (by decide)) rfl inX7 (by decide) rfl tw_1_179 dX7_addRight_1 ?_
  refine lv_aload_n hx hb dX7_addRight_4 rfl (lv_at hl 0 rfl) ?_
  refine fw_get (id := 0) (k := 1) (v := .ref (adr 12)) X hH (by decide) (fc_0 (by decide)) rfl inX7 (by decide) rfl tw_1_178 dX7_addRight_5 ?_
  obtain ⟨τ2, g1, hf⟩ := fw_bd hf
  refine fw_cv hH (fw_rV (As := [.ref (adr 12)]) (rest := []) (id := 2) X hH (kX1_draft (by unfold fw_ST fw_PL fw_FL; decide) g1 _) qX1_draft tw_1_200 ⟨Nat.le_of_ble_eq_true rfl, Nat.le_of_ble_eq_true rfl⟩ rfl rfl (by decide) (fc_2 (by decide)) rfl rfl hl.1 rfl (Nat.le_of_ble_eq_true rfl) dX7_addRight_8) (fun H locs hH => ?_)
  refine lv_aload_n hx hb dX7_addRight_11 rfl (lv_at hl 0 rfl) ?_
  refine lv_aload_n hx hb dX7_addRight_12 rfl (lv_at hl 0 rfl) ?_
  refine fw_get (id := 0) (k := 1) (v := .ref (adr 12)) X hH (by decide) (fc_0 (by decide)) rfl inX7 (by decide) rfl tw_1_178 dX7_addRight_13 ?_
  refine fw_getN (id := 12) (k := 1) (v := .ref (adr 15)) X hH (by decide) (fc_12 (by decide)) rfl inX5 (by decide) rfl nw_1_88 dX7_addRight_16 ?_
  refine lv_iload_n hx hb dX7_addRight_19 rfl (lv_at hl 1 rfl) ?_
  refine lv_iload_n hx hb dX7_addRight_20 rfl (lv_at hl 2 rfl) ?_
  obtain ⟨w5, τ4, g3, hf⟩ := fw_b2s hf
  refine fw_ci hH (fw_rV (As := [.int x1, .int x2]) (rest := [.ref (adr 0)]) (id := 15) X hH (kX2_insert (by unfold fw_PL; decide) g3 _) qX2_insert tw_1_220 ⟨Nat.le_of_ble_eq_true rfl, Nat.le_of_ble_eq_true rfl⟩ rfl rfl (by decide) (fc_13 (by decide)) rfl rfl hl.1 rfl (Nat.le_of_ble_eq_true rfl) dX7_addRight_21) (fun H locs hH => ?_)
  obtain ⟨w8, τ7, g6, hf⟩ := fw_b2s hf
  refine fw_ci hH (fw_rV (As := [.int w5]) (rest := []) (id := 0) X hH (kX7_settle  g6 _) qX7_settle tw_1_238 ⟨Nat.le_of_ble_eq_true rfl, Nat.le_of_ble_eq_true rfl⟩ rfl rfl (by decide) (fc_0 (by decide)) rfl rfl hl.1 rfl (Nat.le_of_ble_eq_true rfl) dX7_addRight_24) (fun H locs hH => ?_)
  obtain ⟨rfl, rfl⟩ := fw_s2 hf
  exact fw_reti X hH dX7_addRight_27
abbrev rmX2_drop : Room := { frames := 0, cells := 0, slots := 0, locals := 0 }
theorem qX2_drop : fw_QV RX2 yX2_drop cX2_drop 3 (some .int) 1 := ⟨⟨tw_2_23, tw_2_24, tw_1_4, tw_2_25⟩, by decide +kernel⟩
def pX2_drop_28 (h : Nat) : Nat → Int32 → fw_T → Option (Int32 × fw_T)
  | 0, _, _ => none
  | n + 1, x2, σ =>
    if (fw_g σ h 2) ≤ x2 then
      some ((fw_g σ h 2), σ)
    else
      (fw_rd σ (h + 1) 10 (x2 + (1 : Int32))).bind fun w1 =>
      (fw_wr σ (h + 1) 10 x2 w1).bind fun τ3 =>
      pX2_drop_28 h n (x2 + (1 : Int32)) τ3
set_option maxRecDepth 100000 in
set_option maxHeartbeats 4000000 in
theorem wX2_drop_28 {h : Nat} (hk : fw_PL h) {args : Array Value} {r : Int32} {σ' : fw_T} (X : fcX p m c cX2_drop 3 s args RX2 meth (some .int) D cI cO)  : ∀ (n : Nat), ∀ (x2 : Int32), ∀ (σ : fw_T), pX2_drop_28 h n x2 σ = some (r, σ') → ∀ (H : Heap) (locs : List Loc) (ls : Array Slot), fcH D cI cO adr A s H locs σ → lv_has ls 3 [(0, .ref (adr h)), (2, .int x2)] → W p l e rmX2_drop s m args below meth c H locs 0 0 (fw_Qi D 96 adr (fw_C cI cO adr) A below args s r σ') (F0 m 28 ls []) := by
  have hx := X.1.1
  have hb := X.1.2.1
  intro n
  induction n with
  | zero =>
    intro x2 σ hf
    exact absurd hf (by simp [pX2_drop_28])
  | succ n ih =>
    intro x2 σ hf H locs ls hH hl
    rw [pX2_drop_28] at hf
    refine lv_iload_n hx hb dX2_drop_28 rfl (lv_at hl 1 rfl) ?_
    refine lv_aload_n hx hb dX2_drop_29 rfl (lv_at hl 0 rfl) ?_
    refine fw_get (id := h) (k := 2) (v := .int (fw_g σ h 2)) X hH hk.2.1 (fc_13 hk.1) rfl inX2 (by decide) rfl tw_1_45 dX2_drop_30 ?_
    refine lv_icmp_ge (tgt := 56) hx hb dX2_drop_33 (by decide) (fun hc => ?_) (fun hc => ?_)
    · have hf := fw_pos hc hf
      refine lv_aload_n hx hb dX2_drop_56 rfl (lv_at hl 0 rfl) ?_
      refine fw_get (id := h) (k := 2) (v := .int (fw_g σ h 2)) X hH hk.2.1 (fc_13 hk.1) rfl inX2 (by decide) rfl tw_1_45 dX2_drop_57 ?_
      obtain ⟨rfl, rfl⟩ := fw_s2 hf
      exact fw_reti X hH dX2_drop_60
    · have hf := fw_neg hc hf
      refine lv_aload_n hx hb dX2_drop_36 rfl (lv_at hl 0 rfl) ?_
      refine fw_get (id := h) (k := 0) (v := .ref (adr (h + 1))) X hH hk.2.1 (fc_13 hk.1) rfl inX2 (by decide) rfl tw_1_43 dX2_drop_37 ?_
      refine lv_iload_n hx hb dX2_drop_40 rfl (lv_at hl 1 rfl) ?_
      refine lv_aload_n hx hb dX2_drop_41 rfl (lv_at hl 0 rfl) ?_
      refine fw_get (id := h) (k := 0) (v := .ref (adr (h + 1))) X hH hk.2.1 (fc_13 hk.1) rfl inX2 (by decide) rfl tw_1_43 dX2_drop_42 ?_
      refine lv_iload_n hx hb dX2_drop_45 rfl (lv_at hl 1 rfl) ?_
      refine lv_iconst (v := (1 : Int32)) hx hb dX2_drop_46 (by decide) ?_
      refine lv_iadd hx hb dX2_drop_47 ?_
      obtain ⟨w1, g2, hf⟩ := fw_bd hf
      refine fw_iald (id := (h + 1)) (n := 10) X hH hk.2.2.2 (fc_14 hk.2.2.1) rfl g2 dX2_drop_48 ?_
      obtain ⟨τ3, g4, hf⟩ := fw_bd hf
      refine fw_iast (id := (h + 1)) (n := 10) X hH hk.2.2.2 (fun σ => fc_14 hk.2.2.1) (fun k x j h => fc_ne h) rfl g4 dX2_drop_49 (fun H locs hH => ?_)
      refine lv_iinc (v := (x2 + (1 : Int32))) (lv' := [(2, .int (x2 + (1 : Int32))), (0, .ref (adr h))]) hx hb dX2_drop_50 hl (k := 1) rfl rfl (by decide) rfl (fun ls hl => ?_)
      refine lv_goto (tgt := 28) hx hb dX2_drop_53 (by decide) ?_
      exact ih (x2 + (1 : Int32)) τ3 hf _ _ _ hH (lv_sub hl [1, 0] rfl)
def pX2_drop (h : Nat) (x1 : Int32) (σ : fw_T) : Option (Int32 × fw_T) :=
  if x1 < 0 then
    some ((-10002 : Int32), σ)
  else
    if x1 < (fw_g σ h 2) then
      pX2_drop_28 h 400 x1 (fw_u σ h 2 ((fw_g σ h 2) - (1 : Int32)))
    else
      some ((-10002 : Int32), σ)
set_option maxRecDepth 100000 in
set_option maxHeartbeats 4000000 in
theorem kX2_drop {h : Nat} (hk : fw_PL h) {x1 : Int32} {r : Int32} {σ σ' : fw_T} (hf : pX2_drop h x1 σ = some (r, σ')) : fw_Ci l yX2_drop (Cond.code yX2_drop cX2_drop 3 (some .int) :: lwT) rmX2_drop [.ref (adr h), .int x1] D 96 adr (fw_C cI cO adr) (fcT cI cO) nwC σ r σ' := by
  refine fw_start (Qc := (fun A => va_Qi (fun r' (_ : Unit) => r' = r) (fun _ t => va_P D vwCl (fw_ws 96 adr (fw_C cI cO adr σ')) t.heap) A)) (by decide) (by simp [lg_sl, Value.category]) rfl ?_
  intro p e s m below meth c A X hH ls hl
  have hx := X.1.1
  have hb := X.1.2.1
  have hl : lv_has ls 3 [(0, .ref (adr h)), (1, .int x1)] := hl
  unfold pX2_drop at hf
  refine lv_iload_n hx hb dX2_drop_0 rfl (lv_at hl 1 rfl) ?_
  refine lv_if_lt (tgt := 12) hx hb dX2_drop_1 (by decide) (fun hc => ?_) (fun hc => ?_)
  · have hf := fw_pos hc hf
    refine lv_sipush (v := (-10002 : Int32)) hx hb dX2_drop_12 (by decide) ?_
    obtain ⟨rfl, rfl⟩ := fw_s2 hf
    exact fw_reti X hH dX2_drop_15
  · have hf := fw_neg hc hf
    refine lv_iload_n hx hb dX2_drop_4 rfl (lv_at hl 1 rfl) ?_
    refine lv_aload_n hx hb dX2_drop_5 rfl (lv_at hl 0 rfl) ?_
    refine fw_get (id := h) (k := 2) (v := .int (fw_g σ h 2)) X hH hk.2.1 (fc_13 hk.1) rfl inX2 (by decide) rfl tw_1_45 dX2_drop_6 ?_
    refine lv_icmp_lt (tgt := 16) hx hb dX2_drop_9 (by decide) (fun hc => ?_) (fun hc => ?_)
    · have hf := fw_pos hc hf
      refine lv_aload_n hx hb dX2_drop_16 rfl (lv_at hl 0 rfl) ?_
      refine lv_dup hx hb dX2_drop_17 rfl ?_
      refine fw_get (id := h) (k := 2) (v := .int (fw_g σ h 2)) X hH hk.2.1 (fc_13 hk.1) rfl inX2 (by decide) rfl tw_1_45 dX2_drop_18 ?_
      refine lv_iconst (v := (1 : Int32)) hx hb dX2_drop_21 (by decide) ?_
      refine lv_isub hx hb dX2_drop_22 ?_
      refine fw_put (id := h) (k := 2) (v := .int ((fw_g σ h 2) - (1 : Int32))) (ty := .int) (σ' := (fw_u σ h 2 ((fw_g σ h 2) - (1 : Int32)))) X hH hk.2.1 (fc_13 hk.1) (fp_13_2 hk.1) (fun j h => fc_ne h) rfl inX2 tyX2 tyX2_ok nmX2 (by decide) (Nat.le_of_ble_eq_true rfl) rfl (by decide +kernel) rfl rfl tw_1_45 dX2_drop_23 (fun H locs hH => ?_)
      refine lv_iload_n hx hb dX2_drop_26 rfl (lv_at hl 1 rfl) ?_
      refine lv_istore_n (lv' := [(2, .int x1), (0, .ref (adr h)), (1, .int x1)]) hx hb dX2_drop_27 rfl hl (by decide) rfl (fun ls hl => ?_)
      exact wX2_drop_28 hk X 400 x1 (fw_u σ h 2 ((fw_g σ h 2) - (1 : Int32))) hf _ _ _ hH (lv_sub hl [1, 0] rfl)
    · have hf := fw_neg hc hf
      refine lv_sipush (v := (-10002 : Int32)) hx hb dX2_drop_12 (by decide) ?_
      obtain ⟨rfl, rfl⟩ := fw_s2 hf
      exact fw_reti X hH dX2_drop_15
abbrev rmX7_removeLeft : Room := { frames := 4, cells := 0, slots := 0, locals := 89 }
theorem qX7_removeLeft : fw_QV RX7 yX7_removeLeft cX7_removeLeft 2 (some .int) 1 := ⟨⟨tw_2_19, tw_2_20, tw_1_1, tw_2_21⟩, by decide +kernel⟩
def pX7_removeLeft (x1 : Int32) (σ : fw_T) : Option (Int32 × fw_T) :=
  (pX1_draft 12 σ).bind fun τ2 =>
  fw_b2 (pX2_drop 13 x1 τ2) fun w5 τ4 =>
  fw_b2 (pX7_settle w5 τ4) fun w8 τ7 =>
  some (w8, τ7)
set_option maxRecDepth 100000 in
set_option maxHeartbeats 4000000 in
theorem kX7_removeLeft {x1 : Int32} {r : Int32} {σ σ' : fw_T} (hf : pX7_removeLeft x1 σ = some (r, σ')) : fw_Ci l yX7_removeLeft (Cond.code yX7_removeLeft cX7_removeLeft 2 (some .int) :: lwT) rmX7_removeLeft [.ref (adr 0), .int x1] D 96 adr (fw_C cI cO adr) (fcT cI cO) nwC σ r σ' := by
  refine fw_start (Qc := (fun A => va_Qi (fun r' (_ : Unit) => r' = r) (fun _ t => va_P D vwCl (fw_ws 96 adr (fw_C cI cO adr σ')) t.heap) A)) (by decide) (by simp [lg_sl, Value.category]) rfl ?_
  intro p e s m below meth c A X hH ls hl
  have hx := X.1.1
  have hb := X.1.2.1
  have hl : lv_has ls 2 [(0, .ref (adr 0)), (1, .int x1)] := hl
  unfold pX7_removeLeft at hf
  refine lv_aload_n hx hb dX7_removeLeft_0 rfl (lv_at hl 0 rfl) ?_
  refine fw_get (id := 0) (k := 2) (v := .ref (adr 2)) X hH (by decide) (fc_0 (by decide)) rfl inX7 (by decide) rfl tw_1_179 dX7_removeLeft_1 ?_
  refine lv_aload_n hx hb dX7_removeLeft_4 rfl (lv_at hl 0 rfl) ?_
  refine fw_get (id := 0) (k := 1) (v := .ref (adr 12)) X hH (by decide) (fc_0 (by decide)) rfl inX7 (by decide) rfl tw_1_178 dX7_removeLeft_5 ?_
  obtain ⟨τ2, g1, hf⟩ := fw_bd hf
  refine fw_cv hH (fw_rV (As := [.ref (adr 12)]) (rest := []) (id := 2) X hH (kX1_draft (by unfold fw_ST fw_PL fw_FL; decide) g1 _) qX1_draft tw_1_200 ⟨Nat.le_of_ble_eq_true rfl, Nat.le_of_ble_eq_true rfl⟩ rfl rfl (by decide) (fc_2 (by decide)) rfl rfl hl.1 rfl (Nat.le_of_ble_eq_true rfl) dX7_removeLeft_8) (fun H locs hH => ?_)
  refine lv_aload_n hx hb dX7_removeLeft_11 rfl (lv_at hl 0 rfl) ?_
  refine lv_aload_n hx hb dX7_removeLeft_12 rfl (lv_at hl 0 rfl) ?_
  refine fw_get (id := 0) (k := 1) (v := .ref (adr 12)) X hH (by decide) (fc_0 (by decide)) rfl inX7 (by decide) rfl tw_1_178 dX7_removeLeft_13 ?_
  refine fw_getN (id := 12) (k := 0) (v := .ref (adr 13)) X hH (by decide) (fc_12 (by decide)) rfl inX5 (by decide) rfl nw_1_85 dX7_removeLeft_16 ?_
  refine lv_iload_n hx hb dX7_removeLeft_19 rfl (lv_at hl 1 rfl) ?_
  obtain ⟨w5, τ4, g3, hf⟩ := fw_b2s hf
  refine fw_ci hH (fw_rV (As := [.int x1]) (rest := [.ref (adr 0)]) (id := 13) X hH (kX2_drop (by unfold fw_PL; decide) g3 _) qX2_drop tw_2_22 ⟨Nat.le_of_ble_eq_true rfl, Nat.le_of_ble_eq_true rfl⟩ rfl rfl (by decide) (fc_13 (by decide)) rfl rfl hl.1 rfl (Nat.le_of_ble_eq_true rfl) dX7_removeLeft_20) (fun H locs hH => ?_)
  obtain ⟨w8, τ7, g6, hf⟩ := fw_b2s hf
  refine fw_ci hH (fw_rV (As := [.int w5]) (rest := []) (id := 0) X hH (kX7_settle  g6 _) qX7_settle tw_1_238 ⟨Nat.le_of_ble_eq_true rfl, Nat.le_of_ble_eq_true rfl⟩ rfl rfl (by decide) (fc_0 (by decide)) rfl rfl hl.1 rfl (Nat.le_of_ble_eq_true rfl) dX7_removeLeft_23) (fun H locs hH => ?_)
  obtain ⟨rfl, rfl⟩ := fw_s2 hf
  exact fw_reti X hH dX7_removeLeft_26
abbrev rmX7_removeRight : Room := { frames := 4, cells := 0, slots := 0, locals := 89 }
theorem qX7_removeRight : fw_QV RX7 yX7_removeRight cX7_removeRight 2 (some .int) 1 := ⟨⟨tw_2_27, tw_2_28, tw_1_1, tw_2_29⟩, by decide +kernel⟩
def pX7_removeRight (x1 : Int32) (σ : fw_T) : Option (Int32 × fw_T) :=
  (pX1_draft 12 σ).bind fun τ2 =>
  fw_b2 (pX2_drop 15 x1 τ2) fun w5 τ4 =>
  fw_b2 (pX7_settle w5 τ4) fun w8 τ7 =>
  some (w8, τ7)
set_option maxRecDepth 100000 in
set_option maxHeartbeats 4000000 in
theorem kX7_removeRight {x1 : Int32} {r : Int32} {σ σ' : fw_T} (hf : pX7_removeRight x1 σ = some (r, σ')) : fw_Ci l yX7_removeRight (Cond.code yX7_removeRight cX7_removeRight 2 (some .int) :: lwT) rmX7_removeRight [.ref (adr 0), .int x1] D 96 adr (fw_C cI cO adr) (fcT cI cO) nwC σ r σ' := by
  refine fw_start (Qc := (fun A => va_Qi (fun r' (_ : Unit) => r' = r) (fun _ t => va_P D vwCl (fw_ws 96 adr (fw_C cI cO adr σ')) t.heap) A)) (by decide) (by simp [lg_sl, Value.category]) rfl ?_
  intro p e s m below meth c A X hH ls hl
  have hx := X.1.1
  have hb := X.1.2.1
  have hl : lv_has ls 2 [(0, .ref (adr 0)), (1, .int x1)] := hl
  unfold pX7_removeRight at hf
  refine lv_aload_n hx hb dX7_removeRight_0 rfl (lv_at hl 0 rfl) ?_
  refine fw_get (id := 0) (k := 2) (v := .ref (adr 2)) X hH (by decide) (fc_0 (by decide)) rfl inX7 (by decide) rfl tw_1_179 dX7_removeRight_1 ?_
  refine lv_aload_n hx hb dX7_removeRight_4 rfl (lv_at hl 0 rfl) ?_
  refine fw_get (id := 0) (k := 1) (v := .ref (adr 12)) X hH (by decide) (fc_0 (by decide)) rfl inX7 (by decide) rfl tw_1_178 dX7_removeRight_5 ?_
  obtain ⟨τ2, g1, hf⟩ := fw_bd hf
  refine fw_cv hH (fw_rV (As := [.ref (adr 12)]) (rest := []) (id := 2) X hH (kX1_draft (by unfold fw_ST fw_PL fw_FL; decide) g1 _) qX1_draft tw_1_200 ⟨Nat.le_of_ble_eq_true rfl, Nat.le_of_ble_eq_true rfl⟩ rfl rfl (by decide) (fc_2 (by decide)) rfl rfl hl.1 rfl (Nat.le_of_ble_eq_true rfl) dX7_removeRight_8) (fun H locs hH => ?_)
  refine lv_aload_n hx hb dX7_removeRight_11 rfl (lv_at hl 0 rfl) ?_
  refine lv_aload_n hx hb dX7_removeRight_12 rfl (lv_at hl 0 rfl) ?_
  refine fw_get (id := 0) (k := 1) (v := .ref (adr 12)) X hH (by decide) (fc_0 (by decide)) rfl inX7 (by decide) rfl tw_1_178 dX7_removeRight_13 ?_
  refine fw_getN (id := 12) (k := 1) (v := .ref (adr 15)) X hH (by decide) (fc_12 (by decide)) rfl inX5 (by decide) rfl nw_1_88 dX7_removeRight_16 ?_
  refine lv_iload_n hx hb dX7_removeRight_19 rfl (lv_at hl 1 rfl) ?_
  obtain ⟨w5, τ4, g3, hf⟩ := fw_b2s hf
  refine fw_ci hH (fw_rV (As := [.int x1]) (rest := [.ref (adr 0)]) (id := 15) X hH (kX2_drop (by unfold fw_PL; decide) g3 _) qX2_drop tw_2_22 ⟨Nat.le_of_ble_eq_true rfl, Nat.le_of_ble_eq_true rfl⟩ rfl rfl (by decide) (fc_13 (by decide)) rfl rfl hl.1 rfl (Nat.le_of_ble_eq_true rfl) dX7_removeRight_20) (fun H locs hH => ?_)
  obtain ⟨w8, τ7, g6, hf⟩ := fw_b2s hf
  refine fw_ci hH (fw_rV (As := [.int w5]) (rest := []) (id := 0) X hH (kX7_settle  g6 _) qX7_settle tw_1_238 ⟨Nat.le_of_ble_eq_true rfl, Nat.le_of_ble_eq_true rfl⟩ rfl rfl (by decide) (fc_0 (by decide)) rfl rfl hl.1 rfl (Nat.le_of_ble_eq_true rfl) dX7_removeRight_23) (fun H locs hH => ?_)
  obtain ⟨rfl, rfl⟩ := fw_s2 hf
  exact fw_reti X hH dX7_removeRight_26
abbrev rmX2_pairAt : Room := { frames := 0, cells := 0, slots := 0, locals := 0 }
theorem qX2_pairAt : fw_QV RX2 yX2_pairAt cX2_pairAt 2 (some .int) 1 := ⟨⟨tw_2_35, tw_2_36, tw_1_4, tw_2_37⟩, by decide +kernel⟩
def pX2_pairAt (h : Nat) (x1 : Int32) (σ : fw_T) : Option (Int32 × fw_T) :=
  if 0 ≤ x1 then
    if (fw_g σ h 2) ≤ x1 then
      some ((-10001 : Int32), σ)
    else
      (fw_rd σ (h + 1) 10 x1).bind fun w1 =>
      some (w1, σ)
  else
    some ((-10002 : Int32), σ)
set_option maxRecDepth 100000 in
set_option maxHeartbeats 4000000 in
theorem kX2_pairAt {h : Nat} (hk : fw_PL h) {x1 : Int32} {r : Int32} {σ σ' : fw_T} (hf : pX2_pairAt h x1 σ = some (r, σ')) : fw_Ci l yX2_pairAt (Cond.code yX2_pairAt cX2_pairAt 2 (some .int) :: lwT) rmX2_pairAt [.ref (adr h), .int x1] D 96 adr (fw_C cI cO adr) (fcT cI cO) nwC σ r σ' := by
  refine fw_start (Qc := (fun A => va_Qi (fun r' (_ : Unit) => r' = r) (fun _ t => va_P D vwCl (fw_ws 96 adr (fw_C cI cO adr σ')) t.heap) A)) (by decide) (by simp [lg_sl, Value.category]) rfl ?_
  intro p e s m below meth c A X hH ls hl
  have hx := X.1.1
  have hb := X.1.2.1
  have hl : lv_has ls 2 [(0, .ref (adr h)), (1, .int x1)] := hl
  unfold pX2_pairAt at hf
  refine lv_iload_n hx hb dX2_pairAt_0 rfl (lv_at hl 1 rfl) ?_
  refine lv_if_ge (tgt := 8) hx hb dX2_pairAt_1 (by decide) (fun hc => ?_) (fun hc => ?_)
  · have hf := fw_pos hc hf
    refine lv_iload_n hx hb dX2_pairAt_8 rfl (lv_at hl 1 rfl) ?_
    refine lv_aload_n hx hb dX2_pairAt_9 rfl (lv_at hl 0 rfl) ?_
    refine fw_get (id := h) (k := 2) (v := .int (fw_g σ h 2)) X hH hk.2.1 (fc_13 hk.1) rfl inX2 (by decide) rfl tw_1_45 dX2_pairAt_10 ?_
    refine lv_icmp_ge (tgt := 25) hx hb dX2_pairAt_13 (by decide) (fun hc => ?_) (fun hc => ?_)
    · have hf := fw_pos hc hf
      refine lv_sipush (v := (-10001 : Int32)) hx hb dX2_pairAt_25 (by decide) ?_
      obtain ⟨rfl, rfl⟩ := fw_s2 hf
      exact fw_reti X hH dX2_pairAt_28
    · have hf := fw_neg hc hf
      refine lv_aload_n hx hb dX2_pairAt_16 rfl (lv_at hl 0 rfl) ?_
      refine fw_get (id := h) (k := 0) (v := .ref (adr (h + 1))) X hH hk.2.1 (fc_13 hk.1) rfl inX2 (by decide) rfl tw_1_43 dX2_pairAt_17 ?_
      refine lv_iload_n hx hb dX2_pairAt_20 rfl (lv_at hl 1 rfl) ?_
      obtain ⟨w1, g2, hf⟩ := fw_bd hf
      refine fw_iald (id := (h + 1)) (n := 10) X hH hk.2.2.2 (fc_14 hk.2.2.1) rfl g2 dX2_pairAt_21 ?_
      refine lv_goto (tgt := 28) hx hb dX2_pairAt_22 (by decide) ?_
      obtain ⟨rfl, rfl⟩ := fw_s2 hf
      exact fw_reti X hH dX2_pairAt_28
  · have hf := fw_neg hc hf
    refine lv_sipush (v := (-10002 : Int32)) hx hb dX2_pairAt_4 (by decide) ?_
    obtain ⟨rfl, rfl⟩ := fw_s2 hf
    exact fw_reti X hH dX2_pairAt_7
abbrev rmX7_leftRow : Room := { frames := 2, cells := 0, slots := 0, locals := 41 }
theorem qX7_leftRow : fw_QV RX7 yX7_leftRow cX7_leftRow 2 (some .int) 1 := ⟨⟨tw_2_31, tw_2_32, tw_1_1, tw_2_33⟩, by decide +kernel⟩
def pX7_leftRow (x1 : Int32) (σ : fw_T) : Option (Int32 × fw_T) :=
  fw_b2 (pX2_pairAt 13 x1 σ) fun w3 τ2 =>
  fw_b2 (pX7_report w3 τ2) fun w6 τ5 =>
  some (w6, τ5)
set_option maxRecDepth 100000 in
set_option maxHeartbeats 4000000 in
theorem kX7_leftRow {x1 : Int32} {r : Int32} {σ σ' : fw_T} (hf : pX7_leftRow x1 σ = some (r, σ')) : fw_Ci l yX7_leftRow (Cond.code yX7_leftRow cX7_leftRow 2 (some .int) :: lwT) rmX7_leftRow [.ref (adr 0), .int x1] D 96 adr (fw_C cI cO adr) (fcT cI cO) nwC σ r σ' := by
  refine fw_start (Qc := (fun A => va_Qi (fun r' (_ : Unit) => r' = r) (fun _ t => va_P D vwCl (fw_ws 96 adr (fw_C cI cO adr σ')) t.heap) A)) (by decide) (by simp [lg_sl, Value.category]) rfl ?_
  intro p e s m below meth c A X hH ls hl
  have hx := X.1.1
  have hb := X.1.2.1
  have hl : lv_has ls 2 [(0, .ref (adr 0)), (1, .int x1)] := hl
  unfold pX7_leftRow at hf
  refine lv_aload_n hx hb dX7_leftRow_0 rfl (lv_at hl 0 rfl) ?_
  refine lv_aload_n hx hb dX7_leftRow_1 rfl (lv_at hl 0 rfl) ?_
  refine fw_get (id := 0) (k := 1) (v := .ref (adr 12)) X hH (by decide) (fc_0 (by decide)) rfl inX7 (by decide) rfl tw_1_178 dX7_leftRow_2 ?_
  refine fw_getN (id := 12) (k := 0) (v := .ref (adr 13)) X hH (by decide) (fc_12 (by decide)) rfl inX5 (by decide) rfl nw_1_85 dX7_leftRow_5 ?_
  refine lv_iload_n hx hb dX7_leftRow_8 rfl (lv_at hl 1 rfl) ?_
  obtain ⟨w3, τ2, g1, hf⟩ := fw_b2s hf
  refine fw_ci hH (fw_rV (As := [.int x1]) (rest := [.ref (adr 0)]) (id := 13) X hH (kX2_pairAt (by unfold fw_PL; decide) g1 _) qX2_pairAt tw_2_34 ⟨Nat.le_of_ble_eq_true rfl, Nat.le_of_ble_eq_true rfl⟩ rfl rfl (by decide) (fc_13 (by decide)) rfl rfl hl.1 rfl (Nat.le_of_ble_eq_true rfl) dX7_leftRow_9) (fun H locs hH => ?_)
  obtain ⟨w6, τ5, g4, hf⟩ := fw_b2s hf
  refine fw_ci hH (fw_rV (As := [.int w3]) (rest := []) (id := 0) X hH (kX7_report  g4 _) qX7_report tw_2_10 ⟨Nat.le_of_ble_eq_true rfl, Nat.le_of_ble_eq_true rfl⟩ rfl rfl (by decide) (fc_0 (by decide)) rfl rfl hl.1 rfl (Nat.le_of_ble_eq_true rfl) dX7_leftRow_12) (fun H locs hH => ?_)
  obtain ⟨rfl, rfl⟩ := fw_s2 hf
  exact fw_reti X hH dX7_leftRow_15
abbrev rmX7_rightRow : Room := { frames := 2, cells := 0, slots := 0, locals := 41 }
theorem qX7_rightRow : fw_QV RX7 yX7_rightRow cX7_rightRow 2 (some .int) 1 := ⟨⟨tw_2_39, tw_2_40, tw_1_1, tw_2_41⟩, by decide +kernel⟩
def pX7_rightRow (x1 : Int32) (σ : fw_T) : Option (Int32 × fw_T) :=
  fw_b2 (pX2_pairAt 15 x1 σ) fun w3 τ2 =>
  fw_b2 (pX7_report w3 τ2) fun w6 τ5 =>
  some (w6, τ5)
set_option maxRecDepth 100000 in
set_option maxHeartbeats 4000000 in
theorem kX7_rightRow {x1 : Int32} {r : Int32} {σ σ' : fw_T} (hf : pX7_rightRow x1 σ = some (r, σ')) : fw_Ci l yX7_rightRow (Cond.code yX7_rightRow cX7_rightRow 2 (some .int) :: lwT) rmX7_rightRow [.ref (adr 0), .int x1] D 96 adr (fw_C cI cO adr) (fcT cI cO) nwC σ r σ' := by
  refine fw_start (Qc := (fun A => va_Qi (fun r' (_ : Unit) => r' = r) (fun _ t => va_P D vwCl (fw_ws 96 adr (fw_C cI cO adr σ')) t.heap) A)) (by decide) (by simp [lg_sl, Value.category]) rfl ?_
  intro p e s m below meth c A X hH ls hl
  have hx := X.1.1
  have hb := X.1.2.1
  have hl : lv_has ls 2 [(0, .ref (adr 0)), (1, .int x1)] := hl
  unfold pX7_rightRow at hf
  refine lv_aload_n hx hb dX7_rightRow_0 rfl (lv_at hl 0 rfl) ?_
  refine lv_aload_n hx hb dX7_rightRow_1 rfl (lv_at hl 0 rfl) ?_
  refine fw_get (id := 0) (k := 1) (v := .ref (adr 12)) X hH (by decide) (fc_0 (by decide)) rfl inX7 (by decide) rfl tw_1_178 dX7_rightRow_2 ?_
  refine fw_getN (id := 12) (k := 1) (v := .ref (adr 15)) X hH (by decide) (fc_12 (by decide)) rfl inX5 (by decide) rfl nw_1_88 dX7_rightRow_5 ?_
  refine lv_iload_n hx hb dX7_rightRow_8 rfl (lv_at hl 1 rfl) ?_
  obtain ⟨w3, τ2, g1, hf⟩ := fw_b2s hf
  refine fw_ci hH (fw_rV (As := [.int x1]) (rest := [.ref (adr 0)]) (id := 15) X hH (kX2_pairAt (by unfold fw_PL; decide) g1 _) qX2_pairAt tw_2_34 ⟨Nat.le_of_ble_eq_true rfl, Nat.le_of_ble_eq_true rfl⟩ rfl rfl (by decide) (fc_13 (by decide)) rfl rfl hl.1 rfl (Nat.le_of_ble_eq_true rfl) dX7_rightRow_9) (fun H locs hH => ?_)
  obtain ⟨w6, τ5, g4, hf⟩ := fw_b2s hf
  refine fw_ci hH (fw_rV (As := [.int w3]) (rest := []) (id := 0) X hH (kX7_report  g4 _) qX7_report tw_2_10 ⟨Nat.le_of_ble_eq_true rfl, Nat.le_of_ble_eq_true rfl⟩ rfl rfl (by decide) (fc_0 (by decide)) rfl rfl hl.1 rfl (Nat.le_of_ble_eq_true rfl) dX7_rightRow_12) (fun H locs hH => ?_)
  obtain ⟨rfl, rfl⟩ := fw_s2 hf
  exact fw_reti X hH dX7_rightRow_15
abbrev rmX0_isColumn : Room := { frames := 0, cells := 0, slots := 0, locals := 0 }
theorem qX0_isColumn : fw_QS yX0_isColumn cX0_isColumn 2 (some .boolean) 2 := ⟨⟨tw_2_51, tw_1_6, tw_2_52⟩, by decide +kernel⟩
def pX0_isColumn (x0 : Int32) (x1 : Int32) (σ : fw_T) : Option (Int32 × fw_T) :=
  if x0 < 0 then
    fw_rz (0 : Int32) σ
  else
    if x0 ≤ (2 : Int32) then
      if x1 < 0 then
        fw_rz (0 : Int32) σ
      else
        if x0 = (2 : Int32) then
          if (2 : Int32) < x1 then
            fw_rz (0 : Int32) σ
          else
            fw_rz (1 : Int32) σ
        else
          if (1 : Int32) < x1 then
            fw_rz (0 : Int32) σ
          else
            fw_rz (1 : Int32) σ
    else
      fw_rz (0 : Int32) σ
set_option maxRecDepth 100000 in
set_option maxHeartbeats 4000000 in
theorem kX0_isColumn {x0 : Int32} {x1 : Int32} {r : Int32} {σ σ' : fw_T} (hf : pX0_isColumn x0 x1 σ = some (r, σ')) : fw_Ci l yX0_isColumn (Cond.code yX0_isColumn cX0_isColumn 2 (some .boolean) :: lwT) rmX0_isColumn [.int x0, .int x1] D 96 adr (fw_C cI cO adr) (fcT cI cO) nwC σ r σ' := by
  refine fw_start (Qc := (fun A => va_Qi (fun r' (_ : Unit) => r' = r) (fun _ t => va_P D vwCl (fw_ws 96 adr (fw_C cI cO adr σ')) t.heap) A)) (by decide) (by simp [lg_sl, Value.category]) rfl ?_
  intro p e s m below meth c A X hH ls hl
  have hx := X.1.1
  have hb := X.1.2.1
  have hl : lv_has ls 2 [(0, .int x0), (1, .int x1)] := hl
  unfold pX0_isColumn at hf
  refine lv_iload_n hx hb dX0_isColumn_0 rfl (lv_at hl 0 rfl) ?_
  refine lv_if_lt (tgt := 9) hx hb dX0_isColumn_1 (by decide) (fun hc => ?_) (fun hc => ?_)
  · have hf := fw_pos hc hf
    refine lv_iconst (v := (0 : Int32)) hx hb dX0_isColumn_9 (by decide) ?_
    obtain ⟨rfl, rfl, hz⟩ := fw_rzs hf
    exact fw_retz X hH hz dX0_isColumn_10
  · have hf := fw_neg hc hf
    refine lv_iload_n hx hb dX0_isColumn_4 rfl (lv_at hl 0 rfl) ?_
    refine lv_iconst (v := (2 : Int32)) hx hb dX0_isColumn_5 (by decide) ?_
    refine lv_icmp_le (tgt := 11) hx hb dX0_isColumn_6 (by decide) (fun hc => ?_) (fun hc => ?_)
    · have hf := fw_pos hc hf
      refine lv_iload_n hx hb dX0_isColumn_11 rfl (lv_at hl 1 rfl) ?_
      refine lv_if_lt (tgt := 33) hx hb dX0_isColumn_12 (by decide) (fun hc => ?_) (fun hc => ?_)
      · have hf := fw_pos hc hf
        refine lv_iconst (v := (0 : Int32)) hx hb dX0_isColumn_33 (by decide) ?_
        obtain ⟨rfl, rfl, hz⟩ := fw_rzs hf
        exact fw_retz X hH hz dX0_isColumn_34
      · have hf := fw_neg hc hf
        refine lv_iload_n hx hb dX0_isColumn_15 rfl (lv_at hl 1 rfl) ?_
        refine lv_iload_n hx hb dX0_isColumn_16 rfl (lv_at hl 0 rfl) ?_
        refine lv_iconst (v := (2 : Int32)) hx hb dX0_isColumn_17 (by decide) ?_
        refine lv_icmp_ne (tgt := 25) hx hb dX0_isColumn_18 (by decide) (fun hc => ?_) (fun hc => ?_)
        · have hf := fw_neg hc hf
          refine lv_iconst (v := (1 : Int32)) hx hb dX0_isColumn_25 (by decide) ?_
          refine lv_icmp_gt (tgt := 33) hx hb dX0_isColumn_26 (by decide) (fun hc => ?_) (fun hc => ?_)
          · have hf := fw_pos hc hf
            refine lv_iconst (v := (0 : Int32)) hx hb dX0_isColumn_33 (by decide) ?_
            obtain ⟨rfl, rfl, hz⟩ := fw_rzs hf
            exact fw_retz X hH hz dX0_isColumn_34
          · have hf := fw_neg hc hf
            refine lv_iconst (v := (1 : Int32)) hx hb dX0_isColumn_29 (by decide) ?_
            refine lv_goto (tgt := 34) hx hb dX0_isColumn_30 (by decide) ?_
            obtain ⟨rfl, rfl, hz⟩ := fw_rzs hf
            exact fw_retz X hH hz dX0_isColumn_34
        · have hf := fw_pos hc hf
          refine lv_iconst (v := (2 : Int32)) hx hb dX0_isColumn_21 (by decide) ?_
          refine lv_goto (tgt := 26) hx hb dX0_isColumn_22 (by decide) ?_
          refine lv_icmp_gt (tgt := 33) hx hb dX0_isColumn_26 (by decide) (fun hc => ?_) (fun hc => ?_)
          · have hf := fw_pos hc hf
            refine lv_iconst (v := (0 : Int32)) hx hb dX0_isColumn_33 (by decide) ?_
            obtain ⟨rfl, rfl, hz⟩ := fw_rzs hf
            exact fw_retz X hH hz dX0_isColumn_34
          · have hf := fw_neg hc hf
            refine lv_iconst (v := (1 : Int32)) hx hb dX0_isColumn_29 (by decide) ?_
            refine lv_goto (tgt := 34) hx hb dX0_isColumn_30 (by decide) ?_
            obtain ⟨rfl, rfl, hz⟩ := fw_rzs hf
            exact fw_retz X hH hz dX0_isColumn_34
    · have hf := fw_neg hc hf
      refine lv_iconst (v := (0 : Int32)) hx hb dX0_isColumn_9 (by decide) ?_
      obtain ⟨rfl, rfl, hz⟩ := fw_rzs hf
      exact fw_retz X hH hz dX0_isColumn_10
abbrev rmX0_isConstant : Room := { frames := 1, cells := 0, slots := 0, locals := 20 }
theorem qX0_isConstant : fw_QS yX0_isConstant cX0_isConstant 2 (some .boolean) 2 := ⟨⟨tw_2_54, tw_1_6, tw_2_55⟩, by decide +kernel⟩
def pX0_isConstant (x0 : Int32) (x1 : Int32) (σ : fw_T) : Option (Int32 × fw_T) :=
  if x0 = (2 : Int32) then
    if x1 < (-9 : Int32) then
      fw_rz (0 : Int32) σ
    else
      if (18 : Int32) < x1 then
        fw_rz (0 : Int32) σ
      else
        fw_rz (1 : Int32) σ
  else
    fw_b2 (pX7_isValue x1 σ) fun w3 τ2 =>
    fw_rz w3 τ2
set_option maxRecDepth 100000 in
set_option maxHeartbeats 4000000 in
theorem kX0_isConstant {x0 : Int32} {x1 : Int32} {r : Int32} {σ σ' : fw_T} (hf : pX0_isConstant x0 x1 σ = some (r, σ')) : fw_Ci l yX0_isConstant (Cond.code yX0_isConstant cX0_isConstant 2 (some .boolean) :: lwT) rmX0_isConstant [.int x0, .int x1] D 96 adr (fw_C cI cO adr) (fcT cI cO) nwC σ r σ' := by
  refine fw_start (Qc := (fun A => va_Qi (fun r' (_ : Unit) => r' = r) (fun _ t => va_P D vwCl (fw_ws 96 adr (fw_C cI cO adr σ')) t.heap) A)) (by decide) (by simp [lg_sl, Value.category]) rfl ?_
  intro p e s m below meth c A X hH ls hl
  have hx := X.1.1
  have hb := X.1.2.1
  have hl : lv_has ls 2 [(0, .int x0), (1, .int x1)] := hl
  unfold pX0_isConstant at hf
  refine lv_iload_n hx hb dX0_isConstant_0 rfl (lv_at hl 0 rfl) ?_
  refine lv_iconst (v := (2 : Int32)) hx hb dX0_isConstant_1 (by decide) ?_
  refine lv_icmp_ne (tgt := 23) hx hb dX0_isConstant_2 (by decide) (fun hc => ?_) (fun hc => ?_)
  · have hf := fw_neg hc hf
    refine lv_iload_n hx hb dX0_isConstant_23 rfl (lv_at hl 1 rfl) ?_
    obtain ⟨w3, τ2, g1, hf⟩ := fw_b2s hf
    refine fw_ci hH (fw_rN (As := [.int x1]) (rest := []) X hH (kX7_isValue  g1 _) qX7_isValue nw_2_56 ⟨Nat.le_of_ble_eq_true rfl, Nat.le_of_ble_eq_true rfl⟩ rfl rfl rfl hl.1 rfl (Nat.le_of_ble_eq_true rfl) dX0_isConstant_24) (fun H locs hH => ?_)
    obtain ⟨rfl, rfl, hz⟩ := fw_rzs hf
    exact fw_retz X hH hz dX0_isConstant_27
  · have hf := fw_pos hc hf
    refine lv_iload_n hx hb dX0_isConstant_5 rfl (lv_at hl 1 rfl) ?_
    refine lv_bipush (v := (-9 : Int32)) hx hb dX0_isConstant_6 (by decide) ?_
    refine lv_icmp_lt (tgt := 21) hx hb dX0_isConstant_8 (by decide) (fun hc => ?_) (fun hc => ?_)
    · have hf := fw_pos hc hf
      refine lv_iconst (v := (0 : Int32)) hx hb dX0_isConstant_21 (by decide) ?_
      obtain ⟨rfl, rfl, hz⟩ := fw_rzs hf
      exact fw_retz X hH hz dX0_isConstant_22
    · have hf := fw_neg hc hf
      refine lv_iload_n hx hb dX0_isConstant_11 rfl (lv_at hl 1 rfl) ?_
      refine lv_bipush (v := (18 : Int32)) hx hb dX0_isConstant_12 (by decide) ?_
      refine lv_icmp_gt (tgt := 21) hx hb dX0_isConstant_14 (by decide) (fun hc => ?_) (fun hc => ?_)
      · have hf := fw_pos hc hf
        refine lv_iconst (v := (0 : Int32)) hx hb dX0_isConstant_21 (by decide) ?_
        obtain ⟨rfl, rfl, hz⟩ := fw_rzs hf
        exact fw_retz X hH hz dX0_isConstant_22
      · have hf := fw_neg hc hf
        refine lv_iconst (v := (1 : Int32)) hx hb dX0_isConstant_17 (by decide) ?_
        refine lv_goto (tgt := 22) hx hb dX0_isConstant_18 (by decide) ?_
        obtain ⟨rfl, rfl, hz⟩ := fw_rzs hf
        exact fw_retz X hH hz dX0_isConstant_22
abbrev rmX0_insert : Room := { frames := 2, cells := 0, slots := 0, locals := 41 }
theorem qX0_insert : fw_QV RX0 yX0_insert cX0_insert 5 (some .int) 4 := ⟨⟨tw_2_47, tw_2_48, tw_1_6, tw_2_49⟩, by decide +kernel⟩
def pX0_insert (h : Nat) (x1 : Int32) (x2 : Int32) (x3 : Int32) (x4 : Int32) (σ : fw_T) : Option (Int32 × fw_T) :=
  fw_b2 (pX0_isColumn x1 x2 σ) fun w3 τ2 =>
  if w3 = 0 then
    some ((-10002 : Int32), τ2)
  else
    if x3 < 0 then
      some ((-10002 : Int32), τ2)
    else
      if (3 : Int32) < x3 then
        some ((-10002 : Int32), τ2)
      else
        fw_b2 (pX0_isConstant x1 x4 τ2) fun w6 τ5 =>
        if w6 = 0 then
          some ((-10002 : Int32), τ5)
        else
          if (fw_g τ5 h 4) < (6 : Int32) then
            (fw_wr τ5 (h + 1) 6 (fw_g τ5 h 4) x1).bind fun τ7 =>
            (fw_wr τ7 (h + 2) 6 (fw_g τ7 h 4) x2).bind fun τ9 =>
            (fw_wr τ9 (h + 3) 6 (fw_g τ9 h 4) x3).bind fun τ11 =>
            (fw_wr τ11 (h + 4) 6 (fw_g τ11 h 4) x4).bind fun τ13 =>
            some (((fw_g (fw_u τ13 h 4 ((fw_g τ13 h 4) + (1 : Int32))) h 4) - (1 : Int32)), (fw_u τ13 h 4 ((fw_g τ13 h 4) + (1 : Int32))))
          else
            some ((-10004 : Int32), τ5)
set_option maxRecDepth 100000 in
set_option maxHeartbeats 4000000 in
theorem kX0_insert {h : Nat} (hk : fw_FL h) {x1 : Int32} {x2 : Int32} {x3 : Int32} {x4 : Int32} {r : Int32} {σ σ' : fw_T} (hf : pX0_insert h x1 x2 x3 x4 σ = some (r, σ')) : fw_Ci l yX0_insert (Cond.code yX0_insert cX0_insert 5 (some .int) :: lwT) rmX0_insert [.ref (adr h), .int x1, .int x2, .int x3, .int x4] D 96 adr (fw_C cI cO adr) (fcT cI cO) nwC σ r σ' := by
  refine fw_start (Qc := (fun A => va_Qi (fun r' (_ : Unit) => r' = r) (fun _ t => va_P D vwCl (fw_ws 96 adr (fw_C cI cO adr σ')) t.heap) A)) (by decide) (by simp [lg_sl, Value.category]) rfl ?_
  intro p e s m below meth c A X hH ls hl
  have hx := X.1.1
  have hb := X.1.2.1
  have hl : lv_has ls 5 [(0, .ref (adr h)), (1, .int x1), (2, .int x2), (3, .int x3), (4, .int x4)] := hl
  unfold pX0_insert at hf
  refine lv_iload_n hx hb dX0_insert_0 rfl (lv_at hl 1 rfl) ?_
  refine lv_iload_n hx hb dX0_insert_1 rfl (lv_at hl 2 rfl) ?_
  obtain ⟨w3, τ2, g1, hf⟩ := fw_b2s hf
  refine fw_ci hH (fw_rS (As := [.int x1, .int x2]) (rest := []) X hH (kX0_isColumn  g1 _) qX0_isColumn tw_2_50 ⟨Nat.le_of_ble_eq_true rfl, Nat.le_of_ble_eq_true rfl⟩ rfl rfl rfl hl.1 rfl (Nat.le_of_ble_eq_true rfl) dX0_insert_2) (fun H locs hH => ?_)
  refine lv_if_eq (tgt := 26) hx hb dX0_insert_5 (by decide) (fun hc => ?_) (fun hc => ?_)
  · have hf := fw_pos hc hf
    refine lv_sipush (v := (-10002 : Int32)) hx hb dX0_insert_26 (by decide) ?_
    obtain ⟨rfl, rfl⟩ := fw_s2 hf
    exact fw_reti X hH dX0_insert_29
  · have hf := fw_neg hc hf
    refine lv_iload_n hx hb dX0_insert_8 rfl (lv_at hl 3 rfl) ?_
    refine lv_if_lt (tgt := 26) hx hb dX0_insert_9 (by decide) (fun hc => ?_) (fun hc => ?_)
    · have hf := fw_pos hc hf
      refine lv_sipush (v := (-10002 : Int32)) hx hb dX0_insert_26 (by decide) ?_
      obtain ⟨rfl, rfl⟩ := fw_s2 hf
      exact fw_reti X hH dX0_insert_29
    · have hf := fw_neg hc hf
      refine lv_iload_n hx hb dX0_insert_12 rfl (lv_at hl 3 rfl) ?_
      refine lv_iconst (v := (3 : Int32)) hx hb dX0_insert_13 (by decide) ?_
      refine lv_icmp_gt (tgt := 26) hx hb dX0_insert_14 (by decide) (fun hc => ?_) (fun hc => ?_)
      · have hf := fw_pos hc hf
        refine lv_sipush (v := (-10002 : Int32)) hx hb dX0_insert_26 (by decide) ?_
        obtain ⟨rfl, rfl⟩ := fw_s2 hf
        exact fw_reti X hH dX0_insert_29
      · have hf := fw_neg hc hf
        refine lv_iload_n hx hb dX0_insert_17 rfl (lv_at hl 1 rfl) ?_
        refine lv_iload hx hb dX0_insert_18 (lv_at hl 4 rfl) ?_
        obtain ⟨w6, τ5, g4, hf⟩ := fw_b2s hf
        refine fw_ci hH (fw_rS (As := [.int x1, .int x4]) (rest := []) X hH (kX0_isConstant  g4 _) qX0_isConstant tw_2_53 ⟨Nat.le_of_ble_eq_true rfl, Nat.le_of_ble_eq_true rfl⟩ rfl rfl rfl hl.1 rfl (Nat.le_of_ble_eq_true rfl) dX0_insert_20) (fun H locs hH => ?_)
        refine lv_if_ne (tgt := 30) hx hb dX0_insert_23 (by decide) (fun hc => ?_) (fun hc => ?_)
        · have hf := fw_neg hc hf
          refine lv_aload_n hx hb dX0_insert_30 rfl (lv_at hl 0 rfl) ?_
          refine fw_get (id := h) (k := 4) (v := .int (fw_g τ5 h 4)) X hH hk.2.1 (fc_15 hk.1) rfl inX0 (by decide) rfl tw_1_70 dX0_insert_31 ?_
          refine lv_bipush (v := (6 : Int32)) hx hb dX0_insert_34 (by decide) ?_
          refine lv_icmp_lt (tgt := 43) hx hb dX0_insert_36 (by decide) (fun hc => ?_) (fun hc => ?_)
          · have hf := fw_pos hc hf
            refine lv_aload_n hx hb dX0_insert_43 rfl (lv_at hl 0 rfl) ?_
            refine fw_get (id := h) (k := 0) (v := .ref (adr (h + 1))) X hH hk.2.1 (fc_15 hk.1) rfl inX0 (by decide) rfl tw_1_62 dX0_insert_44 ?_
            refine lv_aload_n hx hb dX0_insert_47 rfl (lv_at hl 0 rfl) ?_
            refine fw_get (id := h) (k := 4) (v := .int (fw_g τ5 h 4)) X hH hk.2.1 (fc_15 hk.1) rfl inX0 (by decide) rfl tw_1_70 dX0_insert_48 ?_
            refine lv_iload_n hx hb dX0_insert_51 rfl (lv_at hl 1 rfl) ?_
            obtain ⟨τ7, g8, hf⟩ := fw_bd hf
            refine fw_iast (id := (h + 1)) (n := 6) X hH hk.2.2.1.2 (fun σ => fc_16 hk.2.2.1.1) (fun k x j h => fc_ne h) rfl g8 dX0_insert_52 (fun H locs hH => ?_)
            refine lv_aload_n hx hb dX0_insert_53 rfl (lv_at hl 0 rfl) ?_
            refine fw_get (id := h) (k := 1) (v := .ref (adr (h + 2))) X hH hk.2.1 (fc_15 hk.1) rfl inX0 (by decide) rfl tw_1_64 dX0_insert_54 ?_
            refine lv_aload_n hx hb dX0_insert_57 rfl (lv_at hl 0 rfl) ?_
            refine fw_get (id := h) (k := 4) (v := .int (fw_g τ7 h 4)) X hH hk.2.1 (fc_15 hk.1) rfl inX0 (by decide) rfl tw_1_70 dX0_insert_58 ?_
            refine lv_iload_n hx hb dX0_insert_61 rfl (lv_at hl 2 rfl) ?_
            obtain ⟨τ9, g10, hf⟩ := fw_bd hf
            refine fw_iast (id := (h + 2)) (n := 6) X hH hk.2.2.2.1.2 (fun σ => fc_16 hk.2.2.2.1.1) (fun k x j h => fc_ne h) rfl g10 dX0_insert_62 (fun H locs hH => ?_)
            refine lv_aload_n hx hb dX0_insert_63 rfl (lv_at hl 0 rfl) ?_
            refine fw_get (id := h) (k := 2) (v := .ref (adr (h + 3))) X hH hk.2.1 (fc_15 hk.1) rfl inX0 (by decide) rfl tw_1_66 dX0_insert_64 ?_
            refine lv_aload_n hx hb dX0_insert_67 rfl (lv_at hl 0 rfl) ?_
            refine fw_get (id := h) (k := 4) (v := .int (fw_g τ9 h 4)) X hH hk.2.1 (fc_15 hk.1) rfl inX0 (by decide) rfl tw_1_70 dX0_insert_68 ?_
            refine lv_iload_n hx hb dX0_insert_71 rfl (lv_at hl 3 rfl) ?_
            obtain ⟨τ11, g12, hf⟩ := fw_bd hf
            refine fw_iast (id := (h + 3)) (n := 6) X hH hk.2.2.2.2.1.2 (fun σ => fc_16 hk.2.2.2.2.1.1) (fun k x j h => fc_ne h) rfl g12 dX0_insert_72 (fun H locs hH => ?_)
            refine lv_aload_n hx hb dX0_insert_73 rfl (lv_at hl 0 rfl) ?_
            refine fw_get (id := h) (k := 3) (v := .ref (adr (h + 4))) X hH hk.2.1 (fc_15 hk.1) rfl inX0 (by decide) rfl tw_1_68 dX0_insert_74 ?_
            refine lv_aload_n hx hb dX0_insert_77 rfl (lv_at hl 0 rfl) ?_
            refine fw_get (id := h) (k := 4) (v := .int (fw_g τ11 h 4)) X hH hk.2.1 (fc_15 hk.1) rfl inX0 (by decide) rfl tw_1_70 dX0_insert_78 ?_
            refine lv_iload hx hb dX0_insert_81 (lv_at hl 4 rfl) ?_
            obtain ⟨τ13, g14, hf⟩ := fw_bd hf
            refine fw_iast (id := (h + 4)) (n := 6) X hH hk.2.2.2.2.2.2 (fun σ => fc_16 hk.2.2.2.2.2.1) (fun k x j h => fc_ne h) rfl g14 dX0_insert_83 (fun H locs hH => ?_)
            refine lv_aload_n hx hb dX0_insert_84 rfl (lv_at hl 0 rfl) ?_
            refine lv_dup hx hb dX0_insert_85 rfl ?_
            refine fw_get (id := h) (k := 4) (v := .int (fw_g τ13 h 4)) X hH hk.2.1 (fc_15 hk.1) rfl inX0 (by decide) rfl tw_1_70 dX0_insert_86 ?_
            refine lv_iconst (v := (1 : Int32)) hx hb dX0_insert_89 (by decide) ?_
            refine lv_iadd hx hb dX0_insert_90 ?_
            refine fw_put (id := h) (k := 4) (v := .int ((fw_g τ13 h 4) + (1 : Int32))) (ty := .int) (σ' := (fw_u τ13 h 4 ((fw_g τ13 h 4) + (1 : Int32)))) X hH hk.2.1 (fc_15 hk.1) (fp_15_4 hk.1) (fun j h => fc_ne h) rfl inX0 tyX0 tyX0_ok nmX0 (by decide) (Nat.le_of_ble_eq_true rfl) rfl (by decide +kernel) rfl rfl tw_1_70 dX0_insert_91 (fun H locs hH => ?_)
            refine lv_aload_n hx hb dX0_insert_94 rfl (lv_at hl 0 rfl) ?_
            refine fw_get (id := h) (k := 4) (v := .int (fw_g (fw_u τ13 h 4 ((fw_g τ13 h 4) + (1 : Int32))) h 4)) X hH hk.2.1 (fc_15 hk.1) rfl inX0 (by decide) rfl tw_1_70 dX0_insert_95 ?_
            refine lv_iconst (v := (1 : Int32)) hx hb dX0_insert_98 (by decide) ?_
            refine lv_isub hx hb dX0_insert_99 ?_
            obtain ⟨rfl, rfl⟩ := fw_s2 hf
            exact fw_reti X hH dX0_insert_100
          · have hf := fw_neg hc hf
            refine lv_sipush (v := (-10004 : Int32)) hx hb dX0_insert_39 (by decide) ?_
            obtain ⟨rfl, rfl⟩ := fw_s2 hf
            exact fw_reti X hH dX0_insert_42
        · have hf := fw_pos hc hf
          refine lv_sipush (v := (-10002 : Int32)) hx hb dX0_insert_26 (by decide) ?_
          obtain ⟨rfl, rfl⟩ := fw_s2 hf
          exact fw_reti X hH dX0_insert_29
abbrev rmX7_addFilter : Room := { frames := 4, cells := 0, slots := 0, locals := 89 }
theorem qX7_addFilter : fw_QV RX7 yX7_addFilter cX7_addFilter 5 (some .int) 4 := ⟨⟨tw_2_43, tw_2_44, tw_1_1, tw_2_45⟩, by decide +kernel⟩
def pX7_addFilter (x1 : Int32) (x2 : Int32) (x3 : Int32) (x4 : Int32) (σ : fw_T) : Option (Int32 × fw_T) :=
  (pX1_draft 12 σ).bind fun τ2 =>
  fw_b2 (pX0_insert 17 x1 x2 x3 x4 τ2) fun w5 τ4 =>
  fw_b2 (pX7_settle w5 τ4) fun w8 τ7 =>
  some (w8, τ7)
set_option maxRecDepth 100000 in
set_option maxHeartbeats 4000000 in
theorem kX7_addFilter {x1 : Int32} {x2 : Int32} {x3 : Int32} {x4 : Int32} {r : Int32} {σ σ' : fw_T} (hf : pX7_addFilter x1 x2 x3 x4 σ = some (r, σ')) : fw_Ci l yX7_addFilter (Cond.code yX7_addFilter cX7_addFilter 5 (some .int) :: lwT) rmX7_addFilter [.ref (adr 0), .int x1, .int x2, .int x3, .int x4] D 96 adr (fw_C cI cO adr) (fcT cI cO) nwC σ r σ' := by
  refine fw_start (Qc := (fun A => va_Qi (fun r' (_ : Unit) => r' = r) (fun _ t => va_P D vwCl (fw_ws 96 adr (fw_C cI cO adr σ')) t.heap) A)) (by decide) (by simp [lg_sl, Value.category]) rfl ?_
  intro p e s m below meth c A X hH ls hl
  have hx := X.1.1
  have hb := X.1.2.1
  have hl : lv_has ls 5 [(0, .ref (adr 0)), (1, .int x1), (2, .int x2), (3, .int x3), (4, .int x4)] := hl
  unfold pX7_addFilter at hf
  refine lv_aload_n hx hb dX7_addFilter_0 rfl (lv_at hl 0 rfl) ?_
  refine fw_get (id := 0) (k := 2) (v := .ref (adr 2)) X hH (by decide) (fc_0 (by decide)) rfl inX7 (by decide) rfl tw_1_179 dX7_addFilter_1 ?_
  refine lv_aload_n hx hb dX7_addFilter_4 rfl (lv_at hl 0 rfl) ?_
  refine fw_get (id := 0) (k := 1) (v := .ref (adr 12)) X hH (by decide) (fc_0 (by decide)) rfl inX7 (by decide) rfl tw_1_178 dX7_addFilter_5 ?_
  obtain ⟨τ2, g1, hf⟩ := fw_bd hf
  refine fw_cv hH (fw_rV (As := [.ref (adr 12)]) (rest := []) (id := 2) X hH (kX1_draft (by unfold fw_ST fw_PL fw_FL; decide) g1 _) qX1_draft tw_1_200 ⟨Nat.le_of_ble_eq_true rfl, Nat.le_of_ble_eq_true rfl⟩ rfl rfl (by decide) (fc_2 (by decide)) rfl rfl hl.1 rfl (Nat.le_of_ble_eq_true rfl) dX7_addFilter_8) (fun H locs hH => ?_)
  refine lv_aload_n hx hb dX7_addFilter_11 rfl (lv_at hl 0 rfl) ?_
  refine lv_aload_n hx hb dX7_addFilter_12 rfl (lv_at hl 0 rfl) ?_
  refine fw_get (id := 0) (k := 1) (v := .ref (adr 12)) X hH (by decide) (fc_0 (by decide)) rfl inX7 (by decide) rfl tw_1_178 dX7_addFilter_13 ?_
  refine fw_getN (id := 12) (k := 2) (v := .ref (adr 17)) X hH (by decide) (fc_12 (by decide)) rfl inX5 (by decide) rfl nw_1_92 dX7_addFilter_16 ?_
  refine lv_iload_n hx hb dX7_addFilter_19 rfl (lv_at hl 1 rfl) ?_
  refine lv_iload_n hx hb dX7_addFilter_20 rfl (lv_at hl 2 rfl) ?_
  refine lv_iload_n hx hb dX7_addFilter_21 rfl (lv_at hl 3 rfl) ?_
  refine lv_iload hx hb dX7_addFilter_22 (lv_at hl 4 rfl) ?_
  obtain ⟨w5, τ4, g3, hf⟩ := fw_b2s hf
  refine fw_ci hH (fw_rV (As := [.int x1, .int x2, .int x3, .int x4]) (rest := [.ref (adr 0)]) (id := 17) X hH (kX0_insert (by unfold fw_FL; decide) g3 _) qX0_insert tw_2_46 ⟨Nat.le_of_ble_eq_true rfl, Nat.le_of_ble_eq_true rfl⟩ rfl rfl (by decide) (fc_15 (by decide)) rfl rfl hl.1 rfl (Nat.le_of_ble_eq_true rfl) dX7_addFilter_24) (fun H locs hH => ?_)
  obtain ⟨w8, τ7, g6, hf⟩ := fw_b2s hf
  refine fw_ci hH (fw_rV (As := [.int w5]) (rest := []) (id := 0) X hH (kX7_settle  g6 _) qX7_settle tw_1_238 ⟨Nat.le_of_ble_eq_true rfl, Nat.le_of_ble_eq_true rfl⟩ rfl rfl (by decide) (fc_0 (by decide)) rfl rfl hl.1 rfl (Nat.le_of_ble_eq_true rfl) dX7_addFilter_27) (fun H locs hH => ?_)
  obtain ⟨rfl, rfl⟩ := fw_s2 hf
  exact fw_reti X hH dX7_addFilter_30
abbrev rmX0_holds : Room := { frames := 0, cells := 0, slots := 0, locals := 0 }
theorem qX0_holds : fw_QV RX0 yX0_holds cX0_holds 2 (some .boolean) 1 := ⟨⟨tw_2_66, tw_2_67, tw_1_6, tw_2_68⟩, by decide +kernel⟩
def pX0_holds (h : Nat) (x1 : Int32) (σ : fw_T) : Option (Int32 × fw_T) :=
  if x1 < 0 then
    fw_rz (0 : Int32) σ
  else
    if (fw_g σ h 4) ≤ x1 then
      fw_rz (0 : Int32) σ
    else
      if (6 : Int32) ≤ x1 then
        fw_rz (0 : Int32) σ
      else
        fw_rz (1 : Int32) σ
set_option maxRecDepth 100000 in
set_option maxHeartbeats 4000000 in
theorem kX0_holds {h : Nat} (hk : fw_FL h) {x1 : Int32} {r : Int32} {σ σ' : fw_T} (hf : pX0_holds h x1 σ = some (r, σ')) : fw_Ci l yX0_holds (Cond.code yX0_holds cX0_holds 2 (some .boolean) :: lwT) rmX0_holds [.ref (adr h), .int x1] D 96 adr (fw_C cI cO adr) (fcT cI cO) nwC σ r σ' := by
  refine fw_start (Qc := (fun A => va_Qi (fun r' (_ : Unit) => r' = r) (fun _ t => va_P D vwCl (fw_ws 96 adr (fw_C cI cO adr σ')) t.heap) A)) (by decide) (by simp [lg_sl, Value.category]) rfl ?_
  intro p e s m below meth c A X hH ls hl
  have hx := X.1.1
  have hb := X.1.2.1
  have hl : lv_has ls 2 [(0, .ref (adr h)), (1, .int x1)] := hl
  unfold pX0_holds at hf
  refine lv_iload_n hx hb dX0_holds_0 rfl (lv_at hl 1 rfl) ?_
  refine lv_if_lt (tgt := 22) hx hb dX0_holds_1 (by decide) (fun hc => ?_) (fun hc => ?_)
  · have hf := fw_pos hc hf
    refine lv_iconst (v := (0 : Int32)) hx hb dX0_holds_22 (by decide) ?_
    obtain ⟨rfl, rfl, hz⟩ := fw_rzs hf
    exact fw_retz X hH hz dX0_holds_23
  · have hf := fw_neg hc hf
    refine lv_iload_n hx hb dX0_holds_4 rfl (lv_at hl 1 rfl) ?_
    refine lv_aload_n hx hb dX0_holds_5 rfl (lv_at hl 0 rfl) ?_
    refine fw_get (id := h) (k := 4) (v := .int (fw_g σ h 4)) X hH hk.2.1 (fc_15 hk.1) rfl inX0 (by decide) rfl tw_1_70 dX0_holds_6 ?_
    refine lv_icmp_ge (tgt := 22) hx hb dX0_holds_9 (by decide) (fun hc => ?_) (fun hc => ?_)
    · have hf := fw_pos hc hf
      refine lv_iconst (v := (0 : Int32)) hx hb dX0_holds_22 (by decide) ?_
      obtain ⟨rfl, rfl, hz⟩ := fw_rzs hf
      exact fw_retz X hH hz dX0_holds_23
    · have hf := fw_neg hc hf
      refine lv_iload_n hx hb dX0_holds_12 rfl (lv_at hl 1 rfl) ?_
      refine lv_bipush (v := (6 : Int32)) hx hb dX0_holds_13 (by decide) ?_
      refine lv_icmp_ge (tgt := 22) hx hb dX0_holds_15 (by decide) (fun hc => ?_) (fun hc => ?_)
      · have hf := fw_pos hc hf
        refine lv_iconst (v := (0 : Int32)) hx hb dX0_holds_22 (by decide) ?_
        obtain ⟨rfl, rfl, hz⟩ := fw_rzs hf
        exact fw_retz X hH hz dX0_holds_23
      · have hf := fw_neg hc hf
        refine lv_iconst (v := (1 : Int32)) hx hb dX0_holds_18 (by decide) ?_
        refine lv_goto (tgt := 23) hx hb dX0_holds_19 (by decide) ?_
        obtain ⟨rfl, rfl, hz⟩ := fw_rzs hf
        exact fw_retz X hH hz dX0_holds_23
abbrev rmX0_drop : Room := { frames := 1, cells := 0, slots := 0, locals := 21 }
theorem qX0_drop : fw_QV RX0 yX0_drop cX0_drop 3 (some .int) 1 := ⟨⟨tw_2_62, tw_2_63, tw_1_6, tw_2_64⟩, by decide +kernel⟩
def pX0_drop_24 (h : Nat) : Nat → Int32 → fw_T → Option (Int32 × fw_T)
  | 0, _, _ => none
  | n + 1, x2, σ =>
    if (fw_g σ h 4) ≤ x2 then
      some ((fw_g σ h 4), σ)
    else
      (fw_rd σ (h + 1) 6 (x2 + (1 : Int32))).bind fun w4 =>
      (fw_wr σ (h + 1) 6 x2 w4).bind fun τ6 =>
      (fw_rd τ6 (h + 2) 6 (x2 + (1 : Int32))).bind fun w8 =>
      (fw_wr τ6 (h + 2) 6 x2 w8).bind fun τ10 =>
      (fw_rd τ10 (h + 3) 6 (x2 + (1 : Int32))).bind fun w12 =>
      (fw_wr τ10 (h + 3) 6 x2 w12).bind fun τ14 =>
      (fw_rd τ14 (h + 4) 6 (x2 + (1 : Int32))).bind fun w16 =>
      (fw_wr τ14 (h + 4) 6 x2 w16).bind fun τ18 =>
      pX0_drop_24 h n (x2 + (1 : Int32)) τ18
set_option maxRecDepth 100000 in
set_option maxHeartbeats 4000000 in
theorem wX0_drop_24 {h : Nat} (hk : fw_FL h) {args : Array Value} {r : Int32} {σ' : fw_T} (X : fcX p m c cX0_drop 3 s args RX0 meth (some .int) D cI cO)  : ∀ (n : Nat), ∀ (x2 : Int32), ∀ (σ : fw_T), pX0_drop_24 h n x2 σ = some (r, σ') → ∀ (H : Heap) (locs : List Loc) (ls : Array Slot), fcH D cI cO adr A s H locs σ → lv_has ls 3 [(0, .ref (adr h)), (2, .int x2)] → W p l e rmX0_drop s m args below meth c H locs 0 0 (fw_Qi D 96 adr (fw_C cI cO adr) A below args s r σ') (F0 m 24 ls []) := by
  have hx := X.1.1
  have hb := X.1.2.1
  intro n
  induction n with
  | zero =>
    intro x2 σ hf
    exact absurd hf (by simp [pX0_drop_24])
  | succ n ih =>
    intro x2 σ hf H locs ls hH hl
    rw [pX0_drop_24] at hf
    refine lv_iload_n hx hb dX0_drop_24 rfl (lv_at hl 1 rfl) ?_
    refine lv_aload_n hx hb dX0_drop_25 rfl (lv_at hl 0 rfl) ?_
    refine fw_get (id := h) (k := 4) (v := .int (fw_g σ h 4)) X hH hk.2.1 (fc_15 hk.1) rfl inX0 (by decide) rfl tw_1_70 dX0_drop_26 ?_
    refine lv_icmp_ge (tgt := 94) hx hb dX0_drop_29 (by decide) (fun hc => ?_) (fun hc => ?_)
    · have hf := fw_pos hc hf
      refine lv_aload_n hx hb dX0_drop_94 rfl (lv_at hl 0 rfl) ?_
      refine fw_get (id := h) (k := 4) (v := .int (fw_g σ h 4)) X hH hk.2.1 (fc_15 hk.1) rfl inX0 (by decide) rfl tw_1_70 dX0_drop_95 ?_
      obtain ⟨rfl, rfl⟩ := fw_s2 hf
      exact fw_reti X hH dX0_drop_98
    · have hf := fw_neg hc hf
      refine lv_aload_n hx hb dX0_drop_32 rfl (lv_at hl 0 rfl) ?_
      refine fw_get (id := h) (k := 0) (v := .ref (adr (h + 1))) X hH hk.2.1 (fc_15 hk.1) rfl inX0 (by decide) rfl tw_1_62 dX0_drop_33 ?_
      refine lv_iload_n hx hb dX0_drop_36 rfl (lv_at hl 1 rfl) ?_
      refine lv_aload_n hx hb dX0_drop_37 rfl (lv_at hl 0 rfl) ?_
      refine fw_get (id := h) (k := 0) (v := .ref (adr (h + 1))) X hH hk.2.1 (fc_15 hk.1) rfl inX0 (by decide) rfl tw_1_62 dX0_drop_38 ?_
      refine lv_iload_n hx hb dX0_drop_41 rfl (lv_at hl 1 rfl) ?_
      refine lv_iconst (v := (1 : Int32)) hx hb dX0_drop_42 (by decide) ?_
      refine lv_iadd hx hb dX0_drop_43 ?_
      obtain ⟨w4, g5, hf⟩ := fw_bd hf
      refine fw_iald (id := (h + 1)) (n := 6) X hH hk.2.2.1.2 (fc_16 hk.2.2.1.1) rfl g5 dX0_drop_44 ?_
      obtain ⟨τ6, g7, hf⟩ := fw_bd hf
      refine fw_iast (id := (h + 1)) (n := 6) X hH hk.2.2.1.2 (fun σ => fc_16 hk.2.2.1.1) (fun k x j h => fc_ne h) rfl g7 dX0_drop_45 (fun H locs hH => ?_)
      refine lv_aload_n hx hb dX0_drop_46 rfl (lv_at hl 0 rfl) ?_
      refine fw_get (id := h) (k := 1) (v := .ref (adr (h + 2))) X hH hk.2.1 (fc_15 hk.1) rfl inX0 (by decide) rfl tw_1_64 dX0_drop_47 ?_
      refine lv_iload_n hx hb dX0_drop_50 rfl (lv_at hl 1 rfl) ?_
      refine lv_aload_n hx hb dX0_drop_51 rfl (lv_at hl 0 rfl) ?_
      refine fw_get (id := h) (k := 1) (v := .ref (adr (h + 2))) X hH hk.2.1 (fc_15 hk.1) rfl inX0 (by decide) rfl tw_1_64 dX0_drop_52 ?_
      refine lv_iload_n hx hb dX0_drop_55 rfl (lv_at hl 1 rfl) ?_
      refine lv_iconst (v := (1 : Int32)) hx hb dX0_drop_56 (by decide) ?_
      refine lv_iadd hx hb dX0_drop_57 ?_
      obtain ⟨w8, g9, hf⟩ := fw_bd hf
      refine fw_iald (id := (h + 2)) (n := 6) X hH hk.2.2.2.1.2 (fc_16 hk.2.2.2.1.1) rfl g9 dX0_drop_58 ?_
      obtain ⟨τ10, g11, hf⟩ := fw_bd hf
      refine fw_iast (id := (h + 2)) (n := 6) X hH hk.2.2.2.1.2 (fun σ => fc_16 hk.2.2.2.1.1) (fun k x j h => fc_ne h) rfl g11 dX0_drop_59 (fun H locs hH => ?_)
      refine lv_aload_n hx hb dX0_drop_60 rfl (lv_at hl 0 rfl) ?_
      refine fw_get (id := h) (k := 2) (v := .ref (adr (h + 3))) X hH hk.2.1 (fc_15 hk.1) rfl inX0 (by decide) rfl tw_1_66 dX0_drop_61 ?_
      refine lv_iload_n hx hb dX0_drop_64 rfl (lv_at hl 1 rfl) ?_
      refine lv_aload_n hx hb dX0_drop_65 rfl (lv_at hl 0 rfl) ?_
      refine fw_get (id := h) (k := 2) (v := .ref (adr (h + 3))) X hH hk.2.1 (fc_15 hk.1) rfl inX0 (by decide) rfl tw_1_66 dX0_drop_66 ?_
      refine lv_iload_n hx hb dX0_drop_69 rfl (lv_at hl 1 rfl) ?_
      refine lv_iconst (v := (1 : Int32)) hx hb dX0_drop_70 (by decide) ?_
      refine lv_iadd hx hb dX0_drop_71 ?_
      obtain ⟨w12, g13, hf⟩ := fw_bd hf
      refine fw_iald (id := (h + 3)) (n := 6) X hH hk.2.2.2.2.1.2 (fc_16 hk.2.2.2.2.1.1) rfl g13 dX0_drop_72 ?_
      obtain ⟨τ14, g15, hf⟩ := fw_bd hf
      refine fw_iast (id := (h + 3)) (n := 6) X hH hk.2.2.2.2.1.2 (fun σ => fc_16 hk.2.2.2.2.1.1) (fun k x j h => fc_ne h) rfl g15 dX0_drop_73 (fun H locs hH => ?_)
      refine lv_aload_n hx hb dX0_drop_74 rfl (lv_at hl 0 rfl) ?_
      refine fw_get (id := h) (k := 3) (v := .ref (adr (h + 4))) X hH hk.2.1 (fc_15 hk.1) rfl inX0 (by decide) rfl tw_1_68 dX0_drop_75 ?_
      refine lv_iload_n hx hb dX0_drop_78 rfl (lv_at hl 1 rfl) ?_
      refine lv_aload_n hx hb dX0_drop_79 rfl (lv_at hl 0 rfl) ?_
      refine fw_get (id := h) (k := 3) (v := .ref (adr (h + 4))) X hH hk.2.1 (fc_15 hk.1) rfl inX0 (by decide) rfl tw_1_68 dX0_drop_80 ?_
      refine lv_iload_n hx hb dX0_drop_83 rfl (lv_at hl 1 rfl) ?_
      refine lv_iconst (v := (1 : Int32)) hx hb dX0_drop_84 (by decide) ?_
      refine lv_iadd hx hb dX0_drop_85 ?_
      obtain ⟨w16, g17, hf⟩ := fw_bd hf
      refine fw_iald (id := (h + 4)) (n := 6) X hH hk.2.2.2.2.2.2 (fc_16 hk.2.2.2.2.2.1) rfl g17 dX0_drop_86 ?_
      obtain ⟨τ18, g19, hf⟩ := fw_bd hf
      refine fw_iast (id := (h + 4)) (n := 6) X hH hk.2.2.2.2.2.2 (fun σ => fc_16 hk.2.2.2.2.2.1) (fun k x j h => fc_ne h) rfl g19 dX0_drop_87 (fun H locs hH => ?_)
      refine lv_iinc (v := (x2 + (1 : Int32))) (lv' := [(2, .int (x2 + (1 : Int32))), (0, .ref (adr h))]) hx hb dX0_drop_88 hl (k := 1) rfl rfl (by decide) rfl (fun ls hl => ?_)
      refine lv_goto (tgt := 24) hx hb dX0_drop_91 (by decide) ?_
      exact ih (x2 + (1 : Int32)) τ18 hf _ _ _ hH (lv_sub hl [1, 0] rfl)
def pX0_drop (h : Nat) (x1 : Int32) (σ : fw_T) : Option (Int32 × fw_T) :=
  fw_b2 (pX0_holds h x1 σ) fun w3 τ2 =>
  if w3 = 0 then
    some ((-10002 : Int32), τ2)
  else
    pX0_drop_24 h 400 x1 (fw_u τ2 h 4 ((fw_g τ2 h 4) - (1 : Int32)))
set_option maxRecDepth 100000 in
set_option maxHeartbeats 4000000 in
theorem kX0_drop {h : Nat} (hk : fw_FL h) {x1 : Int32} {r : Int32} {σ σ' : fw_T} (hf : pX0_drop h x1 σ = some (r, σ')) : fw_Ci l yX0_drop (Cond.code yX0_drop cX0_drop 3 (some .int) :: lwT) rmX0_drop [.ref (adr h), .int x1] D 96 adr (fw_C cI cO adr) (fcT cI cO) nwC σ r σ' := by
  refine fw_start (Qc := (fun A => va_Qi (fun r' (_ : Unit) => r' = r) (fun _ t => va_P D vwCl (fw_ws 96 adr (fw_C cI cO adr σ')) t.heap) A)) (by decide) (by simp [lg_sl, Value.category]) rfl ?_
  intro p e s m below meth c A X hH ls hl
  have hx := X.1.1
  have hb := X.1.2.1
  have hl : lv_has ls 3 [(0, .ref (adr h)), (1, .int x1)] := hl
  unfold pX0_drop at hf
  refine lv_aload_n hx hb dX0_drop_0 rfl (lv_at hl 0 rfl) ?_
  refine lv_iload_n hx hb dX0_drop_1 rfl (lv_at hl 1 rfl) ?_
  obtain ⟨w3, τ2, g1, hf⟩ := fw_b2s hf
  refine fw_ci hH (fw_rV (As := [.int x1]) (rest := []) (id := h) X hH (kX0_holds hk g1 _) qX0_holds tw_2_65 ⟨Nat.le_of_ble_eq_true rfl, Nat.le_of_ble_eq_true rfl⟩ rfl rfl hk.2.1 (fc_15 hk.1) rfl rfl hl.1 rfl (Nat.le_of_ble_eq_true rfl) dX0_drop_2) (fun H locs hH => ?_)
  refine lv_if_ne (tgt := 12) hx hb dX0_drop_5 (by decide) (fun hc => ?_) (fun hc => ?_)
  · have hf := fw_neg hc hf
    refine lv_aload_n hx hb dX0_drop_12 rfl (lv_at hl 0 rfl) ?_
    refine lv_dup hx hb dX0_drop_13 rfl ?_
    refine fw_get (id := h) (k := 4) (v := .int (fw_g τ2 h 4)) X hH hk.2.1 (fc_15 hk.1) rfl inX0 (by decide) rfl tw_1_70 dX0_drop_14 ?_
    refine lv_iconst (v := (1 : Int32)) hx hb dX0_drop_17 (by decide) ?_
    refine lv_isub hx hb dX0_drop_18 ?_
    refine fw_put (id := h) (k := 4) (v := .int ((fw_g τ2 h 4) - (1 : Int32))) (ty := .int) (σ' := (fw_u τ2 h 4 ((fw_g τ2 h 4) - (1 : Int32)))) X hH hk.2.1 (fc_15 hk.1) (fp_15_4 hk.1) (fun j h => fc_ne h) rfl inX0 tyX0 tyX0_ok nmX0 (by decide) (Nat.le_of_ble_eq_true rfl) rfl (by decide +kernel) rfl rfl tw_1_70 dX0_drop_19 (fun H locs hH => ?_)
    refine lv_iload_n hx hb dX0_drop_22 rfl (lv_at hl 1 rfl) ?_
    refine lv_istore_n (lv' := [(2, .int x1), (0, .ref (adr h)), (1, .int x1)]) hx hb dX0_drop_23 rfl hl (by decide) rfl (fun ls hl => ?_)
    exact wX0_drop_24 hk X 400 x1 (fw_u τ2 h 4 ((fw_g τ2 h 4) - (1 : Int32))) hf _ _ _ hH (lv_sub hl [1, 0] rfl)
  · have hf := fw_pos hc hf
    refine lv_sipush (v := (-10002 : Int32)) hx hb dX0_drop_8 (by decide) ?_
    obtain ⟨rfl, rfl⟩ := fw_s2 hf
    exact fw_reti X hH dX0_drop_11
abbrev rmX7_removeFilter : Room := { frames := 4, cells := 0, slots := 0, locals := 89 }
theorem qX7_removeFilter : fw_QV RX7 yX7_removeFilter cX7_removeFilter 2 (some .int) 1 := ⟨⟨tw_2_58, tw_2_59, tw_1_1, tw_2_60⟩, by decide +kernel⟩
def pX7_removeFilter (x1 : Int32) (σ : fw_T) : Option (Int32 × fw_T) :=
  (pX1_draft 12 σ).bind fun τ2 =>
  fw_b2 (pX0_drop 17 x1 τ2) fun w5 τ4 =>
  fw_b2 (pX7_settle w5 τ4) fun w8 τ7 =>
  some (w8, τ7)
set_option maxRecDepth 100000 in
set_option maxHeartbeats 4000000 in
theorem kX7_removeFilter {x1 : Int32} {r : Int32} {σ σ' : fw_T} (hf : pX7_removeFilter x1 σ = some (r, σ')) : fw_Ci l yX7_removeFilter (Cond.code yX7_removeFilter cX7_removeFilter 2 (some .int) :: lwT) rmX7_removeFilter [.ref (adr 0), .int x1] D 96 adr (fw_C cI cO adr) (fcT cI cO) nwC σ r σ' := by
  refine fw_start (Qc := (fun A => va_Qi (fun r' (_ : Unit) => r' = r) (fun _ t => va_P D vwCl (fw_ws 96 adr (fw_C cI cO adr σ')) t.heap) A)) (by decide) (by simp [lg_sl, Value.category]) rfl ?_
  intro p e s m below meth c A X hH ls hl
  have hx := X.1.1
  have hb := X.1.2.1
  have hl : lv_has ls 2 [(0, .ref (adr 0)), (1, .int x1)] := hl
  unfold pX7_removeFilter at hf
  refine lv_aload_n hx hb dX7_removeFilter_0 rfl (lv_at hl 0 rfl) ?_
  refine fw_get (id := 0) (k := 2) (v := .ref (adr 2)) X hH (by decide) (fc_0 (by decide)) rfl inX7 (by decide) rfl tw_1_179 dX7_removeFilter_1 ?_
  refine lv_aload_n hx hb dX7_removeFilter_4 rfl (lv_at hl 0 rfl) ?_
  refine fw_get (id := 0) (k := 1) (v := .ref (adr 12)) X hH (by decide) (fc_0 (by decide)) rfl inX7 (by decide) rfl tw_1_178 dX7_removeFilter_5 ?_
  obtain ⟨τ2, g1, hf⟩ := fw_bd hf
  refine fw_cv hH (fw_rV (As := [.ref (adr 12)]) (rest := []) (id := 2) X hH (kX1_draft (by unfold fw_ST fw_PL fw_FL; decide) g1 _) qX1_draft tw_1_200 ⟨Nat.le_of_ble_eq_true rfl, Nat.le_of_ble_eq_true rfl⟩ rfl rfl (by decide) (fc_2 (by decide)) rfl rfl hl.1 rfl (Nat.le_of_ble_eq_true rfl) dX7_removeFilter_8) (fun H locs hH => ?_)
  refine lv_aload_n hx hb dX7_removeFilter_11 rfl (lv_at hl 0 rfl) ?_
  refine lv_aload_n hx hb dX7_removeFilter_12 rfl (lv_at hl 0 rfl) ?_
  refine fw_get (id := 0) (k := 1) (v := .ref (adr 12)) X hH (by decide) (fc_0 (by decide)) rfl inX7 (by decide) rfl tw_1_178 dX7_removeFilter_13 ?_
  refine fw_getN (id := 12) (k := 2) (v := .ref (adr 17)) X hH (by decide) (fc_12 (by decide)) rfl inX5 (by decide) rfl nw_1_92 dX7_removeFilter_16 ?_
  refine lv_iload_n hx hb dX7_removeFilter_19 rfl (lv_at hl 1 rfl) ?_
  obtain ⟨w5, τ4, g3, hf⟩ := fw_b2s hf
  refine fw_ci hH (fw_rV (As := [.int x1]) (rest := [.ref (adr 0)]) (id := 17) X hH (kX0_drop (by unfold fw_FL; decide) g3 _) qX0_drop tw_2_61 ⟨Nat.le_of_ble_eq_true rfl, Nat.le_of_ble_eq_true rfl⟩ rfl rfl (by decide) (fc_15 (by decide)) rfl rfl hl.1 rfl (Nat.le_of_ble_eq_true rfl) dX7_removeFilter_20) (fun H locs hH => ?_)
  obtain ⟨w8, τ7, g6, hf⟩ := fw_b2s hf
  refine fw_ci hH (fw_rV (As := [.int w5]) (rest := []) (id := 0) X hH (kX7_settle  g6 _) qX7_settle tw_1_238 ⟨Nat.le_of_ble_eq_true rfl, Nat.le_of_ble_eq_true rfl⟩ rfl rfl (by decide) (fc_0 (by decide)) rfl rfl hl.1 rfl (Nat.le_of_ble_eq_true rfl) dX7_removeFilter_23) (fun H locs hH => ?_)
  obtain ⟨rfl, rfl⟩ := fw_s2 hf
  exact fw_reti X hH dX7_removeFilter_26
abbrev rmX0_replaceConstant : Room := { frames := 2, cells := 0, slots := 0, locals := 41 }
theorem qX0_replaceConstant : fw_QV RX0 yX0_replaceConstant cX0_replaceConstant 4 (some .int) 2 := ⟨⟨tw_2_74, tw_2_75, tw_1_6, tw_2_76⟩, by decide +kernel⟩
def pX0_replaceConstant (h : Nat) (x1 : Int32) (x2 : Int32) (σ : fw_T) : Option (Int32 × fw_T) :=
  fw_b2 (pX0_holds h x1 σ) fun w3 τ2 =>
  if w3 = 0 then
    some ((-10002 : Int32), τ2)
  else
    (fw_rd τ2 (h + 1) 6 x1).bind fun w4 =>
    fw_b2 (pX0_isConstant w4 x2 τ2) fun w8 τ7 =>
    if w8 = 0 then
      some ((-10002 : Int32), τ7)
    else
      (fw_rd τ7 (h + 4) 6 x1).bind fun w9 =>
      (fw_wr τ7 (h + 4) 6 x1 x2).bind fun τ11 =>
      some (w9, τ11)
set_option maxRecDepth 100000 in
set_option maxHeartbeats 4000000 in
theorem kX0_replaceConstant {h : Nat} (hk : fw_FL h) {x1 : Int32} {x2 : Int32} {r : Int32} {σ σ' : fw_T} (hf : pX0_replaceConstant h x1 x2 σ = some (r, σ')) : fw_Ci l yX0_replaceConstant (Cond.code yX0_replaceConstant cX0_replaceConstant 4 (some .int) :: lwT) rmX0_replaceConstant [.ref (adr h), .int x1, .int x2] D 96 adr (fw_C cI cO adr) (fcT cI cO) nwC σ r σ' := by
  refine fw_start (Qc := (fun A => va_Qi (fun r' (_ : Unit) => r' = r) (fun _ t => va_P D vwCl (fw_ws 96 adr (fw_C cI cO adr σ')) t.heap) A)) (by decide) (by simp [lg_sl, Value.category]) rfl ?_
  intro p e s m below meth c A X hH ls hl
  have hx := X.1.1
  have hb := X.1.2.1
  have hl : lv_has ls 4 [(0, .ref (adr h)), (1, .int x1), (2, .int x2)] := hl
  unfold pX0_replaceConstant at hf
  refine lv_aload_n hx hb dX0_replaceConstant_0 rfl (lv_at hl 0 rfl) ?_
  refine lv_iload_n hx hb dX0_replaceConstant_1 rfl (lv_at hl 1 rfl) ?_
  obtain ⟨w3, τ2, g1, hf⟩ := fw_b2s hf
  refine fw_ci hH (fw_rV (As := [.int x1]) (rest := []) (id := h) X hH (kX0_holds hk g1 _) qX0_holds tw_2_65 ⟨Nat.le_of_ble_eq_true rfl, Nat.le_of_ble_eq_true rfl⟩ rfl rfl hk.2.1 (fc_15 hk.1) rfl rfl hl.1 rfl (Nat.le_of_ble_eq_true rfl) dX0_replaceConstant_2) (fun H locs hH => ?_)
  refine lv_if_eq (tgt := 21) hx hb dX0_replaceConstant_5 (by decide) (fun hc => ?_) (fun hc => ?_)
  · have hf := fw_pos hc hf
    refine lv_sipush (v := (-10002 : Int32)) hx hb dX0_replaceConstant_21 (by decide) ?_
    obtain ⟨rfl, rfl⟩ := fw_s2 hf
    exact fw_reti X hH dX0_replaceConstant_24
  · have hf := fw_neg hc hf
    refine lv_aload_n hx hb dX0_replaceConstant_8 rfl (lv_at hl 0 rfl) ?_
    refine fw_get (id := h) (k := 0) (v := .ref (adr (h + 1))) X hH hk.2.1 (fc_15 hk.1) rfl inX0 (by decide) rfl tw_1_62 dX0_replaceConstant_9 ?_
    refine lv_iload_n hx hb dX0_replaceConstant_12 rfl (lv_at hl 1 rfl) ?_
    obtain ⟨w4, g5, hf⟩ := fw_bd hf
    refine fw_iald (id := (h + 1)) (n := 6) X hH hk.2.2.1.2 (fc_16 hk.2.2.1.1) rfl g5 dX0_replaceConstant_13 ?_
    refine lv_iload_n hx hb dX0_replaceConstant_14 rfl (lv_at hl 2 rfl) ?_
    obtain ⟨w8, τ7, g6, hf⟩ := fw_b2s hf
    refine fw_ci hH (fw_rS (As := [.int w4, .int x2]) (rest := []) X hH (kX0_isConstant  g6 _) qX0_isConstant tw_2_53 ⟨Nat.le_of_ble_eq_true rfl, Nat.le_of_ble_eq_true rfl⟩ rfl rfl rfl hl.1 rfl (Nat.le_of_ble_eq_true rfl) dX0_replaceConstant_15) (fun H locs hH => ?_)
    refine lv_if_ne (tgt := 25) hx hb dX0_replaceConstant_18 (by decide) (fun hc => ?_) (fun hc => ?_)
    · have hf := fw_neg hc hf
      refine lv_aload_n hx hb dX0_replaceConstant_25 rfl (lv_at hl 0 rfl) ?_
      refine fw_get (id := h) (k := 3) (v := .ref (adr (h + 4))) X hH hk.2.1 (fc_15 hk.1) rfl inX0 (by decide) rfl tw_1_68 dX0_replaceConstant_26 ?_
      refine lv_iload_n hx hb dX0_replaceConstant_29 rfl (lv_at hl 1 rfl) ?_
      obtain ⟨w9, g10, hf⟩ := fw_bd hf
      refine fw_iald (id := (h + 4)) (n := 6) X hH hk.2.2.2.2.2.2 (fc_16 hk.2.2.2.2.2.1) rfl g10 dX0_replaceConstant_30 ?_
      refine lv_istore_n (lv' := [(3, .int w9), (0, .ref (adr h)), (1, .int x1), (2, .int x2)]) hx hb dX0_replaceConstant_31 rfl hl (by decide) rfl (fun ls hl => ?_)
      refine lv_aload_n hx hb dX0_replaceConstant_32 rfl (lv_at hl 1 rfl) ?_
      refine fw_get (id := h) (k := 3) (v := .ref (adr (h + 4))) X hH hk.2.1 (fc_15 hk.1) rfl inX0 (by decide) rfl tw_1_68 dX0_replaceConstant_33 ?_
      refine lv_iload_n hx hb dX0_replaceConstant_36 rfl (lv_at hl 2 rfl) ?_
      refine lv_iload_n hx hb dX0_replaceConstant_37 rfl (lv_at hl 3 rfl) ?_
      obtain ⟨τ11, g12, hf⟩ := fw_bd hf
      refine fw_iast (id := (h + 4)) (n := 6) X hH hk.2.2.2.2.2.2 (fun σ => fc_16 hk.2.2.2.2.2.1) (fun k x j h => fc_ne h) rfl g12 dX0_replaceConstant_38 (fun H locs hH => ?_)
      refine lv_iload_n hx hb dX0_replaceConstant_39 rfl (lv_at hl 0 rfl) ?_
      obtain ⟨rfl, rfl⟩ := fw_s2 hf
      exact fw_reti X hH dX0_replaceConstant_40
    · have hf := fw_pos hc hf
      refine lv_sipush (v := (-10002 : Int32)) hx hb dX0_replaceConstant_21 (by decide) ?_
      obtain ⟨rfl, rfl⟩ := fw_s2 hf
      exact fw_reti X hH dX0_replaceConstant_24
abbrev rmX7_setConstant : Room := { frames := 4, cells := 0, slots := 0, locals := 89 }
theorem qX7_setConstant : fw_QV RX7 yX7_setConstant cX7_setConstant 3 (some .int) 2 := ⟨⟨tw_2_70, tw_2_71, tw_1_1, tw_2_72⟩, by decide +kernel⟩
def pX7_setConstant (x1 : Int32) (x2 : Int32) (σ : fw_T) : Option (Int32 × fw_T) :=
  (pX1_draft 12 σ).bind fun τ2 =>
  fw_b2 (pX0_replaceConstant 17 x1 x2 τ2) fun w5 τ4 =>
  fw_b2 (pX7_settle w5 τ4) fun w8 τ7 =>
  some (w8, τ7)
set_option maxRecDepth 100000 in
set_option maxHeartbeats 4000000 in
theorem kX7_setConstant {x1 : Int32} {x2 : Int32} {r : Int32} {σ σ' : fw_T} (hf : pX7_setConstant x1 x2 σ = some (r, σ')) : fw_Ci l yX7_setConstant (Cond.code yX7_setConstant cX7_setConstant 3 (some .int) :: lwT) rmX7_setConstant [.ref (adr 0), .int x1, .int x2] D 96 adr (fw_C cI cO adr) (fcT cI cO) nwC σ r σ' := by
  refine fw_start (Qc := (fun A => va_Qi (fun r' (_ : Unit) => r' = r) (fun _ t => va_P D vwCl (fw_ws 96 adr (fw_C cI cO adr σ')) t.heap) A)) (by decide) (by simp [lg_sl, Value.category]) rfl ?_
  intro p e s m below meth c A X hH ls hl
  have hx := X.1.1
  have hb := X.1.2.1
  have hl : lv_has ls 3 [(0, .ref (adr 0)), (1, .int x1), (2, .int x2)] := hl
  unfold pX7_setConstant at hf
  refine lv_aload_n hx hb dX7_setConstant_0 rfl (lv_at hl 0 rfl) ?_
  refine fw_get (id := 0) (k := 2) (v := .ref (adr 2)) X hH (by decide) (fc_0 (by decide)) rfl inX7 (by decide) rfl tw_1_179 dX7_setConstant_1 ?_
  refine lv_aload_n hx hb dX7_setConstant_4 rfl (lv_at hl 0 rfl) ?_
  refine fw_get (id := 0) (k := 1) (v := .ref (adr 12)) X hH (by decide) (fc_0 (by decide)) rfl inX7 (by decide) rfl tw_1_178 dX7_setConstant_5 ?_
  obtain ⟨τ2, g1, hf⟩ := fw_bd hf
  refine fw_cv hH (fw_rV (As := [.ref (adr 12)]) (rest := []) (id := 2) X hH (kX1_draft (by unfold fw_ST fw_PL fw_FL; decide) g1 _) qX1_draft tw_1_200 ⟨Nat.le_of_ble_eq_true rfl, Nat.le_of_ble_eq_true rfl⟩ rfl rfl (by decide) (fc_2 (by decide)) rfl rfl hl.1 rfl (Nat.le_of_ble_eq_true rfl) dX7_setConstant_8) (fun H locs hH => ?_)
  refine lv_aload_n hx hb dX7_setConstant_11 rfl (lv_at hl 0 rfl) ?_
  refine lv_aload_n hx hb dX7_setConstant_12 rfl (lv_at hl 0 rfl) ?_
  refine fw_get (id := 0) (k := 1) (v := .ref (adr 12)) X hH (by decide) (fc_0 (by decide)) rfl inX7 (by decide) rfl tw_1_178 dX7_setConstant_13 ?_
  refine fw_getN (id := 12) (k := 2) (v := .ref (adr 17)) X hH (by decide) (fc_12 (by decide)) rfl inX5 (by decide) rfl nw_1_92 dX7_setConstant_16 ?_
  refine lv_iload_n hx hb dX7_setConstant_19 rfl (lv_at hl 1 rfl) ?_
  refine lv_iload_n hx hb dX7_setConstant_20 rfl (lv_at hl 2 rfl) ?_
  obtain ⟨w5, τ4, g3, hf⟩ := fw_b2s hf
  refine fw_ci hH (fw_rV (As := [.int x1, .int x2]) (rest := [.ref (adr 0)]) (id := 17) X hH (kX0_replaceConstant (by unfold fw_FL; decide) g3 _) qX0_replaceConstant tw_2_73 ⟨Nat.le_of_ble_eq_true rfl, Nat.le_of_ble_eq_true rfl⟩ rfl rfl (by decide) (fc_15 (by decide)) rfl rfl hl.1 rfl (Nat.le_of_ble_eq_true rfl) dX7_setConstant_21) (fun H locs hH => ?_)
  obtain ⟨w8, τ7, g6, hf⟩ := fw_b2s hf
  refine fw_ci hH (fw_rV (As := [.int w5]) (rest := []) (id := 0) X hH (kX7_settle  g6 _) qX7_settle tw_1_238 ⟨Nat.le_of_ble_eq_true rfl, Nat.le_of_ble_eq_true rfl⟩ rfl rfl (by decide) (fc_0 (by decide)) rfl rfl hl.1 rfl (Nat.le_of_ble_eq_true rfl) dX7_setConstant_24) (fun H locs hH => ?_)
  obtain ⟨rfl, rfl⟩ := fw_s2 hf
  exact fw_reti X hH dX7_setConstant_27
end
