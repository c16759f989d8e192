section
variable {p : Program} {l : Launch} {e : Env} {s : State} {m : MethodId} {below : List Frame} {meth : Method} {c : Code} {D : va_G} {cI cO cB : ClassId} {adr : Nat → Nat} {A : Nat → Prop}
abbrev rmX2_init : Room := { frames := 1, cells := 1, slots := 10, locals := 21 }
theorem iX2 : fw_QI yX2_init cX2_init 2 1 := ⟨⟨tw_1_37, tw_1_4, tw_1_38⟩, rfl, by decide +kernel⟩
set_option maxRecDepth 100000 in
set_option maxHeartbeats 4000000 in
theorem nX2_init (l : Launch) (D : va_G) (cI cO cB : ClassId) (h0 : Nat) {x1 : Int32} {lim : Int32} (hlim : (if (10 : Int32) < x1 then (10 : Int32) else x1) = lim) : cn_C l yX2_init cX2_init 2 rmX2_init [.int x1] D (cn_T cI cO cB) nwC (h0, .inr (2, [.null, .int 0, .int 0])) (cw2 cI lim) 1 10 := by
  refine cn_start (by decide) (by simp [lg_sl, Value.category]) rfl rfl ?_
  intro p e s m below meth c A X hH ls hl
  have hx := X.1.1.1
  have hb := X.1.1.2.1
  have hl : lv_has ls 2 [(0, .ref h0), (1, .int x1)] := hl
  refine lv_aload_n hx hb dX2_init_0 rfl (lv_at hl 0 rfl) ?_
  refine cn_obj X hl.1 tw_1_39 tw_1_20 tw_1_21 (Nat.le_of_ble_eq_true rfl) (Nat.le_of_ble_eq_true rfl) dX2_init_1 ?_
  refine lv_aload_n hx hb dX2_init_4 rfl (lv_at hl 0 rfl) ?_
  refine lv_bipush (v := (10 : Int32)) hx hb dX2_init_5 (by decide) ?_
  refine cn_arr (N' := 10) X hH tw_1_55 rfl (by decide) (by decide) (Nat.le_of_ble_eq_true rfl) (Nat.le_of_ble_eq_true rfl) (Nat.le_of_ble_eq_true rfl) dX2_init_7 (fun q1 H hH => ?_)
  have hH : cn_H D A s _ _ ((h0, .inr (2, [.null, .int 0, .int 0])) :: [(q1, .inl (cI, 10, .inl (fun _ => 0)))]) := hH
  refine cn_put (j := 0) (v := .ref q1) (ty := .array .int) X hH rfl inX2 tyX2 tyX2_ok nmX2 (by decide) (Nat.le_of_ble_eq_true rfl) rfl rfl (by decide +kernel) rfl rfl tw_1_43 dX2_init_9 (fun H locs hH => ?_)
  have hH : cn_H D A s _ _ ((h0, .inr (2, [.ref q1, .int 0, .int 0])) :: [(q1, .inl (cI, 10, .inl (fun _ => 0)))]) := hH
  refine lv_aload_n hx hb dX2_init_12 rfl (lv_at hl 0 rfl) ?_
  refine lv_iload_n hx hb dX2_init_13 rfl (lv_at hl 1 rfl) ?_
  refine lv_bipush (v := (10 : Int32)) hx hb dX2_init_14 (by decide) ?_
  refine va_mmin hx hb (X.1.1.2.2.1.trans hl.1.symm) X.1.1.2.2.2.1 (X.1.1.2.2.2.2 _ tw_1_40) (X.1.1.2.2.2.2 _ tw_1_41) (X.1.1.2.2.2.2 _ tw_1_5) (X.1.1.2.2.2.2 _ tw_1_42) (Nat.le_of_ble_eq_true rfl) (Nat.le_of_ble_eq_true rfl) (Nat.le_of_ble_eq_true rfl) (Nat.le_of_ble_eq_true rfl) dX2_init_16 ?_
  rw [hlim]
  refine cn_put (j := 1) (v := .int lim) (ty := .int) X hH rfl inX2 tyX2 tyX2_ok nmX2 (by decide) (Nat.le_of_ble_eq_true rfl) rfl rfl (by decide +kernel) rfl rfl tw_1_44 dX2_init_19 (fun H locs hH => ?_)
  have hH : cn_H D A s _ _ ((h0, .inr (2, [.ref q1, .int lim, .int 0])) :: [(q1, .inl (cI, 10, .inl (fun _ => 0)))]) := hH
  have hH : cn_H D A s _ _ (cw2 cI lim (cn_ap 1 (fun _ => h0) (fun _ => q1))) := hH
  exact cn_ret (cn_ap 1 (fun _ => h0) (fun _ => q1)) X hH rfl dX2_init_22
abbrev rmX0_init : Room := { frames := 1, cells := 4, slots := 24, locals := 12 }
theorem iX0 : fw_QI yX0_init cX0_init 1 0 := ⟨⟨tw_1_59, tw_1_6, tw_1_60⟩, rfl, by decide +kernel⟩
set_option maxRecDepth 100000 in
set_option maxHeartbeats 4000000 in
theorem nX0_init (l : Launch) (D : va_G) (cI cO cB : ClassId) (h0 : Nat) : cn_C l yX0_init cX0_init 1 rmX0_init [] D (cn_T cI cO cB) nwC (h0, .inr (0, [.null, .null, .null, .null, .int 0])) (cw0 cI) 4 24 := by
  refine cn_start (by decide) (by simp [lg_sl, Value.category]) rfl rfl ?_
  intro p e s m below meth c A X hH ls hl
  have hx := X.1.1.1
  have hb := X.1.1.2.1
  have hl : lv_has ls 1 [(0, .ref h0)] := hl
  refine lv_aload_n hx hb dX0_init_0 rfl (lv_at hl 0 rfl) ?_
  refine cn_obj X hl.1 tw_1_61 tw_1_20 tw_1_21 (Nat.le_of_ble_eq_true rfl) (Nat.le_of_ble_eq_true rfl) dX0_init_1 ?_
  refine lv_aload_n hx hb dX0_init_4 rfl (lv_at hl 0 rfl) ?_
  refine lv_bipush (v := (6 : Int32)) hx hb dX0_init_5 (by decide) ?_
  refine cn_arr (N' := 6) X hH tw_1_55 rfl (by decide) (by decide) (Nat.le_of_ble_eq_true rfl) (Nat.le_of_ble_eq_true rfl) (Nat.le_of_ble_eq_true rfl) dX0_init_7 (fun q1 H hH => ?_)
  have hH : cn_H D A s _ _ ((h0, .inr (0, [.null, .null, .null, .null, .int 0])) :: [(q1, .inl (cI, 6, .inl (fun _ => 0)))]) := hH
  refine cn_put (j := 0) (v := .ref q1) (ty := .array .int) X hH rfl inX0 tyX0 tyX0_ok nmX0 (by decide) (Nat.le_of_ble_eq_true rfl) rfl rfl (by decide +kernel) rfl rfl tw_1_62 dX0_init_9 (fun H locs hH => ?_)
  have hH : cn_H D A s _ _ ((h0, .inr (0, [.ref q1, .null, .null, .null, .int 0])) :: [(q1, .inl (cI, 6, .inl (fun _ => 0)))]) := hH
  refine lv_aload_n hx hb dX0_init_12 rfl (lv_at hl 0 rfl) ?_
  refine lv_bipush (v := (6 : Int32)) hx hb dX0_init_13 (by decide) ?_
  refine cn_arr (N' := 6) X hH tw_1_55 rfl (by decide) (by decide) (Nat.le_of_ble_eq_true rfl) (Nat.le_of_ble_eq_true rfl) (Nat.le_of_ble_eq_true rfl) dX0_init_15 (fun q2 H hH => ?_)
  have hH : cn_H D A s _ _ ((h0, .inr (0, [.ref q1, .null, .null, .null, .int 0])) :: ([(q1, .inl (cI, 6, .inl (fun _ => 0)))] ++ [(q2, .inl (cI, 6, .inl (fun _ => 0)))])) := hH
  refine cn_put (j := 1) (v := .ref q2) (ty := .array .int) X hH rfl inX0 tyX0 tyX0_ok nmX0 (by decide) (Nat.le_of_ble_eq_true rfl) rfl rfl (by decide +kernel) rfl rfl tw_1_64 dX0_init_17 (fun H locs hH => ?_)
  have hH : cn_H D A s _ _ ((h0, .inr (0, [.ref q1, .ref q2, .null, .null, .int 0])) :: ([(q1, .inl (cI, 6, .inl (fun _ => 0)))] ++ [(q2, .inl (cI, 6, .inl (fun _ => 0)))])) := hH
  refine lv_aload_n hx hb dX0_init_20 rfl (lv_at hl 0 rfl) ?_
  refine lv_bipush (v := (6 : Int32)) hx hb dX0_init_21 (by decide) ?_
  refine cn_arr (N' := 6) X hH tw_1_55 rfl (by decide) (by decide) (Nat.le_of_ble_eq_true rfl) (Nat.le_of_ble_eq_true rfl) (Nat.le_of_ble_eq_true rfl) dX0_init_23 (fun q3 H hH => ?_)
  have hH : cn_H D A s _ _ ((h0, .inr (0, [.ref q1, .ref q2, .null, .null, .int 0])) :: (([(q1, .inl (cI, 6, .inl (fun _ => 0)))] ++ [(q2, .inl (cI, 6, .inl (fun _ => 0)))]) ++ [(q3, .inl (cI, 6, .inl (fun _ => 0)))])) := hH
  refine cn_put (j := 2) (v := .ref q3) (ty := .array .int) X hH rfl inX0 tyX0 tyX0_ok nmX0 (by decide) (Nat.le_of_ble_eq_true rfl) rfl rfl (by decide +kernel) rfl rfl tw_1_66 dX0_init_25 (fun H locs hH => ?_)
  have hH : cn_H D A s _ _ ((h0, .inr (0, [.ref q1, .ref q2, .ref q3, .null, .int 0])) :: (([(q1, .inl (cI, 6, .inl (fun _ => 0)))] ++ [(q2, .inl (cI, 6, .inl (fun _ => 0)))]) ++ [(q3, .inl (cI, 6, .inl (fun _ => 0)))])) := hH
  refine lv_aload_n hx hb dX0_init_28 rfl (lv_at hl 0 rfl) ?_
  refine lv_bipush (v := (6 : Int32)) hx hb dX0_init_29 (by decide) ?_
  refine cn_arr (N' := 6) X hH tw_1_55 rfl (by decide) (by decide) (Nat.le_of_ble_eq_true rfl) (Nat.le_of_ble_eq_true rfl) (Nat.le_of_ble_eq_true rfl) dX0_init_31 (fun q4 H hH => ?_)
  have hH : cn_H D A s _ _ ((h0, .inr (0, [.ref q1, .ref q2, .ref q3, .null, .int 0])) :: ((([(q1, .inl (cI, 6, .inl (fun _ => 0)))] ++ [(q2, .inl (cI, 6, .inl (fun _ => 0)))]) ++ [(q3, .inl (cI, 6, .inl (fun _ => 0)))]) ++ [(q4, .inl (cI, 6, .inl (fun _ => 0)))])) := hH
  refine cn_put (j := 3) (v := .ref q4) (ty := .array .int) X hH rfl inX0 tyX0 tyX0_ok nmX0 (by decide) (Nat.le_of_ble_eq_true rfl) rfl rfl (by decide +kernel) rfl rfl tw_1_68 dX0_init_33 (fun H locs hH => ?_)
  have hH : cn_H D A s _ _ ((h0, .inr (0, [.ref q1, .ref q2, .ref q3, .ref q4, .int 0])) :: ((([(q1, .inl (cI, 6, .inl (fun _ => 0)))] ++ [(q2, .inl (cI, 6, .inl (fun _ => 0)))]) ++ [(q3, .inl (cI, 6, .inl (fun _ => 0)))]) ++ [(q4, .inl (cI, 6, .inl (fun _ => 0)))])) := hH
  have hH : cn_H D A s _ _ (cw0 cI (cn_ap 1 (fun _ => h0) (cn_ap 1 (fun _ => q1) (cn_ap 1 (fun _ => q2) (cn_ap 1 (fun _ => q3) (fun _ => q4)))))) := hH
  exact cn_ret (cn_ap 1 (fun _ => h0) (cn_ap 1 (fun _ => q1) (cn_ap 1 (fun _ => q2) (cn_ap 1 (fun _ => q3) (fun _ => q4))))) X hH rfl dX0_init_36
abbrev rmX5_init : Room := { frames := 2, cells := 11, slots := 68, locals := 42 }
theorem iX5 : fw_QI yX5_init cX5_init 1 0 := ⟨⟨tw_1_31, tw_1_3, tw_1_32⟩, rfl, by decide +kernel⟩
set_option maxRecDepth 100000 in
set_option maxHeartbeats 4000000 in
theorem nX5_init (l : Launch) (D : va_G) (cI cO cB : ClassId) (h0 : Nat) : cn_C l yX5_init cX5_init 1 rmX5_init [] D (cn_T cI cO cB) nwC (h0, .inr (5, [.null, .null, .null, .null])) (cw5 cI) 11 68 := by
  refine cn_start (by decide) (by simp [lg_sl, Value.category]) rfl rfl ?_
  intro p e s m below meth c A X hH ls hl
  have hx := X.1.1.1
  have hb := X.1.1.2.1
  have hl : lv_has ls 1 [(0, .ref h0)] := hl
  refine lv_aload_n hx hb dX5_init_0 rfl (lv_at hl 0 rfl) ?_
  refine cn_obj X hl.1 tw_1_33 tw_1_20 tw_1_21 (Nat.le_of_ble_eq_true rfl) (Nat.le_of_ble_eq_true rfl) dX5_init_1 ?_
  refine lv_aload_n hx hb dX5_init_4 rfl (lv_at hl 0 rfl) ?_
  refine cn_new (ci := 2) (fs := [.null, .int 0, .int 0]) X hH inX2 tyX2 tyX2_ok tw_1_34 tw_1_35 tw_1_4 rfl (fun j hj => by rcases (show j = 0 ∨ j = 1 ∨ j = 2 by omega) with rfl | rfl | rfl <;> rfl) (Nat.le_of_ble_eq_true rfl) (Nat.le_of_ble_eq_true rfl) dX5_init_5 (fun q1 H hH => ?_)
  refine lv_dup hx hb dX5_init_8 rfl ?_
  refine lv_bipush (v := (10 : Int32)) hx hb dX5_init_9 (by decide) ?_
  have hH : cn_H D A s _ _ (((h0, .inr (5, [.null, .null, .null, .null])) :: []) ++ [(q1, .inr (2, [.null, .int 0, .int 0]))]) := hH
  refine cn_call (As := [.int (10 : Int32)]) (rest := [.ref q1, .ref h0]) X hH (nX2_init l D cI cO cB q1 (lim := 10) (by decide)) iX2 tw_1_36 ⟨Nat.le_of_ble_eq_true rfl, Nat.le_of_ble_eq_true rfl⟩ rfl rfl rfl hl.1 rfl (Nat.le_of_ble_eq_true rfl) dX5_init_11 ⟨Nat.le_of_ble_eq_true rfl, Nat.le_of_ble_eq_true rfl⟩ (fun a2 H locs ha2 hG => ?_)
  have ha2 : a2 0 = q1 := ha2
  clear hH
  subst ha2
  have hH := hG
  have hH : cn_H D A s _ _ ((h0, .inr (5, [.null, .null, .null, .null])) :: cw2 cI 10 a2) := hH
  refine cn_put (j := 0) (v := .ref (a2 0)) (ty := .object "WhyNotJoin$PairList") X hH rfl inX5 tyX5 tyX5_ok nmX5 (by decide) (Nat.le_of_ble_eq_true rfl) rfl rfl (by decide +kernel) rfl rfl tw_1_84 dX5_init_14 (fun H locs hH => ?_)
  have hH : cn_H D A s _ _ ((h0, .inr (5, [.ref (a2 0), .null, .null, .null])) :: cw2 cI 10 a2) := hH
  refine lv_aload_n hx hb dX5_init_17 rfl (lv_at hl 0 rfl) ?_
  refine cn_new (ci := 2) (fs := [.null, .int 0, .int 0]) X hH inX2 tyX2 tyX2_ok tw_1_34 tw_1_35 tw_1_4 rfl (fun j hj => by rcases (show j = 0 ∨ j = 1 ∨ j = 2 by omega) with rfl | rfl | rfl <;> rfl) (Nat.le_of_ble_eq_true rfl) (Nat.le_of_ble_eq_true rfl) dX5_init_18 (fun q3 H hH => ?_)
  refine lv_dup hx hb dX5_init_21 rfl ?_
  refine lv_bipush (v := (10 : Int32)) hx hb dX5_init_22 (by decide) ?_
  have hH : cn_H D A s _ _ (((h0, .inr (5, [.ref (a2 0), .null, .null, .null])) :: cw2 cI 10 a2) ++ [(q3, .inr (2, [.null, .int 0, .int 0]))]) := hH
  refine cn_call (As := [.int (10 : Int32)]) (rest := [.ref q3, .ref h0]) X hH (nX2_init l D cI cO cB q3 (lim := 10) (by decide)) iX2 tw_1_36 ⟨Nat.le_of_ble_eq_true rfl, Nat.le_of_ble_eq_true rfl⟩ rfl rfl rfl hl.1 rfl (Nat.le_of_ble_eq_true rfl) dX5_init_24 ⟨Nat.le_of_ble_eq_true rfl, Nat.le_of_ble_eq_true rfl⟩ (fun a4 H locs ha4 hG => ?_)
  have ha4 : a4 0 = q3 := ha4
  clear hH
  subst ha4
  have hH := hG
  have hH : cn_H D A s _ _ ((h0, .inr (5, [.ref (a2 0), .null, .null, .null])) :: (cw2 cI 10 a2 ++ cw2 cI 10 a4)) := hH
  refine cn_put (j := 1) (v := .ref (a4 0)) (ty := .object "WhyNotJoin$PairList") X hH rfl inX5 tyX5 tyX5_ok nmX5 (by decide) (Nat.le_of_ble_eq_true rfl) rfl rfl (by decide +kernel) rfl rfl tw_1_87 dX5_init_27 (fun H locs hH => ?_)
  have hH : cn_H D A s _ _ ((h0, .inr (5, [.ref (a2 0), .ref (a4 0), .null, .null])) :: (cw2 cI 10 a2 ++ cw2 cI 10 a4)) := hH
  refine lv_aload_n hx hb dX5_init_30 rfl (lv_at hl 0 rfl) ?_
  refine cn_new (ci := 0) (fs := [.null, .null, .null, .null, .int 0]) X hH inX0 tyX0 tyX0_ok tw_1_56 tw_1_57 tw_1_6 rfl (fun j hj => by rcases (show j = 0 ∨ j = 1 ∨ j = 2 ∨ j = 3 ∨ j = 4 by omega) with rfl | rfl | rfl | rfl | rfl <;> rfl) (Nat.le_of_ble_eq_true rfl) (Nat.le_of_ble_eq_true rfl) dX5_init_31 (fun q5 H hH => ?_)
  refine lv_dup hx hb dX5_init_34 rfl ?_
  have hH : cn_H D A s _ _ (((h0, .inr (5, [.ref (a2 0), .ref (a4 0), .null, .null])) :: (cw2 cI 10 a2 ++ cw2 cI 10 a4)) ++ [(q5, .inr (0, [.null, .null, .null, .null, .int 0]))]) := hH
  refine cn_callN (As := []) (rest := [.ref q5, .ref h0]) X hH (nX0_init l D cI cO cB q5) iX0 nw_1_58 ⟨Nat.le_of_ble_eq_true rfl, Nat.le_of_ble_eq_true rfl⟩ rfl rfl rfl hl.1 rfl (Nat.le_of_ble_eq_true rfl) dX5_init_35 ⟨Nat.le_of_ble_eq_true rfl, Nat.le_of_ble_eq_true rfl⟩ (fun a6 H locs ha6 hG => ?_)
  have ha6 : a6 0 = q5 := ha6
  clear hH
  subst ha6
  have hH := hG
  have hH : cn_H D A s _ _ ((h0, .inr (5, [.ref (a2 0), .ref (a4 0), .null, .null])) :: ((cw2 cI 10 a2 ++ cw2 cI 10 a4) ++ cw0 cI a6)) := hH
  refine cn_put (j := 2) (v := .ref (a6 0)) (ty := .object "WhyNotJoin$FilterList") X hH rfl inX5 tyX5 tyX5_ok nmX5 (by decide) (Nat.le_of_ble_eq_true rfl) rfl rfl (by decide +kernel) rfl rfl tw_1_90 dX5_init_38 (fun H locs hH => ?_)
  have hH : cn_H D A s _ _ ((h0, .inr (5, [.ref (a2 0), .ref (a4 0), .ref (a6 0), .null])) :: ((cw2 cI 10 a2 ++ cw2 cI 10 a4) ++ cw0 cI a6)) := hH
  refine lv_aload_n hx hb dX5_init_41 rfl (lv_at hl 0 rfl) ?_
  refine cn_new (ci := 2) (fs := [.null, .int 0, .int 0]) X hH inX2 tyX2 tyX2_ok tw_1_34 tw_1_35 tw_1_4 rfl (fun j hj => by rcases (show j = 0 ∨ j = 1 ∨ j = 2 by omega) with rfl | rfl | rfl <;> rfl) (Nat.le_of_ble_eq_true rfl) (Nat.le_of_ble_eq_true rfl) dX5_init_42 (fun q7 H hH => ?_)
  refine lv_dup hx hb dX5_init_45 rfl ?_
  refine lv_iconst (v := (4 : Int32)) hx hb dX5_init_46 (by decide) ?_
  have hH : cn_H D A s _ _ (((h0, .inr (5, [.ref (a2 0), .ref (a4 0), .ref (a6 0), .null])) :: ((cw2 cI 10 a2 ++ cw2 cI 10 a4) ++ cw0 cI a6)) ++ [(q7, .inr (2, [.null, .int 0, .int 0]))]) := hH
  refine cn_call (As := [.int (4 : Int32)]) (rest := [.ref q7, .ref h0]) X hH (nX2_init l D cI cO cB q7 (lim := 4) (by decide)) iX2 tw_1_36 ⟨Nat.le_of_ble_eq_true rfl, Nat.le_of_ble_eq_true rfl⟩ rfl rfl rfl hl.1 rfl (Nat.le_of_ble_eq_true rfl) dX5_init_47 ⟨Nat.le_of_ble_eq_true rfl, Nat.le_of_ble_eq_true rfl⟩ (fun a8 H locs ha8 hG => ?_)
  have ha8 : a8 0 = q7 := ha8
  clear hH
  subst ha8
  have hH := hG
  have hH : cn_H D A s _ _ ((h0, .inr (5, [.ref (a2 0), .ref (a4 0), .ref (a6 0), .null])) :: (((cw2 cI 10 a2 ++ cw2 cI 10 a4) ++ cw0 cI a6) ++ cw2 cI 4 a8)) := hH
  refine cn_put (j := 3) (v := .ref (a8 0)) (ty := .object "WhyNotJoin$PairList") X hH rfl inX5 tyX5 tyX5_ok nmX5 (by decide) (Nat.le_of_ble_eq_true rfl) rfl rfl (by decide +kernel) rfl rfl tw_1_93 dX5_init_50 (fun H locs hH => ?_)
  have hH : cn_H D A s _ _ ((h0, .inr (5, [.ref (a2 0), .ref (a4 0), .ref (a6 0), .ref (a8 0)])) :: (((cw2 cI 10 a2 ++ cw2 cI 10 a4) ++ cw0 cI a6) ++ cw2 cI 4 a8)) := hH
  have hH : cn_H D A s _ _ (cw5 cI (cn_ap 1 (fun _ => h0) (cn_ap 2 a2 (cn_ap 2 a4 (cn_ap 5 a6 a8))))) := hH
  exact cn_ret (cn_ap 1 (fun _ => h0) (cn_ap 2 a2 (cn_ap 2 a4 (cn_ap 5 a6 a8)))) X hH rfl dX5_init_53
abbrev rmX3_init : Room := { frames := 3, cells := 14, slots := 212, locals := 62 }
theorem iX3 : fw_QI yX3_init cX3_init 1 0 := ⟨⟨tw_1_25, tw_1_2, tw_1_26⟩, rfl, by decide +kernel⟩
set_option maxRecDepth 100000 in
set_option maxHeartbeats 4000000 in
theorem nX3_init (l : Launch) (D : va_G) (cI cO cB : ClassId) (h0 : Nat) : cn_C l yX3_init cX3_init 1 rmX3_init [] D (cn_T cI cO cB) nwC (h0, .inr (3, [.null, .null, .null])) (cw3 cI) 14 212 := by
  refine cn_start (by decide) (by simp [lg_sl, Value.category]) rfl rfl ?_
  intro p e s m below meth c A X hH ls hl
  have hx := X.1.1.1
  have hb := X.1.1.2.1
  have hl : lv_has ls 1 [(0, .ref h0)] := hl
  refine lv_aload_n hx hb dX3_init_0 rfl (lv_at hl 0 rfl) ?_
  refine cn_obj X hl.1 tw_1_27 tw_1_20 tw_1_21 (Nat.le_of_ble_eq_true rfl) (Nat.le_of_ble_eq_true rfl) dX3_init_1 ?_
  refine lv_aload_n hx hb dX3_init_4 rfl (lv_at hl 0 rfl) ?_
  refine cn_new (ci := 5) (fs := [.null, .null, .null, .null]) X hH inX5 tyX5 tyX5_ok tw_1_28 tw_1_29 tw_1_3 rfl (fun j hj => by rcases (show j = 0 ∨ j = 1 ∨ j = 2 ∨ j = 3 by omega) with rfl | rfl | rfl | rfl <;> rfl) (Nat.le_of_ble_eq_true rfl) (Nat.le_of_ble_eq_true rfl) dX3_init_5 (fun q1 H hH => ?_)
  refine lv_dup hx hb dX3_init_8 rfl ?_
  have hH : cn_H D A s _ _ (((h0, .inr (3, [.null, .null, .null])) :: []) ++ [(q1, .inr (5, [.null, .null, .null, .null]))]) := hH
  refine cn_callN (As := []) (rest := [.ref q1, .ref h0]) X hH (nX5_init l D cI cO cB q1) iX5 nw_1_30 ⟨Nat.le_of_ble_eq_true rfl, Nat.le_of_ble_eq_true rfl⟩ rfl rfl rfl hl.1 rfl (Nat.le_of_ble_eq_true rfl) dX3_init_9 ⟨Nat.le_of_ble_eq_true rfl, Nat.le_of_ble_eq_true rfl⟩ (fun a2 H locs ha2 hG => ?_)
  have ha2 : a2 0 = q1 := ha2
  clear hH
  subst ha2
  have hH := hG
  have hH : cn_H D A s _ _ ((h0, .inr (3, [.null, .null, .null])) :: cw5 cI a2) := hH
  refine cn_put (j := 0) (v := .ref (a2 0)) (ty := .object "WhyNotJoin$State") X hH rfl inX3 tyX3 tyX3_ok nmX3 (by decide) (Nat.le_of_ble_eq_true rfl) rfl rfl (by decide +kernel) rfl rfl tw_1_105 dX3_init_12 (fun H locs hH => ?_)
  have hH : cn_H D A s _ _ ((h0, .inr (3, [.ref (a2 0), .null, .null])) :: cw5 cI a2) := hH
  refine lv_aload_n hx hb dX3_init_15 rfl (lv_at hl 0 rfl) ?_
  refine lv_bipush (v := (100 : Int32)) hx hb dX3_init_16 (by decide) ?_
  refine cn_arr (N' := 100) X hH tw_1_55 rfl (by decide) (by decide) (Nat.le_of_ble_eq_true rfl) (Nat.le_of_ble_eq_true rfl) (Nat.le_of_ble_eq_true rfl) dX3_init_18 (fun q3 H hH => ?_)
  have hH : cn_H D A s _ _ ((h0, .inr (3, [.ref (a2 0), .null, .null])) :: (cw5 cI a2 ++ [(q3, .inl (cI, 100, .inl (fun _ => 0)))])) := hH
  refine cn_put (j := 1) (v := .ref q3) (ty := .array .int) X hH rfl inX3 tyX3 tyX3_ok nmX3 (by decide) (Nat.le_of_ble_eq_true rfl) rfl rfl (by decide +kernel) rfl rfl tw_1_107 dX3_init_20 (fun H locs hH => ?_)
  have hH : cn_H D A s _ _ ((h0, .inr (3, [.ref (a2 0), .ref q3, .null])) :: (cw5 cI a2 ++ [(q3, .inl (cI, 100, .inl (fun _ => 0)))])) := hH
  refine lv_aload_n hx hb dX3_init_23 rfl (lv_at hl 0 rfl) ?_
  refine lv_bipush (v := (40 : Int32)) hx hb dX3_init_24 (by decide) ?_
  refine cn_arr (N' := 40) X hH tw_1_55 rfl (by decide) (by decide) (Nat.le_of_ble_eq_true rfl) (Nat.le_of_ble_eq_true rfl) (Nat.le_of_ble_eq_true rfl) dX3_init_26 (fun q4 H hH => ?_)
  have hH : cn_H D A s _ _ ((h0, .inr (3, [.ref (a2 0), .ref q3, .null])) :: ((cw5 cI a2 ++ [(q3, .inl (cI, 100, .inl (fun _ => 0)))]) ++ [(q4, .inl (cI, 40, .inl (fun _ => 0)))])) := hH
  refine cn_put (j := 2) (v := .ref q4) (ty := .array .int) X hH rfl inX3 tyX3 tyX3_ok nmX3 (by decide) (Nat.le_of_ble_eq_true rfl) rfl rfl (by decide +kernel) rfl rfl tw_1_109 dX3_init_28 (fun H locs hH => ?_)
  have hH : cn_H D A s _ _ ((h0, .inr (3, [.ref (a2 0), .ref q3, .ref q4])) :: ((cw5 cI a2 ++ [(q3, .inl (cI, 100, .inl (fun _ => 0)))]) ++ [(q4, .inl (cI, 40, .inl (fun _ => 0)))])) := hH
  have hH : cn_H D A s _ _ (cw3 cI (cn_ap 1 (fun _ => h0) (cn_ap 12 a2 (cn_ap 1 (fun _ => q3) (fun _ => q4))))) := hH
  exact cn_ret (cn_ap 1 (fun _ => h0) (cn_ap 12 a2 (cn_ap 1 (fun _ => q3) (fun _ => q4)))) X hH rfl dX3_init_31
abbrev rmX6_init : Room := { frames := 1, cells := 1, slots := 120, locals := 12 }
theorem iX6 : fw_QI yX6_init cX6_init 1 0 := ⟨⟨tw_1_146, tw_1_9, tw_1_147⟩, rfl, by decide +kernel⟩
set_option maxRecDepth 100000 in
set_option maxHeartbeats 4000000 in
theorem nX6_init (l : Launch) (D : va_G) (cI cO cB : ClassId) (h0 : Nat) : cn_C l yX6_init cX6_init 1 rmX6_init [] D (cn_T cI cO cB) nwC (h0, .inr (6, [.null, .int 0])) (cw6 cI) 1 120 := by
  refine cn_start (by decide) (by simp [lg_sl, Value.category]) rfl rfl ?_
  intro p e s m below meth c A X hH ls hl
  have hx := X.1.1.1
  have hb := X.1.1.2.1
  have hl : lv_has ls 1 [(0, .ref h0)] := hl
  refine lv_aload_n hx hb dX6_init_0 rfl (lv_at hl 0 rfl) ?_
  refine cn_obj X hl.1 tw_1_148 tw_1_20 tw_1_21 (Nat.le_of_ble_eq_true rfl) (Nat.le_of_ble_eq_true rfl) dX6_init_1 ?_
  refine lv_aload_n hx hb dX6_init_4 rfl (lv_at hl 0 rfl) ?_
  refine lv_bipush (v := (120 : Int32)) hx hb dX6_init_5 (by decide) ?_
  refine cn_arr (N' := 120) X hH tw_1_55 rfl (by decide) (by decide) (Nat.le_of_ble_eq_true rfl) (Nat.le_of_ble_eq_true rfl) (Nat.le_of_ble_eq_true rfl) dX6_init_7 (fun q1 H hH => ?_)
  have hH : cn_H D A s _ _ ((h0, .inr (6, [.null, .int 0])) :: [(q1, .inl (cI, 120, .inl (fun _ => 0)))]) := hH
  refine cn_put (j := 0) (v := .ref q1) (ty := .array .int) X hH rfl inX6 tyX6 tyX6_ok nmX6 (by decide) (Nat.le_of_ble_eq_true rfl) rfl rfl (by decide +kernel) rfl rfl tw_1_149 dX6_init_9 (fun H locs hH => ?_)
  have hH : cn_H D A s _ _ ((h0, .inr (6, [.ref q1, .int 0])) :: [(q1, .inl (cI, 120, .inl (fun _ => 0)))]) := hH
  have hH : cn_H D A s _ _ (cw6 cI (cn_ap 1 (fun _ => h0) (fun _ => q1))) := hH
  exact cn_ret (cn_ap 1 (fun _ => h0) (fun _ => q1)) X hH rfl dX6_init_12
abbrev rmX4_init : Room := { frames := 2, cells := 4, slots := 422, locals := 32 }
theorem iX4 : fw_QI yX4_init cX4_init 1 0 := ⟨⟨tw_1_140, tw_1_8, tw_1_141⟩, rfl, by decide +kernel⟩
set_option maxRecDepth 100000 in
set_option maxHeartbeats 4000000 in
theorem nX4_init (l : Launch) (D : va_G) (cI cO cB : ClassId) (h0 : Nat) : cn_C l yX4_init cX4_init 1 rmX4_init [] D (cn_T cI cO cB) nwC (h0, .inr (4, [.null, .null, .null, .int 0, .int 0])) (cw4 cI) 4 422 := by
  refine cn_start (by decide) (by simp [lg_sl, Value.category]) rfl rfl ?_
  intro p e s m below meth c A X hH ls hl
  have hx := X.1.1.1
  have hb := X.1.1.2.1
  have hl : lv_has ls 1 [(0, .ref h0)] := hl
  refine lv_aload_n hx hb dX4_init_0 rfl (lv_at hl 0 rfl) ?_
  refine cn_obj X hl.1 tw_1_142 tw_1_20 tw_1_21 (Nat.le_of_ble_eq_true rfl) (Nat.le_of_ble_eq_true rfl) dX4_init_1 ?_
  refine lv_aload_n hx hb dX4_init_4 rfl (lv_at hl 0 rfl) ?_
  refine cn_new (ci := 6) (fs := [.null, .int 0]) X hH inX6 tyX6 tyX6_ok tw_1_143 tw_1_144 tw_1_9 rfl (fun j hj => by rcases (show j = 0 ∨ j = 1 by omega) with rfl | rfl <;> rfl) (Nat.le_of_ble_eq_true rfl) (Nat.le_of_ble_eq_true rfl) dX4_init_5 (fun q1 H hH => ?_)
  refine lv_dup hx hb dX4_init_8 rfl ?_
  have hH : cn_H D A s _ _ (((h0, .inr (4, [.null, .null, .null, .int 0, .int 0])) :: []) ++ [(q1, .inr (6, [.null, .int 0]))]) := hH
  refine cn_callN (As := []) (rest := [.ref q1, .ref h0]) X hH (nX6_init l D cI cO cB q1) iX6 nw_1_145 ⟨Nat.le_of_ble_eq_true rfl, Nat.le_of_ble_eq_true rfl⟩ rfl rfl rfl hl.1 rfl (Nat.le_of_ble_eq_true rfl) dX4_init_9 ⟨Nat.le_of_ble_eq_true rfl, Nat.le_of_ble_eq_true rfl⟩ (fun a2 H locs ha2 hG => ?_)
  have ha2 : a2 0 = q1 := ha2
  clear hH
  subst ha2
  have hH := hG
  have hH : cn_H D A s _ _ ((h0, .inr (4, [.null, .null, .null, .int 0, .int 0])) :: cw6 cI a2) := hH
  refine cn_put (j := 0) (v := .ref (a2 0)) (ty := .object "WhyNotJoin$Text") X hH rfl inX4 tyX4 tyX4_ok nmX4 (by decide) (Nat.le_of_ble_eq_true rfl) rfl rfl (by decide +kernel) rfl rfl tw_1_158 dX4_init_12 (fun H locs hH => ?_)
  have hH : cn_H D A s _ _ ((h0, .inr (4, [.ref (a2 0), .null, .null, .int 0, .int 0])) :: cw6 cI a2) := hH
  refine lv_aload_n hx hb dX4_init_15 rfl (lv_at hl 0 rfl) ?_
  refine lv_bipush (v := (60 : Int32)) hx hb dX4_init_16 (by decide) ?_
  refine cn_arr (N' := 60) X hH tw_1_55 rfl (by decide) (by decide) (Nat.le_of_ble_eq_true rfl) (Nat.le_of_ble_eq_true rfl) (Nat.le_of_ble_eq_true rfl) dX4_init_18 (fun q3 H hH => ?_)
  have hH : cn_H D A s _ _ ((h0, .inr (4, [.ref (a2 0), .null, .null, .int 0, .int 0])) :: (cw6 cI a2 ++ [(q3, .inl (cI, 60, .inl (fun _ => 0)))])) := hH
  refine cn_put (j := 1) (v := .ref q3) (ty := .array .int) X hH rfl inX4 tyX4 tyX4_ok nmX4 (by decide) (Nat.le_of_ble_eq_true rfl) rfl rfl (by decide +kernel) rfl rfl tw_1_160 dX4_init_20 (fun H locs hH => ?_)
  have hH : cn_H D A s _ _ ((h0, .inr (4, [.ref (a2 0), .ref q3, .null, .int 0, .int 0])) :: (cw6 cI a2 ++ [(q3, .inl (cI, 60, .inl (fun _ => 0)))])) := hH
  refine lv_aload_n hx hb dX4_init_23 rfl (lv_at hl 0 rfl) ?_
  refine lv_sipush (v := (240 : Int32)) hx hb dX4_init_24 (by decide) ?_
  refine cn_arr (N' := 240) X hH tw_1_55 rfl (by decide) (by decide) (Nat.le_of_ble_eq_true rfl) (Nat.le_of_ble_eq_true rfl) (Nat.le_of_ble_eq_true rfl) dX4_init_27 (fun q4 H hH => ?_)
  have hH : cn_H D A s _ _ ((h0, .inr (4, [.ref (a2 0), .ref q3, .null, .int 0, .int 0])) :: ((cw6 cI a2 ++ [(q3, .inl (cI, 60, .inl (fun _ => 0)))]) ++ [(q4, .inl (cI, 240, .inl (fun _ => 0)))])) := hH
  refine cn_put (j := 2) (v := .ref q4) (ty := .array .int) X hH rfl inX4 tyX4 tyX4_ok nmX4 (by decide) (Nat.le_of_ble_eq_true rfl) rfl rfl (by decide +kernel) rfl rfl tw_1_161 dX4_init_29 (fun H locs hH => ?_)
  have hH : cn_H D A s _ _ ((h0, .inr (4, [.ref (a2 0), .ref q3, .ref q4, .int 0, .int 0])) :: ((cw6 cI a2 ++ [(q3, .inl (cI, 60, .inl (fun _ => 0)))]) ++ [(q4, .inl (cI, 240, .inl (fun _ => 0)))])) := hH
  have hH : cn_H D A s _ _ (cw4 cI (cn_ap 1 (fun _ => h0) (cn_ap 2 a2 (cn_ap 1 (fun _ => q3) (fun _ => q4))))) := hH
  exact cn_ret (cn_ap 1 (fun _ => h0) (cn_ap 2 a2 (cn_ap 1 (fun _ => q3) (fun _ => q4)))) X hH rfl dX4_init_32
abbrev rmX1_init : Room := { frames := 3, cells := 73, slots := 438, locals := 62 }
theorem iX1 : fw_QI yX1_init cX1_init 2 0 := ⟨⟨tw_1_120, tw_1_7, tw_1_121⟩, rfl, by decide +kernel⟩
set_option maxRecDepth 100000 in
set_option maxHeartbeats 4000000 in
theorem nX1_init (l : Launch) (D : va_G) (cI cO cB : ClassId) (h0 : Nat) : cn_C l yX1_init cX1_init 2 rmX1_init [] D (cn_T cI cO cB) nwC (h0, .inr (1, [.null, .int 0, .int 0])) (cw1 cI cO) 73 438 := by
  refine cn_start (by decide) (by simp [lg_sl, Value.category]) rfl rfl ?_
  intro p e s m below meth c A X hH ls hl
  have hx := X.1.1.1
  have hb := X.1.1.2.1
  have hl : lv_has ls 2 [(0, .ref h0)] := hl
  refine lv_aload_n hx hb dX1_init_0 rfl (lv_at hl 0 rfl) ?_
  refine cn_obj X hl.1 tw_1_122 tw_1_20 tw_1_21 (Nat.le_of_ble_eq_true rfl) (Nat.le_of_ble_eq_true rfl) dX1_init_1 ?_
  refine lv_aload_n hx hb dX1_init_4 rfl (lv_at hl 0 rfl) ?_
  refine lv_bipush (v := (6 : Int32)) hx hb dX1_init_5 (by decide) ?_
  refine cn_arq (N' := 6) X hH tw_1_123 rfl (by decide) (by decide) (Nat.le_of_ble_eq_true rfl) (Nat.le_of_ble_eq_true rfl) (Nat.le_of_ble_eq_true rfl) dX1_init_7 (fun qa H hH => ?_)
  have hH : cn_H D A s _ _ ((h0, .inr (1, [.null, .int 0, .int 0])) :: [(qa, .inl (cO, 6, .inr (.inr (.inr (.inr (fun _ => none))))))]) := hH
  refine cn_put (j := 0) (v := .ref qa) (ty := .array (.object "WhyNotJoin$State")) X hH rfl inX1 tyX1 tyX1_ok nmX1 (by decide) (Nat.le_of_ble_eq_true rfl) rfl rfl (by decide +kernel) rfl rfl tw_1_126 dX1_init_10 (fun H locs hH => ?_)
  have hH : cn_H D A s _ _ ((h0, .inr (1, [.ref qa, .int 0, .int 0])) :: (qa, .inl (cO, 6, .inr (.inr (.inr (.inr (fun _ => none)))))) :: []) := hH
  refine lv_iconst (v := (0 : Int32)) hx hb dX1_init_13 (by decide) ?_
  refine lv_istore_n (lv' := [(1, .int (0 : Int32)), (0, .ref h0)]) hx hb dX1_init_14 rfl hl (by decide) rfl (fun ls hl => ?_)
  refine lv_iload_n hx hb dX1_init_15 rfl (lv_at hl 0 rfl) ?_
  refine lv_bipush (v := (6 : Int32)) hx hb dX1_init_16 (by decide) ?_
  refine lv_icmp_ge (tgt := 40) hx hb dX1_init_18 (by decide) (fun hc => absurd hc (by decide)) (fun hc => ?_)
  refine lv_aload_n hx hb dX1_init_21 rfl (lv_at hl 1 rfl) ?_
  refine cn_get (q0 := 0) (j := 0) (v := .ref qa) X hH rfl rfl inX1 (by decide) rfl tw_1_126 dX1_init_22 ?_
  refine lv_iload_n hx hb dX1_init_25 rfl (lv_at hl 0 rfl) ?_
  refine cn_new (ci := 5) (fs := [.null, .null, .null, .null]) X hH inX5 tyX5 tyX5_ok tw_1_123 tw_1_29 tw_1_3 rfl (fun j hj => by rcases (show j = 0 ∨ j = 1 ∨ j = 2 ∨ j = 3 by omega) with rfl | rfl | rfl | rfl <;> rfl) (Nat.le_of_ble_eq_true rfl) (Nat.le_of_ble_eq_true rfl) dX1_init_26 (fun q0 H hH => ?_)
  refine lv_dup hx hb dX1_init_29 rfl ?_
  have hH : cn_H D A s _ _ (((h0, .inr (1, [.ref qa, .int 0, .int 0])) :: (qa, .inl (cO, 6, .inr (.inr (.inr (.inr (fun _ => none)))))) :: []) ++ [(q0, .inr (5, [.null, .null, .null, .null]))]) := hH
  refine cn_callN (As := []) (rest := [.ref q0, .int (0 : Int32), .ref qa]) X hH (nX5_init l D cI cO cB q0) iX5 nw_1_125 ⟨Nat.le_of_ble_eq_true rfl, Nat.le_of_ble_eq_true rfl⟩ rfl rfl rfl hl.1 rfl (Nat.le_of_ble_eq_true rfl) dX1_init_30 ⟨Nat.le_of_ble_eq_true rfl, Nat.le_of_ble_eq_true rfl⟩ (fun a0 H locs ha0 hG => ?_)
  have ha0 : a0 0 = q0 := ha0
  clear hH
  subst ha0
  have hH := hG
  have hH : cn_H D A s _ _ ((h0, .inr (1, [.ref qa, .int 0, .int 0])) :: (qa, .inl (cO, 6, .inr (.inr (.inr (.inr (fun _ => none)))))) :: cw5 cI a0) := hH
  refine cn_ast (q0 := 1) (qk := 2) (ci := 5) (r := (RX5, TX5, 4)) X hH rfl rfl rfl rfl (by unfold vp_in; decide) dX1_init_33 (fun H locs hH => ?_)
  have hH : cn_H D A s _ _ ((h0, .inr (1, [.ref qa, .int 0, .int 0])) :: (qa, .inl (cO, 6, .inr (.inr (.inr (.inr (va_up (fun _ => none) 0 (some (a0 0)))))))) :: cw5 cI a0) := hH
  refine lv_iinc (v := (1 : Int32)) (lv' := [(1, .int (1 : Int32)), (0, .ref h0)]) hx hb dX1_init_34 hl (k := 0) rfl (by decide) (by decide) rfl (fun ls hl => ?_)
  refine lv_goto (tgt := 15) hx hb dX1_init_37 (by decide) ?_
  refine lv_iload_n hx hb dX1_init_15 rfl (lv_at hl 0 rfl) ?_
  refine lv_bipush (v := (6 : Int32)) hx hb dX1_init_16 (by decide) ?_
  refine lv_icmp_ge (tgt := 40) hx hb dX1_init_18 (by decide) (fun hc => absurd hc (by decide)) (fun hc => ?_)
  refine lv_aload_n hx hb dX1_init_21 rfl (lv_at hl 1 rfl) ?_
  refine cn_get (q0 := 0) (j := 0) (v := .ref qa) X hH rfl rfl inX1 (by decide) rfl tw_1_126 dX1_init_22 ?_
  refine lv_iload_n hx hb dX1_init_25 rfl (lv_at hl 0 rfl) ?_
  refine cn_new (ci := 5) (fs := [.null, .null, .null, .null]) X hH inX5 tyX5 tyX5_ok tw_1_123 tw_1_29 tw_1_3 rfl (fun j hj => by rcases (show j = 0 ∨ j = 1 ∨ j = 2 ∨ j = 3 by omega) with rfl | rfl | rfl | rfl <;> rfl) (Nat.le_of_ble_eq_true rfl) (Nat.le_of_ble_eq_true rfl) dX1_init_26 (fun q1 H hH => ?_)
  refine lv_dup hx hb dX1_init_29 rfl ?_
  have hH : cn_H D A s _ _ (((h0, .inr (1, [.ref qa, .int 0, .int 0])) :: (qa, .inl (cO, 6, .inr (.inr (.inr (.inr (va_up (fun _ => none) 0 (some (a0 0)))))))) :: cw5 cI a0) ++ [(q1, .inr (5, [.null, .null, .null, .null]))]) := hH
  refine cn_callN (As := []) (rest := [.ref q1, .int (1 : Int32), .ref qa]) X hH (nX5_init l D cI cO cB q1) iX5 nw_1_125 ⟨Nat.le_of_ble_eq_true rfl, Nat.le_of_ble_eq_true rfl⟩ rfl rfl rfl hl.1 rfl (Nat.le_of_ble_eq_true rfl) dX1_init_30 ⟨Nat.le_of_ble_eq_true rfl, Nat.le_of_ble_eq_true rfl⟩ (fun a1 H locs ha1 hG => ?_)
  have ha1 : a1 0 = q1 := ha1
  clear hH
  subst ha1
  have hH := hG
  have hH : cn_H D A s _ _ ((h0, .inr (1, [.ref qa, .int 0, .int 0])) :: (qa, .inl (cO, 6, .inr (.inr (.inr (.inr (va_up (fun _ => none) 0 (some (a0 0)))))))) :: (cw5 cI a0 ++ cw5 cI a1)) := hH
  refine cn_ast (q0 := 1) (qk := 14) (ci := 5) (r := (RX5, TX5, 4)) X hH rfl rfl rfl rfl (by unfold vp_in; decide) dX1_init_33 (fun H locs hH => ?_)
  have hH : cn_H D A s _ _ ((h0, .inr (1, [.ref qa, .int 0, .int 0])) :: (qa, .inl (cO, 6, .inr (.inr (.inr (.inr (va_up (va_up (fun _ => none) 0 (some (a0 0))) 1 (some (a1 0)))))))) :: (cw5 cI a0 ++ cw5 cI a1)) := hH
  refine lv_iinc (v := (2 : Int32)) (lv' := [(1, .int (2 : Int32)), (0, .ref h0)]) hx hb dX1_init_34 hl (k := 0) rfl (by decide) (by decide) rfl (fun ls hl => ?_)
  refine lv_goto (tgt := 15) hx hb dX1_init_37 (by decide) ?_
  refine lv_iload_n hx hb dX1_init_15 rfl (lv_at hl 0 rfl) ?_
  refine lv_bipush (v := (6 : Int32)) hx hb dX1_init_16 (by decide) ?_
  refine lv_icmp_ge (tgt := 40) hx hb dX1_init_18 (by decide) (fun hc => absurd hc (by decide)) (fun hc => ?_)
  refine lv_aload_n hx hb dX1_init_21 rfl (lv_at hl 1 rfl) ?_
  refine cn_get (q0 := 0) (j := 0) (v := .ref qa) X hH rfl rfl inX1 (by decide) rfl tw_1_126 dX1_init_22 ?_
  refine lv_iload_n hx hb dX1_init_25 rfl (lv_at hl 0 rfl) ?_
  refine cn_new (ci := 5) (fs := [.null, .null, .null, .null]) X hH inX5 tyX5 tyX5_ok tw_1_123 tw_1_29 tw_1_3 rfl (fun j hj => by rcases (show j = 0 ∨ j = 1 ∨ j = 2 ∨ j = 3 by omega) with rfl | rfl | rfl | rfl <;> rfl) (Nat.le_of_ble_eq_true rfl) (Nat.le_of_ble_eq_true rfl) dX1_init_26 (fun q2 H hH => ?_)
  refine lv_dup hx hb dX1_init_29 rfl ?_
  have hH : cn_H D A s _ _ (((h0, .inr (1, [.ref qa, .int 0, .int 0])) :: (qa, .inl (cO, 6, .inr (.inr (.inr (.inr (va_up (va_up (fun _ => none) 0 (some (a0 0))) 1 (some (a1 0)))))))) :: (cw5 cI a0 ++ cw5 cI a1)) ++ [(q2, .inr (5, [.null, .null, .null, .null]))]) := hH
  refine cn_callN (As := []) (rest := [.ref q2, .int (2 : Int32), .ref qa]) X hH (nX5_init l D cI cO cB q2) iX5 nw_1_125 ⟨Nat.le_of_ble_eq_true rfl, Nat.le_of_ble_eq_true rfl⟩ rfl rfl rfl hl.1 rfl (Nat.le_of_ble_eq_true rfl) dX1_init_30 ⟨Nat.le_of_ble_eq_true rfl, Nat.le_of_ble_eq_true rfl⟩ (fun a2 H locs ha2 hG => ?_)
  have ha2 : a2 0 = q2 := ha2
  clear hH
  subst ha2
  have hH := hG
  have hH : cn_H D A s _ _ ((h0, .inr (1, [.ref qa, .int 0, .int 0])) :: (qa, .inl (cO, 6, .inr (.inr (.inr (.inr (va_up (va_up (fun _ => none) 0 (some (a0 0))) 1 (some (a1 0)))))))) :: ((cw5 cI a0 ++ cw5 cI a1) ++ cw5 cI a2)) := hH
  refine cn_ast (q0 := 1) (qk := 26) (ci := 5) (r := (RX5, TX5, 4)) X hH rfl rfl rfl rfl (by unfold vp_in; decide) dX1_init_33 (fun H locs hH => ?_)
  have hH : cn_H D A s _ _ ((h0, .inr (1, [.ref qa, .int 0, .int 0])) :: (qa, .inl (cO, 6, .inr (.inr (.inr (.inr (va_up (va_up (va_up (fun _ => none) 0 (some (a0 0))) 1 (some (a1 0))) 2 (some (a2 0)))))))) :: ((cw5 cI a0 ++ cw5 cI a1) ++ cw5 cI a2)) := hH
  refine lv_iinc (v := (3 : Int32)) (lv' := [(1, .int (3 : Int32)), (0, .ref h0)]) hx hb dX1_init_34 hl (k := 0) rfl (by decide) (by decide) rfl (fun ls hl => ?_)
  refine lv_goto (tgt := 15) hx hb dX1_init_37 (by decide) ?_
  refine lv_iload_n hx hb dX1_init_15 rfl (lv_at hl 0 rfl) ?_
  refine lv_bipush (v := (6 : Int32)) hx hb dX1_init_16 (by decide) ?_
  refine lv_icmp_ge (tgt := 40) hx hb dX1_init_18 (by decide) (fun hc => absurd hc (by decide)) (fun hc => ?_)
  refine lv_aload_n hx hb dX1_init_21 rfl (lv_at hl 1 rfl) ?_
  refine cn_get (q0 := 0) (j := 0) (v := .ref qa) X hH rfl rfl inX1 (by decide) rfl tw_1_126 dX1_init_22 ?_
  refine lv_iload_n hx hb dX1_init_25 rfl (lv_at hl 0 rfl) ?_
  refine cn_new (ci := 5) (fs := [.null, .null, .null, .null]) X hH inX5 tyX5 tyX5_ok tw_1_123 tw_1_29 tw_1_3 rfl (fun j hj => by rcases (show j = 0 ∨ j = 1 ∨ j = 2 ∨ j = 3 by omega) with rfl | rfl | rfl | rfl <;> rfl) (Nat.le_of_ble_eq_true rfl) (Nat.le_of_ble_eq_true rfl) dX1_init_26 (fun q3 H hH => ?_)
  refine lv_dup hx hb dX1_init_29 rfl ?_
  have hH : cn_H D A s _ _ (((h0, .inr (1, [.ref qa, .int 0, .int 0])) :: (qa, .inl (cO, 6, .inr (.inr (.inr (.inr (va_up (va_up (va_up (fun _ => none) 0 (some (a0 0))) 1 (some (a1 0))) 2 (some (a2 0)))))))) :: ((cw5 cI a0 ++ cw5 cI a1) ++ cw5 cI a2)) ++ [(q3, .inr (5, [.null, .null, .null, .null]))]) := hH
  refine cn_callN (As := []) (rest := [.ref q3, .int (3 : Int32), .ref qa]) X hH (nX5_init l D cI cO cB q3) iX5 nw_1_125 ⟨Nat.le_of_ble_eq_true rfl, Nat.le_of_ble_eq_true rfl⟩ rfl rfl rfl hl.1 rfl (Nat.le_of_ble_eq_true rfl) dX1_init_30 ⟨Nat.le_of_ble_eq_true rfl, Nat.le_of_ble_eq_true rfl⟩ (fun a3 H locs ha3 hG => ?_)
  have ha3 : a3 0 = q3 := ha3
  clear hH
  subst ha3
  have hH := hG
  have hH : cn_H D A s _ _ ((h0, .inr (1, [.ref qa, .int 0, .int 0])) :: (qa, .inl (cO, 6, .inr (.inr (.inr (.inr (va_up (va_up (va_up (fun _ => none) 0 (some (a0 0))) 1 (some (a1 0))) 2 (some (a2 0)))))))) :: (((cw5 cI a0 ++ cw5 cI a1) ++ cw5 cI a2) ++ cw5 cI a3)) := hH
  refine cn_ast (q0 := 1) (qk := 38) (ci := 5) (r := (RX5, TX5, 4)) X hH rfl rfl rfl rfl (by unfold vp_in; decide) dX1_init_33 (fun H locs hH => ?_)
  have hH : cn_H D A s _ _ ((h0, .inr (1, [.ref qa, .int 0, .int 0])) :: (qa, .inl (cO, 6, .inr (.inr (.inr (.inr (va_up (va_up (va_up (va_up (fun _ => none) 0 (some (a0 0))) 1 (some (a1 0))) 2 (some (a2 0))) 3 (some (a3 0)))))))) :: (((cw5 cI a0 ++ cw5 cI a1) ++ cw5 cI a2) ++ cw5 cI a3)) := hH
  refine lv_iinc (v := (4 : Int32)) (lv' := [(1, .int (4 : Int32)), (0, .ref h0)]) hx hb dX1_init_34 hl (k := 0) rfl (by decide) (by decide) rfl (fun ls hl => ?_)
  refine lv_goto (tgt := 15) hx hb dX1_init_37 (by decide) ?_
  refine lv_iload_n hx hb dX1_init_15 rfl (lv_at hl 0 rfl) ?_
  refine lv_bipush (v := (6 : Int32)) hx hb dX1_init_16 (by decide) ?_
  refine lv_icmp_ge (tgt := 40) hx hb dX1_init_18 (by decide) (fun hc => absurd hc (by decide)) (fun hc => ?_)
  refine lv_aload_n hx hb dX1_init_21 rfl (lv_at hl 1 rfl) ?_
  refine cn_get (q0 := 0) (j := 0) (v := .ref qa) X hH rfl rfl inX1 (by decide) rfl tw_1_126 dX1_init_22 ?_
  refine lv_iload_n hx hb dX1_init_25 rfl (lv_at hl 0 rfl) ?_
  refine cn_new (ci := 5) (fs := [.null, .null, .null, .null]) X hH inX5 tyX5 tyX5_ok tw_1_123 tw_1_29 tw_1_3 rfl (fun j hj => by rcases (show j = 0 ∨ j = 1 ∨ j = 2 ∨ j = 3 by omega) with rfl | rfl | rfl | rfl <;> rfl) (Nat.le_of_ble_eq_true rfl) (Nat.le_of_ble_eq_true rfl) dX1_init_26 (fun q4 H hH => ?_)
  refine lv_dup hx hb dX1_init_29 rfl ?_
  have hH : cn_H D A s _ _ (((h0, .inr (1, [.ref qa, .int 0, .int 0])) :: (qa, .inl (cO, 6, .inr (.inr (.inr (.inr (va_up (va_up (va_up (va_up (fun _ => none) 0 (some (a0 0))) 1 (some (a1 0))) 2 (some (a2 0))) 3 (some (a3 0)))))))) :: (((cw5 cI a0 ++ cw5 cI a1) ++ cw5 cI a2) ++ cw5 cI a3)) ++ [(q4, .inr (5, [.null, .null, .null, .null]))]) := hH
  refine cn_callN (As := []) (rest := [.ref q4, .int (4 : Int32), .ref qa]) X hH (nX5_init l D cI cO cB q4) iX5 nw_1_125 ⟨Nat.le_of_ble_eq_true rfl, Nat.le_of_ble_eq_true rfl⟩ rfl rfl rfl hl.1 rfl (Nat.le_of_ble_eq_true rfl) dX1_init_30 ⟨Nat.le_of_ble_eq_true rfl, Nat.le_of_ble_eq_true rfl⟩ (fun a4 H locs ha4 hG => ?_)
  have ha4 : a4 0 = q4 := ha4
  clear hH
  subst ha4
  have hH := hG
  have hH : cn_H D A s _ _ ((h0, .inr (1, [.ref qa, .int 0, .int 0])) :: (qa, .inl (cO, 6, .inr (.inr (.inr (.inr (va_up (va_up (va_up (va_up (fun _ => none) 0 (some (a0 0))) 1 (some (a1 0))) 2 (some (a2 0))) 3 (some (a3 0)))))))) :: ((((cw5 cI a0 ++ cw5 cI a1) ++ cw5 cI a2) ++ cw5 cI a3) ++ cw5 cI a4)) := hH
  refine cn_ast (q0 := 1) (qk := 50) (ci := 5) (r := (RX5, TX5, 4)) X hH rfl rfl rfl rfl (by unfold vp_in; decide) dX1_init_33 (fun H locs hH => ?_)
  have hH : cn_H D A s _ _ ((h0, .inr (1, [.ref qa, .int 0, .int 0])) :: (qa, .inl (cO, 6, .inr (.inr (.inr (.inr (va_up (va_up (va_up (va_up (va_up (fun _ => none) 0 (some (a0 0))) 1 (some (a1 0))) 2 (some (a2 0))) 3 (some (a3 0))) 4 (some (a4 0)))))))) :: ((((cw5 cI a0 ++ cw5 cI a1) ++ cw5 cI a2) ++ cw5 cI a3) ++ cw5 cI a4)) := hH
  refine lv_iinc (v := (5 : Int32)) (lv' := [(1, .int (5 : Int32)), (0, .ref h0)]) hx hb dX1_init_34 hl (k := 0) rfl (by decide) (by decide) rfl (fun ls hl => ?_)
  refine lv_goto (tgt := 15) hx hb dX1_init_37 (by decide) ?_
  refine lv_iload_n hx hb dX1_init_15 rfl (lv_at hl 0 rfl) ?_
  refine lv_bipush (v := (6 : Int32)) hx hb dX1_init_16 (by decide) ?_
  refine lv_icmp_ge (tgt := 40) hx hb dX1_init_18 (by decide) (fun hc => absurd hc (by decide)) (fun hc => ?_)
  refine lv_aload_n hx hb dX1_init_21 rfl (lv_at hl 1 rfl) ?_
  refine cn_get (q0 := 0) (j := 0) (v := .ref qa) X hH rfl rfl inX1 (by decide) rfl tw_1_126 dX1_init_22 ?_
  refine lv_iload_n hx hb dX1_init_25 rfl (lv_at hl 0 rfl) ?_
  refine cn_new (ci := 5) (fs := [.null, .null, .null, .null]) X hH inX5 tyX5 tyX5_ok tw_1_123 tw_1_29 tw_1_3 rfl (fun j hj => by rcases (show j = 0 ∨ j = 1 ∨ j = 2 ∨ j = 3 by omega) with rfl | rfl | rfl | rfl <;> rfl) (Nat.le_of_ble_eq_true rfl) (Nat.le_of_ble_eq_true rfl) dX1_init_26 (fun q5 H hH => ?_)
  refine lv_dup hx hb dX1_init_29 rfl ?_
  have hH : cn_H D A s _ _ (((h0, .inr (1, [.ref qa, .int 0, .int 0])) :: (qa, .inl (cO, 6, .inr (.inr (.inr (.inr (va_up (va_up (va_up (va_up (va_up (fun _ => none) 0 (some (a0 0))) 1 (some (a1 0))) 2 (some (a2 0))) 3 (some (a3 0))) 4 (some (a4 0)))))))) :: ((((cw5 cI a0 ++ cw5 cI a1) ++ cw5 cI a2) ++ cw5 cI a3) ++ cw5 cI a4)) ++ [(q5, .inr (5, [.null, .null, .null, .null]))]) := hH
  refine cn_callN (As := []) (rest := [.ref q5, .int (5 : Int32), .ref qa]) X hH (nX5_init l D cI cO cB q5) iX5 nw_1_125 ⟨Nat.le_of_ble_eq_true rfl, Nat.le_of_ble_eq_true rfl⟩ rfl rfl rfl hl.1 rfl (Nat.le_of_ble_eq_true rfl) dX1_init_30 ⟨Nat.le_of_ble_eq_true rfl, Nat.le_of_ble_eq_true rfl⟩ (fun a5 H locs ha5 hG => ?_)
  have ha5 : a5 0 = q5 := ha5
  clear hH
  subst ha5
  have hH := hG
  have hH : cn_H D A s _ _ ((h0, .inr (1, [.ref qa, .int 0, .int 0])) :: (qa, .inl (cO, 6, .inr (.inr (.inr (.inr (va_up (va_up (va_up (va_up (va_up (fun _ => none) 0 (some (a0 0))) 1 (some (a1 0))) 2 (some (a2 0))) 3 (some (a3 0))) 4 (some (a4 0)))))))) :: (((((cw5 cI a0 ++ cw5 cI a1) ++ cw5 cI a2) ++ cw5 cI a3) ++ cw5 cI a4) ++ cw5 cI a5)) := hH
  refine cn_ast (q0 := 1) (qk := 62) (ci := 5) (r := (RX5, TX5, 4)) X hH rfl rfl rfl rfl (by unfold vp_in; decide) dX1_init_33 (fun H locs hH => ?_)
  have hH : cn_H D A s _ _ ((h0, .inr (1, [.ref qa, .int 0, .int 0])) :: (qa, .inl (cO, 6, .inr (.inr (.inr (.inr (va_up (va_up (va_up (va_up (va_up (va_up (fun _ => none) 0 (some (a0 0))) 1 (some (a1 0))) 2 (some (a2 0))) 3 (some (a3 0))) 4 (some (a4 0))) 5 (some (a5 0)))))))) :: (((((cw5 cI a0 ++ cw5 cI a1) ++ cw5 cI a2) ++ cw5 cI a3) ++ cw5 cI a4) ++ cw5 cI a5)) := hH
  refine lv_iinc (v := (6 : Int32)) (lv' := [(1, .int (6 : Int32)), (0, .ref h0)]) hx hb dX1_init_34 hl (k := 0) rfl (by decide) (by decide) rfl (fun ls hl => ?_)
  refine lv_goto (tgt := 15) hx hb dX1_init_37 (by decide) ?_
  refine lv_iload_n hx hb dX1_init_15 rfl (lv_at hl 0 rfl) ?_
  refine lv_bipush (v := (6 : Int32)) hx hb dX1_init_16 (by decide) ?_
  refine lv_icmp_ge (tgt := 40) hx hb dX1_init_18 (by decide) (fun hc => ?_) (fun hc => absurd (by decide) hc)
  have hP := cn_arrq (g := fun j => some ((cn_ap 1 (fun _ => h0) (cn_ap 1 (fun _ => qa) (cn_ap 12 a0 (cn_ap 12 a1 (cn_ap 12 a2 (cn_ap 12 a3 (cn_ap 12 a4 a5))))))) (2 + 12 * j))) hH.1 (fun j hj => by rcases (show j = 0 ∨ j = 1 ∨ j = 2 ∨ j = 3 ∨ j = 4 ∨ j = 5 by omega) with rfl | rfl | rfl | rfl | rfl | rfl <;> rfl)
  have hH : cn_H D A s _ _ (cw1 cI cO (cn_ap 1 (fun _ => h0) (cn_ap 1 (fun _ => qa) (cn_ap 12 a0 (cn_ap 12 a1 (cn_ap 12 a2 (cn_ap 12 a3 (cn_ap 12 a4 a5)))))))) := ⟨hP, cn_arrqD hH.2.1, hH.2.2⟩
  exact cn_ret (cn_ap 1 (fun _ => h0) (cn_ap 1 (fun _ => qa) (cn_ap 12 a0 (cn_ap 12 a1 (cn_ap 12 a2 (cn_ap 12 a3 (cn_ap 12 a4 a5))))))) X hH rfl dX1_init_40
end
