section
variable {p : Program} {l : Launch} {e : Env} {s : State} {m : MethodId} {below : List Frame} {meth : Method} {c : Code} {D : va_G} {cI cO cB : ClassId} {adr : Nat → Nat} {A : Nat → Prop}
def fw_0 : fw_T := (fun i => if fw_sh i = 13 then (fun k => if k = 1 then (if (i - 12) % 12 = 10 then 4 else 10) else 0) else (fun _ => 0), 0)
def fw_m0 : fw_T := (fun _ _ => 0, 0)
abbrev rmX7_init : Room := { frames := 4, cells := 95, slots := 1086, locals := 83 }
theorem iX7 : fw_QI yX7_init cX7_init 1 0 := ⟨⟨tw_1_17, tw_1_1, tw_1_18⟩, rfl, by decide +kernel⟩
set_option maxRecDepth 100000 in
set_option maxHeartbeats 4000000 in
theorem nX7_init (l : Launch) (D : va_G) (cI cO cB : ClassId) (h0 : Nat) : cn_C l yX7_init cX7_init 1 rmX7_init [] D (cn_T cI cO cB) nwC (h0, .inr (7, [.null, .null, .null, .null, .null, .null])) (fun a => fw_ws 96 a (fw_C cI cO a fw_0)) 95 1086 := by
  refine cn_start (by decide) (by simp [lg_sl, Value.category]) rfl rfl ?_
  intro p e s m below meth c A X hH ls hl
  have hx := X.1.1.1
  have hb := X.1.1.2.1
  have hl : lv_has ls 1 [(0, .ref h0)] := hl
  refine lv_aload_n hx hb dX7_init_0 rfl (lv_at hl 0 rfl) ?_
  refine cn_obj X hl.1 tw_1_19 tw_1_20 tw_1_21 (Nat.le_of_ble_eq_true rfl) (Nat.le_of_ble_eq_true rfl) dX7_init_1 ?_
  refine lv_aload_n hx hb dX7_init_4 rfl (lv_at hl 0 rfl) ?_
  refine cn_new (ci := 3) (fs := [.null, .null, .null]) X hH inX3 tyX3 tyX3_ok tw_1_22 tw_1_23 tw_1_2 rfl (fun j hj => by rcases (show j = 0 ∨ j = 1 ∨ j = 2 by omega) with rfl | rfl | rfl <;> rfl) (Nat.le_of_ble_eq_true rfl) (Nat.le_of_ble_eq_true rfl) dX7_init_5 (fun q1 H hH => ?_)
  refine lv_dup hx hb dX7_init_8 rfl ?_
  have hH : cn_H D A s _ _ (((h0, .inr (7, [.null, .null, .null, .null, .null, .null])) :: []) ++ [(q1, .inr (3, [.null, .null, .null]))]) := hH
  refine cn_callN (As := []) (rest := [.ref q1, .ref h0]) X hH (nX3_init l D cI cO cB q1) iX3 nw_1_24 ⟨Nat.le_of_ble_eq_true rfl, Nat.le_of_ble_eq_true rfl⟩ rfl rfl rfl hl.1 rfl (Nat.le_of_ble_eq_true rfl) dX7_init_9 ⟨Nat.le_of_ble_eq_true rfl, Nat.le_of_ble_eq_true rfl⟩ (fun a2 H locs ha2 hG => ?_)
  have ha2 : a2 0 = q1 := ha2
  clear hH
  subst ha2
  have hH := hG
  have hH : cn_H D A s _ _ ((h0, .inr (7, [.null, .null, .null, .null, .null, .null])) :: cw3 cI a2) := hH
  refine cn_put (j := 0) (v := .ref (a2 0)) (ty := .object "WhyNotJoin$Query") X hH rfl inX7 tyX7 tyX7_ok nmX7 (by decide) (Nat.le_of_ble_eq_true rfl) rfl rfl (by decide +kernel) rfl rfl tw_1_177 dX7_init_12 (fun H locs hH => ?_)
  have hH : cn_H D A s _ _ ((h0, .inr (7, [.ref (a2 0), .null, .null, .null, .null, .null])) :: cw3 cI a2) := hH
  refine lv_aload_n hx hb dX7_init_15 rfl (lv_at hl 0 rfl) ?_
  refine lv_aload_n hx hb dX7_init_16 rfl (lv_at hl 0 rfl) ?_
  refine cn_get (q0 := 0) (j := 0) (v := .ref (a2 0)) X hH rfl rfl inX7 (by decide) rfl tw_1_177 dX7_init_17 ?_
  refine cn_getN (q0 := 1) (j := 0) (v := .ref (a2 1)) X hH rfl rfl inX3 (by decide) rfl nw_1_106 dX7_init_20 ?_
  refine cn_put (j := 1) (v := .ref (a2 1)) (ty := .object "WhyNotJoin$State") X hH rfl inX7 tyX7 tyX7_ok nmX7 (by decide) (Nat.le_of_ble_eq_true rfl) rfl rfl (by decide +kernel) rfl rfl tw_1_178 dX7_init_23 (fun H locs hH => ?_)
  have hH : cn_H D A s _ _ ((h0, .inr (7, [.ref (a2 0), .ref (a2 1), .null, .null, .null, .null])) :: cw3 cI a2) := hH
  refine lv_aload_n hx hb dX7_init_26 rfl (lv_at hl 0 rfl) ?_
  refine cn_new (ci := 1) (fs := [.null, .int 0, .int 0]) X hH inX1 tyX1 tyX1_ok tw_1_117 tw_1_118 tw_1_7 rfl (fun j hj => by rcases (show j = 0 ∨ j = 1 ∨ j = 2 by omega) with rfl | rfl | rfl <;> rfl) (Nat.le_of_ble_eq_true rfl) (Nat.le_of_ble_eq_true rfl) dX7_init_27 (fun q3 H hH => ?_)
  refine lv_dup hx hb dX7_init_30 rfl ?_
  have hH : cn_H D A s _ _ (((h0, .inr (7, [.ref (a2 0), .ref (a2 1), .null, .null, .null, .null])) :: cw3 cI a2) ++ [(q3, .inr (1, [.null, .int 0, .int 0]))]) := hH
  refine cn_call (As := []) (rest := [.ref q3, .ref h0]) X hH (nX1_init l D cI cO cB q3) iX1 tw_1_119 ⟨Nat.le_of_ble_eq_true rfl, Nat.le_of_ble_eq_true rfl⟩ rfl rfl rfl hl.1 rfl (Nat.le_of_ble_eq_true rfl) dX7_init_31 ⟨Nat.le_of_ble_eq_true rfl, Nat.le_of_ble_eq_true rfl⟩ (fun a4 H locs ha4 hG => ?_)
  have ha4 : a4 0 = q3 := ha4
  clear hH
  subst ha4
  have hH := hG
  have hH : cn_H D A s _ _ ((h0, .inr (7, [.ref (a2 0), .ref (a2 1), .null, .null, .null, .null])) :: (cw3 cI a2 ++ cw1 cI cO a4)) := hH
  refine cn_put (j := 2) (v := .ref (a4 0)) (ty := .object "WhyNotJoin$History") X hH rfl inX7 tyX7 tyX7_ok nmX7 (by decide) (Nat.le_of_ble_eq_true rfl) rfl rfl (by decide +kernel) rfl rfl tw_1_179 dX7_init_34 (fun H locs hH => ?_)
  have hH : cn_H D A s _ _ ((h0, .inr (7, [.ref (a2 0), .ref (a2 1), .ref (a4 0), .null, .null, .null])) :: (cw3 cI a2 ++ cw1 cI cO a4)) := hH
  refine lv_aload_n hx hb dX7_init_37 rfl (lv_at hl 0 rfl) ?_
  refine cn_new (ci := 4) (fs := [.null, .null, .null, .int 0, .int 0]) X hH inX4 tyX4 tyX4_ok tw_1_137 tw_1_138 tw_1_8 rfl (fun j hj => by rcases (show j = 0 ∨ j = 1 ∨ j = 2 ∨ j = 3 ∨ j = 4 by omega) with rfl | rfl | rfl | rfl | rfl <;> rfl) (Nat.le_of_ble_eq_true rfl) (Nat.le_of_ble_eq_true rfl) dX7_init_38 (fun q5 H hH => ?_)
  refine lv_dup hx hb dX7_init_41 rfl ?_
  have hH : cn_H D A s _ _ (((h0, .inr (7, [.ref (a2 0), .ref (a2 1), .ref (a4 0), .null, .null, .null])) :: (cw3 cI a2 ++ cw1 cI cO a4)) ++ [(q5, .inr (4, [.null, .null, .null, .int 0, .int 0]))]) := hH
  refine cn_callN (As := []) (rest := [.ref q5, .ref h0]) X hH (nX4_init l D cI cO cB q5) iX4 nw_1_139 ⟨Nat.le_of_ble_eq_true rfl, Nat.le_of_ble_eq_true rfl⟩ rfl rfl rfl hl.1 rfl (Nat.le_of_ble_eq_true rfl) dX7_init_42 ⟨Nat.le_of_ble_eq_true rfl, Nat.le_of_ble_eq_true rfl⟩ (fun a6 H locs ha6 hG => ?_)
  have ha6 : a6 0 = q5 := ha6
  clear hH
  subst ha6
  have hH := hG
  have hH : cn_H D A s _ _ ((h0, .inr (7, [.ref (a2 0), .ref (a2 1), .ref (a4 0), .null, .null, .null])) :: ((cw3 cI a2 ++ cw1 cI cO a4) ++ cw4 cI a6)) := hH
  refine cn_put (j := 3) (v := .ref (a6 0)) (ty := .object "WhyNotJoin$Script") X hH rfl inX7 tyX7 tyX7_ok nmX7 (by decide) (Nat.le_of_ble_eq_true rfl) rfl rfl (by decide +kernel) rfl rfl tw_1_180 dX7_init_45 (fun H locs hH => ?_)
  have hH : cn_H D A s _ _ ((h0, .inr (7, [.ref (a2 0), .ref (a2 1), .ref (a4 0), .ref (a6 0), .null, .null])) :: ((cw3 cI a2 ++ cw1 cI cO a4) ++ cw4 cI a6)) := hH
  refine lv_aload_n hx hb dX7_init_48 rfl (lv_at hl 0 rfl) ?_
  refine lv_aload_n hx hb dX7_init_49 rfl (lv_at hl 0 rfl) ?_
  refine cn_get (q0 := 0) (j := 3) (v := .ref (a6 0)) X hH rfl rfl inX7 (by decide) rfl tw_1_180 dX7_init_50 ?_
  refine cn_getN (q0 := 90) (j := 0) (v := .ref (a6 1)) X hH rfl rfl inX4 (by decide) rfl nw_1_159 dX7_init_53 ?_
  refine cn_put (j := 4) (v := .ref (a6 1)) (ty := .object "WhyNotJoin$Text") X hH rfl inX7 tyX7 tyX7_ok nmX7 (by decide) (Nat.le_of_ble_eq_true rfl) rfl rfl (by decide +kernel) rfl rfl tw_1_181 dX7_init_56 (fun H locs hH => ?_)
  have hH : cn_H D A s _ _ ((h0, .inr (7, [.ref (a2 0), .ref (a2 1), .ref (a4 0), .ref (a6 0), .ref (a6 1), .null])) :: ((cw3 cI a2 ++ cw1 cI cO a4) ++ cw4 cI a6)) := hH
  refine lv_aload_n hx hb dX7_init_59 rfl (lv_at hl 0 rfl) ?_
  refine lv_iconst (v := (3 : Int32)) hx hb dX7_init_60 (by decide) ?_
  refine cn_arr (N' := 3) X hH tw_1_55 rfl (by decide) (by decide) (Nat.le_of_ble_eq_true rfl) (Nat.le_of_ble_eq_true rfl) (Nat.le_of_ble_eq_true rfl) dX7_init_61 (fun q7 H hH => ?_)
  have hH : cn_H D A s _ _ ((h0, .inr (7, [.ref (a2 0), .ref (a2 1), .ref (a4 0), .ref (a6 0), .ref (a6 1), .null])) :: (((cw3 cI a2 ++ cw1 cI cO a4) ++ cw4 cI a6) ++ [(q7, .inl (cI, 3, .inl (fun _ => 0)))])) := hH
  refine cn_put (j := 5) (v := .ref q7) (ty := .array .int) X hH rfl inX7 tyX7 tyX7_ok nmX7 (by decide) (Nat.le_of_ble_eq_true rfl) rfl rfl (by decide +kernel) rfl rfl tw_1_182 dX7_init_63 (fun H locs hH => ?_)
  have hH : cn_H D A s _ _ ((h0, .inr (7, [.ref (a2 0), .ref (a2 1), .ref (a4 0), .ref (a6 0), .ref (a6 1), .ref q7])) :: (((cw3 cI a2 ++ cw1 cI cO a4) ++ cw4 cI a6) ++ [(q7, .inl (cI, 3, .inl (fun _ => 0)))])) := hH
  have hP := cn_arrs (q0 := 17) (g := fun j => some ((fun i => (cn_ap 1 (fun _ => h0) (cn_ap 15 a2 (cn_ap 74 a4 (cn_ap 5 a6 (fun _ => q7))))) (([0, 1, 16, 17, 90, 93, 94, 91, 92, 95, 14, 15, 2, 3, 4, 5, 6, 7, 8, 9, 10, 11, 12, 13, 18, 19, 20, 21, 22, 23, 24, 25, 26, 27, 28, 29, 30, 31, 32, 33, 34, 35, 36, 37, 38, 39, 40, 41, 42, 43, 44, 45, 46, 47, 48, 49, 50, 51, 52, 53, 54, 55, 56, 57, 58, 59, 60, 61, 62, 63, 64, 65, 66, 67, 68, 69, 70, 71, 72, 73, 74, 75, 76, 77, 78, 79, 80, 81, 82, 83, 84, 85, 86, 87, 88, 89]).getD i 0)) (24 + 12 * j))) hH.1 rfl (fun j hj => by rcases (show j = 0 ∨ j = 1 ∨ j = 2 ∨ j = 3 ∨ j = 4 ∨ j = 5 by omega) with rfl | rfl | rfl | rfl | rfl | rfl <;> rfl)
  have hD := hH.2.1.set (p := 17) (e := .inl (cO, 6, .inr (.inr (.inr (.inr (fun j => some ((fun i => (cn_ap 1 (fun _ => h0) (cn_ap 15 a2 (cn_ap 74 a4 (cn_ap 5 a6 (fun _ => q7))))) (([0, 1, 16, 17, 90, 93, 94, 91, 92, 95, 14, 15, 2, 3, 4, 5, 6, 7, 8, 9, 10, 11, 12, 13, 18, 19, 20, 21, 22, 23, 24, 25, 26, 27, 28, 29, 30, 31, 32, 33, 34, 35, 36, 37, 38, 39, 40, 41, 42, 43, 44, 45, 46, 47, 48, 49, 50, 51, 52, 53, 54, 55, 56, 57, 58, 59, 60, 61, 62, 63, 64, 65, 66, 67, 68, 69, 70, 71, 72, 73, 74, 75, 76, 77, 78, 79, 80, 81, 82, 83, 84, 85, 86, 87, 88, 89]).getD i 0)) (24 + 12 * j)))))))) rfl
  have hP := hP.sub (ws' := fw_ws 96 (fun i => (cn_ap 1 (fun _ => h0) (cn_ap 15 a2 (cn_ap 74 a4 (cn_ap 5 a6 (fun _ => q7))))) (([0, 1, 16, 17, 90, 93, 94, 91, 92, 95, 14, 15, 2, 3, 4, 5, 6, 7, 8, 9, 10, 11, 12, 13, 18, 19, 20, 21, 22, 23, 24, 25, 26, 27, 28, 29, 30, 31, 32, 33, 34, 35, 36, 37, 38, 39, 40, 41, 42, 43, 44, 45, 46, 47, 48, 49, 50, 51, 52, 53, 54, 55, 56, 57, 58, 59, 60, 61, 62, 63, 64, 65, 66, 67, 68, 69, 70, 71, 72, 73, 74, 75, 76, 77, 78, 79, 80, 81, 82, 83, 84, 85, 86, 87, 88, 89]).getD i 0)) (fw_C cI cO (fun i => (cn_ap 1 (fun _ => h0) (cn_ap 15 a2 (cn_ap 74 a4 (cn_ap 5 a6 (fun _ => q7))))) (([0, 1, 16, 17, 90, 93, 94, 91, 92, 95, 14, 15, 2, 3, 4, 5, 6, 7, 8, 9, 10, 11, 12, 13, 18, 19, 20, 21, 22, 23, 24, 25, 26, 27, 28, 29, 30, 31, 32, 33, 34, 35, 36, 37, 38, 39, 40, 41, 42, 43, 44, 45, 46, 47, 48, 49, 50, 51, 52, 53, 54, 55, 56, 57, 58, 59, 60, 61, 62, 63, 64, 65, 66, 67, 68, 69, 70, 71, 72, 73, 74, 75, 76, 77, 78, 79, 80, 81, 82, 83, 84, 85, 86, 87, 88, 89]).getD i 0)) fw_0)) [0, 1, 16, 17, 90, 93, 94, 91, 92, 95, 14, 15, 2, 3, 4, 5, 6, 7, 8, 9, 10, 11, 12, 13, 18, 19, 20, 21, 22, 23, 24, 25, 26, 27, 28, 29, 30, 31, 32, 33, 34, 35, 36, 37, 38, 39, 40, 41, 42, 43, 44, 45, 46, 47, 48, 49, 50, 51, 52, 53, 54, 55, 56, 57, 58, 59, 60, 61, 62, 63, 64, 65, 66, 67, 68, 69, 70, 71, 72, 73, 74, 75, 76, 77, 78, 79, 80, 81, 82, 83, 84, 85, 86, 87, 88, 89] (by rfl)
  have hD := hD.sub (ws' := fw_ws 96 (fun i => (cn_ap 1 (fun _ => h0) (cn_ap 15 a2 (cn_ap 74 a4 (cn_ap 5 a6 (fun _ => q7))))) (([0, 1, 16, 17, 90, 93, 94, 91, 92, 95, 14, 15, 2, 3, 4, 5, 6, 7, 8, 9, 10, 11, 12, 13, 18, 19, 20, 21, 22, 23, 24, 25, 26, 27, 28, 29, 30, 31, 32, 33, 34, 35, 36, 37, 38, 39, 40, 41, 42, 43, 44, 45, 46, 47, 48, 49, 50, 51, 52, 53, 54, 55, 56, 57, 58, 59, 60, 61, 62, 63, 64, 65, 66, 67, 68, 69, 70, 71, 72, 73, 74, 75, 76, 77, 78, 79, 80, 81, 82, 83, 84, 85, 86, 87, 88, 89]).getD i 0)) (fw_C cI cO (fun i => (cn_ap 1 (fun _ => h0) (cn_ap 15 a2 (cn_ap 74 a4 (cn_ap 5 a6 (fun _ => q7))))) (([0, 1, 16, 17, 90, 93, 94, 91, 92, 95, 14, 15, 2, 3, 4, 5, 6, 7, 8, 9, 10, 11, 12, 13, 18, 19, 20, 21, 22, 23, 24, 25, 26, 27, 28, 29, 30, 31, 32, 33, 34, 35, 36, 37, 38, 39, 40, 41, 42, 43, 44, 45, 46, 47, 48, 49, 50, 51, 52, 53, 54, 55, 56, 57, 58, 59, 60, 61, 62, 63, 64, 65, 66, 67, 68, 69, 70, 71, 72, 73, 74, 75, 76, 77, 78, 79, 80, 81, 82, 83, 84, 85, 86, 87, 88, 89]).getD i 0)) fw_0)) [0, 1, 16, 17, 90, 93, 94, 91, 92, 95, 14, 15, 2, 3, 4, 5, 6, 7, 8, 9, 10, 11, 12, 13, 18, 19, 20, 21, 22, 23, 24, 25, 26, 27, 28, 29, 30, 31, 32, 33, 34, 35, 36, 37, 38, 39, 40, 41, 42, 43, 44, 45, 46, 47, 48, 49, 50, 51, 52, 53, 54, 55, 56, 57, 58, 59, 60, 61, 62, 63, 64, 65, 66, 67, 68, 69, 70, 71, 72, 73, 74, 75, 76, 77, 78, 79, 80, 81, 82, 83, 84, 85, 86, 87, 88, 89] (by decide) (by rfl)
  have hH : cn_H D A s _ _ ((fun a => fw_ws 96 a (fw_C cI cO a fw_0)) (fun i => (cn_ap 1 (fun _ => h0) (cn_ap 15 a2 (cn_ap 74 a4 (cn_ap 5 a6 (fun _ => q7))))) (([0, 1, 16, 17, 90, 93, 94, 91, 92, 95, 14, 15, 2, 3, 4, 5, 6, 7, 8, 9, 10, 11, 12, 13, 18, 19, 20, 21, 22, 23, 24, 25, 26, 27, 28, 29, 30, 31, 32, 33, 34, 35, 36, 37, 38, 39, 40, 41, 42, 43, 44, 45, 46, 47, 48, 49, 50, 51, 52, 53, 54, 55, 56, 57, 58, 59, 60, 61, 62, 63, 64, 65, 66, 67, 68, 69, 70, 71, 72, 73, 74, 75, 76, 77, 78, 79, 80, 81, 82, 83, 84, 85, 86, 87, 88, 89]).getD i 0))) := ⟨hP, hD, hH.2.2⟩
  exact cn_ret (fun i => (cn_ap 1 (fun _ => h0) (cn_ap 15 a2 (cn_ap 74 a4 (cn_ap 5 a6 (fun _ => q7))))) (([0, 1, 16, 17, 90, 93, 94, 91, 92, 95, 14, 15, 2, 3, 4, 5, 6, 7, 8, 9, 10, 11, 12, 13, 18, 19, 20, 21, 22, 23, 24, 25, 26, 27, 28, 29, 30, 31, 32, 33, 34, 35, 36, 37, 38, 39, 40, 41, 42, 43, 44, 45, 46, 47, 48, 49, 50, 51, 52, 53, 54, 55, 56, 57, 58, 59, 60, 61, 62, 63, 64, 65, 66, 67, 68, 69, 70, 71, 72, 73, 74, 75, 76, 77, 78, 79, 80, 81, 82, 83, 84, 85, 86, 87, 88, 89]).getD i 0)) X hH rfl dX7_init_66
abbrev rmX8_init : Room := { frames := 1, cells := 6, slots := 807, locals := 12 }
theorem iX8 : fw_QI yX8_init cX8_init 1 0 := ⟨⟨tw_3_199, tw_1_10, tw_3_200⟩, rfl, by decide +kernel⟩
set_option maxRecDepth 100000 in
set_option maxHeartbeats 4000000 in
theorem nX8_init (l : Launch) (D : va_G) (cI cO cB : ClassId) (h0 : Nat) : cn_C l yX8_init cX8_init 1 rmX8_init [] D (cn_T cI cO cB) nwC (h0, .inr (8, [.null, .null, .null, .int 0, .null, .int 0, .null, .int 0, .int 0, .null, .int 0, .int 0, .int 0, .long 0])) (fun a => fw_ws 7 a (fw_M cI cB a fw_m0)) 6 807 := by
  refine cn_start (by decide) (by simp [lg_sl, Value.category]) rfl rfl ?_
  intro p e s m below meth c A X hH ls hl
  have hx := X.1.1.1
  have hb := X.1.1.2.1
  have hl : lv_has ls 1 [(0, .ref h0)] := hl
  refine lv_aload_n hx hb dX8_init_0 rfl (lv_at hl 0 rfl) ?_
  refine cn_obj X hl.1 tw_3_201 tw_1_20 tw_1_21 (Nat.le_of_ble_eq_true rfl) (Nat.le_of_ble_eq_true rfl) dX8_init_1 ?_
  refine lv_aload_n hx hb dX8_init_4 rfl (lv_at hl 0 rfl) ?_
  refine lv_bipush (v := (52 : Int32)) hx hb dX8_init_5 (by decide) ?_
  refine cn_arr (N' := 52) X hH tw_1_55 rfl (by decide) (by decide) (Nat.le_of_ble_eq_true rfl) (Nat.le_of_ble_eq_true rfl) (Nat.le_of_ble_eq_true rfl) dX8_init_7 (fun q1 H hH => ?_)
  have hH : cn_H D A s _ _ ((h0, .inr (8, [.null, .null, .null, .int 0, .null, .int 0, .null, .int 0, .int 0, .null, .int 0, .int 0, .int 0, .long 0])) :: [(q1, .inl (cI, 52, .inl (fun _ => 0)))]) := hH
  refine cn_put (j := 0) (v := .ref q1) (ty := .array .int) X hH rfl inX8 tyX8 tyX8_ok nmX8 (by decide) (Nat.le_of_ble_eq_true rfl) rfl rfl (by decide +kernel) rfl rfl tw_3_202 dX8_init_9 (fun H locs hH => ?_)
  have hH : cn_H D A s _ _ ((h0, .inr (8, [.ref q1, .null, .null, .int 0, .null, .int 0, .null, .int 0, .int 0, .null, .int 0, .int 0, .int 0, .long 0])) :: [(q1, .inl (cI, 52, .inl (fun _ => 0)))]) := hH
  refine lv_aload_n hx hb dX8_init_12 rfl (lv_at hl 0 rfl) ?_
  refine lv_bipush (v := (52 : Int32)) hx hb dX8_init_13 (by decide) ?_
  refine cn_arr (N' := 52) X hH tw_1_55 rfl (by decide) (by decide) (Nat.le_of_ble_eq_true rfl) (Nat.le_of_ble_eq_true rfl) (Nat.le_of_ble_eq_true rfl) dX8_init_15 (fun q2 H hH => ?_)
  have hH : cn_H D A s _ _ ((h0, .inr (8, [.ref q1, .null, .null, .int 0, .null, .int 0, .null, .int 0, .int 0, .null, .int 0, .int 0, .int 0, .long 0])) :: ([(q1, .inl (cI, 52, .inl (fun _ => 0)))] ++ [(q2, .inl (cI, 52, .inl (fun _ => 0)))])) := hH
  refine cn_put (j := 1) (v := .ref q2) (ty := .array .int) X hH rfl inX8 tyX8 tyX8_ok nmX8 (by decide) (Nat.le_of_ble_eq_true rfl) rfl rfl (by decide +kernel) rfl rfl tw_3_203 dX8_init_17 (fun H locs hH => ?_)
  have hH : cn_H D A s _ _ ((h0, .inr (8, [.ref q1, .ref q2, .null, .int 0, .null, .int 0, .null, .int 0, .int 0, .null, .int 0, .int 0, .int 0, .long 0])) :: ([(q1, .inl (cI, 52, .inl (fun _ => 0)))] ++ [(q2, .inl (cI, 52, .inl (fun _ => 0)))])) := hH
  refine lv_aload_n hx hb dX8_init_20 rfl (lv_at hl 0 rfl) ?_
  refine lv_sipush (v := (260 : Int32)) hx hb dX8_init_21 (by decide) ?_
  refine cn_arr (N' := 260) X hH tw_1_55 rfl (by decide) (by decide) (Nat.le_of_ble_eq_true rfl) (Nat.le_of_ble_eq_true rfl) (Nat.le_of_ble_eq_true rfl) dX8_init_24 (fun q3 H hH => ?_)
  have hH : cn_H D A s _ _ ((h0, .inr (8, [.ref q1, .ref q2, .null, .int 0, .null, .int 0, .null, .int 0, .int 0, .null, .int 0, .int 0, .int 0, .long 0])) :: (([(q1, .inl (cI, 52, .inl (fun _ => 0)))] ++ [(q2, .inl (cI, 52, .inl (fun _ => 0)))]) ++ [(q3, .inl (cI, 260, .inl (fun _ => 0)))])) := hH
  refine cn_put (j := 2) (v := .ref q3) (ty := .array .int) X hH rfl inX8 tyX8 tyX8_ok nmX8 (by decide) (Nat.le_of_ble_eq_true rfl) rfl rfl (by decide +kernel) rfl rfl tw_3_204 dX8_init_26 (fun H locs hH => ?_)
  have hH : cn_H D A s _ _ ((h0, .inr (8, [.ref q1, .ref q2, .ref q3, .int 0, .null, .int 0, .null, .int 0, .int 0, .null, .int 0, .int 0, .int 0, .long 0])) :: (([(q1, .inl (cI, 52, .inl (fun _ => 0)))] ++ [(q2, .inl (cI, 52, .inl (fun _ => 0)))]) ++ [(q3, .inl (cI, 260, .inl (fun _ => 0)))])) := hH
  refine lv_aload_n hx hb dX8_init_29 rfl (lv_at hl 0 rfl) ?_
  refine lv_iconst (v := (3 : Int32)) hx hb dX8_init_30 (by decide) ?_
  refine cn_arr (N' := 3) X hH tw_1_55 rfl (by decide) (by decide) (Nat.le_of_ble_eq_true rfl) (Nat.le_of_ble_eq_true rfl) (Nat.le_of_ble_eq_true rfl) dX8_init_31 (fun q4 H hH => ?_)
  have hH : cn_H D A s _ _ ((h0, .inr (8, [.ref q1, .ref q2, .ref q3, .int 0, .null, .int 0, .null, .int 0, .int 0, .null, .int 0, .int 0, .int 0, .long 0])) :: ((([(q1, .inl (cI, 52, .inl (fun _ => 0)))] ++ [(q2, .inl (cI, 52, .inl (fun _ => 0)))]) ++ [(q3, .inl (cI, 260, .inl (fun _ => 0)))]) ++ [(q4, .inl (cI, 3, .inl (fun _ => 0)))])) := hH
  refine cn_put (j := 4) (v := .ref q4) (ty := .array .int) X hH rfl inX8 tyX8 tyX8_ok nmX8 (by decide) (Nat.le_of_ble_eq_true rfl) rfl rfl (by decide +kernel) rfl rfl tw_3_206 dX8_init_33 (fun H locs hH => ?_)
  have hH : cn_H D A s _ _ ((h0, .inr (8, [.ref q1, .ref q2, .ref q3, .int 0, .ref q4, .int 0, .null, .int 0, .int 0, .null, .int 0, .int 0, .int 0, .long 0])) :: ((([(q1, .inl (cI, 52, .inl (fun _ => 0)))] ++ [(q2, .inl (cI, 52, .inl (fun _ => 0)))]) ++ [(q3, .inl (cI, 260, .inl (fun _ => 0)))]) ++ [(q4, .inl (cI, 3, .inl (fun _ => 0)))])) := hH
  refine lv_aload_n hx hb dX8_init_36 rfl (lv_at hl 0 rfl) ?_
  refine lv_bipush (v := (120 : Int32)) hx hb dX8_init_37 (by decide) ?_
  refine cn_arb (N' := 120) X hH tw_4_5 rfl (by decide) (by decide) (Nat.le_of_ble_eq_true rfl) (Nat.le_of_ble_eq_true rfl) (Nat.le_of_ble_eq_true rfl) dX8_init_39 (fun q5 H hH => ?_)
  have hH : cn_H D A s _ _ ((h0, .inr (8, [.ref q1, .ref q2, .ref q3, .int 0, .ref q4, .int 0, .null, .int 0, .int 0, .null, .int 0, .int 0, .int 0, .long 0])) :: (((([(q1, .inl (cI, 52, .inl (fun _ => 0)))] ++ [(q2, .inl (cI, 52, .inl (fun _ => 0)))]) ++ [(q3, .inl (cI, 260, .inl (fun _ => 0)))]) ++ [(q4, .inl (cI, 3, .inl (fun _ => 0)))]) ++ [(q5, .inl (cB, 120, .inl (fun _ => 0)))])) := hH
  refine cn_put (j := 6) (v := .ref q5) (ty := .array .byte) X hH rfl inX8 tyX8 tyX8_ok nmX8 (by decide) (Nat.le_of_ble_eq_true rfl) rfl rfl (by decide +kernel) rfl rfl tw_3_208 dX8_init_41 (fun H locs hH => ?_)
  have hH : cn_H D A s _ _ ((h0, .inr (8, [.ref q1, .ref q2, .ref q3, .int 0, .ref q4, .int 0, .ref q5, .int 0, .int 0, .null, .int 0, .int 0, .int 0, .long 0])) :: (((([(q1, .inl (cI, 52, .inl (fun _ => 0)))] ++ [(q2, .inl (cI, 52, .inl (fun _ => 0)))]) ++ [(q3, .inl (cI, 260, .inl (fun _ => 0)))]) ++ [(q4, .inl (cI, 3, .inl (fun _ => 0)))]) ++ [(q5, .inl (cB, 120, .inl (fun _ => 0)))])) := hH
  refine lv_aload_n hx hb dX8_init_44 rfl (lv_at hl 0 rfl) ?_
  refine lv_sipush (v := (320 : Int32)) hx hb dX8_init_45 (by decide) ?_
  refine cn_arr (N' := 320) X hH tw_1_55 rfl (by decide) (by decide) (Nat.le_of_ble_eq_true rfl) (Nat.le_of_ble_eq_true rfl) (Nat.le_of_ble_eq_true rfl) dX8_init_48 (fun q6 H hH => ?_)
  have hH : cn_H D A s _ _ ((h0, .inr (8, [.ref q1, .ref q2, .ref q3, .int 0, .ref q4, .int 0, .ref q5, .int 0, .int 0, .null, .int 0, .int 0, .int 0, .long 0])) :: ((((([(q1, .inl (cI, 52, .inl (fun _ => 0)))] ++ [(q2, .inl (cI, 52, .inl (fun _ => 0)))]) ++ [(q3, .inl (cI, 260, .inl (fun _ => 0)))]) ++ [(q4, .inl (cI, 3, .inl (fun _ => 0)))]) ++ [(q5, .inl (cB, 120, .inl (fun _ => 0)))]) ++ [(q6, .inl (cI, 320, .inl (fun _ => 0)))])) := hH
  refine cn_put (j := 9) (v := .ref q6) (ty := .array .int) X hH rfl inX8 tyX8 tyX8_ok nmX8 (by decide) (Nat.le_of_ble_eq_true rfl) rfl rfl (by decide +kernel) rfl rfl tw_3_211 dX8_init_50 (fun H locs hH => ?_)
  have hH : cn_H D A s _ _ ((h0, .inr (8, [.ref q1, .ref q2, .ref q3, .int 0, .ref q4, .int 0, .ref q5, .int 0, .int 0, .ref q6, .int 0, .int 0, .int 0, .long 0])) :: ((((([(q1, .inl (cI, 52, .inl (fun _ => 0)))] ++ [(q2, .inl (cI, 52, .inl (fun _ => 0)))]) ++ [(q3, .inl (cI, 260, .inl (fun _ => 0)))]) ++ [(q4, .inl (cI, 3, .inl (fun _ => 0)))]) ++ [(q5, .inl (cB, 120, .inl (fun _ => 0)))]) ++ [(q6, .inl (cI, 320, .inl (fun _ => 0)))])) := hH
  have hH : cn_H D A s _ _ ((fun a => fw_ws 7 a (fw_M cI cB a fw_m0)) (cn_ap 1 (fun _ => h0) (cn_ap 1 (fun _ => q1) (cn_ap 1 (fun _ => q2) (cn_ap 1 (fun _ => q3) (cn_ap 1 (fun _ => q4) (cn_ap 1 (fun _ => q5) (fun _ => q6)))))))) := hH
  exact cn_ret (cn_ap 1 (fun _ => h0) (cn_ap 1 (fun _ => q1) (cn_ap 1 (fun _ => q2) (cn_ap 1 (fun _ => q3) (cn_ap 1 (fun _ => q4) (cn_ap 1 (fun _ => q5) (fun _ => q6))))))) X hH rfl dX8_init_53
end
