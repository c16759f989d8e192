set_option maxRecDepth 100000 in
set_option maxHeartbeats 4000000 in
theorem lw_begin {p : Program} {e : Env} {s : State} {m : MethodId} {below : List Frame} {meth : Method} {c : Code} (l : Launch) {b L : Nat} {xs : Nat → Int32} (hL : L ≤ 2560) {Rel : fw_T → fw_T → Prop} (hs : lw_SIM Rel) (h0 : Rel fw_0 fw_m0) (C0 : lw_At p s m meth c b L xs) : W p l e room_1 s m #[Value.ref b] below meth c s.heap [] 0 0 (lw_Z below #[Value.ref b] s) (entryFrame m ([Value.ref b] : List Value).toArray 4) := by
  obtain ⟨hx, hb, hr, hml, hown, hts0, hX, hbl, hlocks, hgv⟩ := id C0
  have hts : ∀ w ∈ lwT, w.before #[Value.ref b] s = true := fun w h => hts0 w (tw_out h).1
  have hown : s.vm.findClass RL = some m.cls := hown
  have hA : ∀ q : Nat, s.heap.size ≤ q → (fun q : Nat => s.heap.size ≤ q) q := fun _ h => h
  obtain ⟨c0, iS0, hKn0⟩ := u_known (C := RX0) (T := TX0) (N := 5) (n := 5) hts inX0 (hts (.instantiable RX0 5) tw_1_57)
  obtain ⟨c1, iS1, hKn1⟩ := u_known (C := RX1) (T := TX1) (N := 3) (n := 3) hts inX1 (hts (.instantiable RX1 3) tw_1_118)
  obtain ⟨c2, iS2, hKn2⟩ := u_known (C := RX2) (T := TX2) (N := 3) (n := 3) hts inX2 (hts (.instantiable RX2 3) tw_1_35)
  obtain ⟨c3, iS3, hKn3⟩ := u_known (C := RX3) (T := TX3) (N := 3) (n := 3) hts inX3 (hts (.instantiable RX3 3) tw_1_23)
  obtain ⟨c4, iS4, hKn4⟩ := u_known (C := RX4) (T := TX4) (N := 5) (n := 5) hts inX4 (hts (.instantiable RX4 5) tw_1_138)
  obtain ⟨c5, iS5, hKn5⟩ := u_known (C := RX5) (T := TX5) (N := 4) (n := 4) hts inX5 (hts (.instantiable RX5 4) tw_1_29)
  obtain ⟨c6, iS6, hKn6⟩ := u_known (C := RX6) (T := TX6) (N := 2) (n := 2) hts inX6 (hts (.instantiable RX6 2) tw_1_144)
  obtain ⟨c7, iS7, hKn7⟩ := u_known (C := RX7) (T := TX7) (N := 6) (n := 6) hts inX7 (hts (.instantiable RX7 6) tw_1_15)
  obtain ⟨c8, iS8, hKn8⟩ := u_known (C := RX8) (T := TX8) (N := 14) (n := 14) hts inX8 (hts (.instantiable RX8 14) tw_3_197)
  obtain ⟨dC, dI, hKc⟩ : ∃ (dC : Nat → ClassId) (dI : Nat → Nat → Nat), ∀ (k : Nat) (q : vw_C), vwCl[k]? = some q → u_Kn s q.1 q.2.1 q.2.2 (dC k) (dI k) := by
    refine ⟨fun k => if k = 0 then c0 else if k = 1 then c1 else if k = 2 then c2 else if k = 3 then c3 else if k = 4 then c4 else if k = 5 then c5 else if k = 6 then c6 else if k = 7 then c7 else c8, fun k => if k = 0 then iS0 else if k = 1 then iS1 else if k = 2 then iS2 else if k = 3 then iS3 else if k = 4 then iS4 else if k = 5 then iS5 else if k = 6 then iS6 else if k = 7 then iS7 else iS8, ?_⟩
    intro k q hq
    match k, hq with
    | 0, hq => cases hq; exact hKn0
    | 1, hq => cases hq; exact hKn1
    | 2, hq => cases hq; exact hKn2
    | 3, hq => cases hq; exact hKn3
    | 4, hq => cases hq; exact hKn4
    | 5, hq => cases hq; exact hKn5
    | 6, hq => cases hq; exact hKn6
    | 7, hq => cases hq; exact hKn7
    | 8, hq => cases hq; exact hKn8
    | k + 9, hq => simp [vwCl] at hq
  obtain ⟨cI, kI, compI, fI, gI, eI⟩ := Cond.arrayClass_spec (hts (.arrayClass .int) tw_1_55)
  obtain ⟨cB, kB, compB, fB, gB, eB⟩ := Cond.arrayClass_spec (hts (.arrayClass .byte) tw_4_5)
  have hAO : va_AO "WhyNotJoin$State" s := va_AO.of (hts0 (.arrayOver (.object "WhyNotJoin$State")) (tw_c1 (List.mem_of_getElem? (i := 124) rfl)))
  obtain ⟨compO, cO, kO, o1, o2, o3, o4, o5⟩ := Cond.arrayOver_spec hAO
  have hK : va_K (dC, dI) vwCl (cn_T cI cO cB) s := by
    refine ⟨hKc, fun k q hq => ?_⟩
    match k, hq with
    | 0, hq => cases hq; exact ⟨fun n z => ⟨fun k h => (by cases h), kI, gI, compI, eI⟩, fI⟩
    | 1, hq => cases hq; exact ⟨fun n z => ⟨fun k h => (by cases h), kO, o3, compO, o4⟩, kO, compO, o3, o4, o1, o5⟩
    | 2, hq => cases hq; exact ⟨fun n z => ⟨fun k h => (by cases h), kB, gB, compB, eB⟩, fB⟩
    | k + 3, hq => simp [cn_T] at hq
  have hN : ∀ w ∈ nwC, fw_nest w = true ∧ va_Nw w s := fun w hw => ⟨(by decide +kernel : ∀ w ∈ nwC, fw_nest w = true) w hw, va_Nw.of (fw_nt ((by decide +kernel : ∀ w ∈ nwC, fw_nest w = true) w hw)) (hts0 w (nwC_in w hw))⟩
  have hF : CallFix p m c code 4 s #[Value.ref b] lwT RL := ⟨hx, hb, hml, hown, hts⟩
  have hS : va_S (fun q : Nat => s.heap.size ≤ q) s.heap s.heap [] := va_S.rf
  have hP : va_P (dC, dI) vwCl [] s.heap := fun k q h => by simp at h
  have hD : va_D (fun q : Nat => s.heap.size ≤ q) [] := ⟨fun i j p q h => by simp at h, fun k q h => by simp at h⟩
  have hl := lv_entry ([.ref b]) (n := 4) (Nat.le_of_ble_eq_true rfl)
  rw [lg_entry_eq]
  generalize (lg_sl ([.ref b]) ++ List.replicate (4 - (lg_sl ([.ref b])).length) Slot.unset).toArray = ls at hl ⊢
  have hl : lv_has ls 4 [(0, .ref b)] := hl
  refine va_new (ci := 7) (fs := [.null, .null, .null, .null, .null, .null]) (C := RX7) (T := TX7) (N := 6) hx hb hts inX7 tyX7 tyX7_ok hown (hts _ tw_1_14) (hts _ tw_1_15) (hts _ tw_1_1) hK hP hD hS hA rfl (fun j hj => by rcases (show j = 0 ∨ j = 1 ∨ j = 2 ∨ j = 3 ∨ j = 4 ∨ j = 5 by omega) with rfl | rfl | rfl | rfl | rfl | rfl <;> rfl) (Nat.le_of_ble_eq_true rfl) (Nat.le_of_ble_eq_true rfl) dL_law_0 (fun qX7 H hP hD hS => ?_)
  refine lv_dup hx hb dL_law_3 rfl ?_
  have hP : va_P (dC, dI) vwCl ([] ++ [(qX7, .inr (7, [.null, .null, .null, .null, .null, .null]))]) H := hP
  have hD : va_D (fun q : Nat => s.heap.size ≤ q) ([] ++ [(qX7, .inr (7, [.null, .null, .null, .null, .null, .null]))]) := hD
  refine cn_after (As := []) (rest := [.ref qX7]) ⟨hP, hD, hS, hA⟩ (va_runI hF (nX7_init l (dC, dI) cI cO cB qX7 H.size) (cwI 0 hts (fw_gC iX7.1.2.2) rfl rfl rfl (hts _ iX7.1.2.1) (hts _ tw_1_16) (hts _ iX7.1.1) iX7.2.1 iX7.2.2 ⟨Nat.le_of_ble_eq_true rfl, Nat.le_of_ble_eq_true rfl⟩) ⟨cn_blind, cn_pre hK hN hAO hP hD _⟩ rfl rfl hl.1 rfl (lv_room (Nat.le_of_ble_eq_true rfl)) dL_law_4 ⟨Nat.le_of_ble_eq_true rfl, Nat.le_of_ble_eq_true rfl⟩) (fun aX7 H locs haX7 hG => ?_)
  have haX7 : aX7 0 = qX7 := haX7
  clear hP hD hS
  subst haX7
  have hP : va_P (dC, dI) vwCl (fw_ws 96 aX7 (fw_C cI cO aX7 fw_0)) H := hG.1
  have hD : va_D (fun q : Nat => s.heap.size ≤ q) (fw_ws 96 aX7 (fw_C cI cO aX7 fw_0)) := hG.2.1
  have hS := hG.2.2.1
  refine lv_astore_n (lv' := [(1, .ref (aX7 0)), (0, .ref b)]) hx hb dL_law_7 rfl hl (by decide) rfl (fun ls hl => ?_)
  refine va_new (ci := 8) (fs := [.null, .null, .null, .int 0, .null, .int 0, .null, .int 0, .int 0, .null, .int 0, .int 0, .int 0, .long 0]) (C := RX8) (T := TX8) (N := 14) hx hb hts inX8 tyX8 tyX8_ok hown (hts _ tw_3_196) (hts _ tw_3_197) (hts _ tw_1_10) hK hP hD hS hA rfl (fun j hj => by rcases (show j = 0 ∨ j = 1 ∨ j = 2 ∨ j = 3 ∨ j = 4 ∨ j = 5 ∨ j = 6 ∨ j = 7 ∨ j = 8 ∨ j = 9 ∨ j = 10 ∨ j = 11 ∨ j = 12 ∨ j = 13 by omega) with rfl | rfl | rfl | rfl | rfl | rfl | rfl | rfl | rfl | rfl | rfl | rfl | rfl | rfl <;> rfl) (Nat.le_of_ble_eq_true rfl) (Nat.le_of_ble_eq_true rfl) dL_law_8 (fun qX8 H hP hD hS => ?_)
  refine lv_dup hx hb dL_law_11 rfl ?_
  have hP : va_P (dC, dI) vwCl (fw_ws 96 aX7 (fw_C cI cO aX7 fw_0) ++ [(qX8, .inr (8, [.null, .null, .null, .int 0, .null, .int 0, .null, .int 0, .int 0, .null, .int 0, .int 0, .int 0, .long 0]))]) H := hP
  have hD : va_D (fun q : Nat => s.heap.size ≤ q) (fw_ws 96 aX7 (fw_C cI cO aX7 fw_0) ++ [(qX8, .inr (8, [.null, .null, .null, .int 0, .null, .int 0, .null, .int 0, .int 0, .null, .int 0, .int 0, .int 0, .long 0]))]) := hD
  refine cn_after (As := []) (rest := [.ref qX8]) ⟨hP, hD, hS, hA⟩ (va_runI hF (nX8_init l (dC, dI) cI cO cB qX8 H.size) (cwI 0 hts (fw_gC iX8.1.2.2) rfl rfl rfl (hts _ iX8.1.2.1) (hts _ tw_3_198) (hts _ iX8.1.1) iX8.2.1 iX8.2.2 ⟨Nat.le_of_ble_eq_true rfl, Nat.le_of_ble_eq_true rfl⟩) ⟨cn_blind, cn_pre hK hN hAO hP hD _⟩ rfl rfl hl.1 rfl (lv_room (Nat.le_of_ble_eq_true rfl)) dL_law_12 ⟨Nat.le_of_ble_eq_true rfl, Nat.le_of_ble_eq_true rfl⟩) (fun aX8 H locs haX8 hG => ?_)
  have haX8 : aX8 0 = qX8 := haX8
  clear hP hD hS
  subst haX8
  have hI : lw_I (dC, dI) cI cO cB aX7 aX8 s H locs fw_0 fw_m0 := ⟨lw_Pl hG.1, lw_Pr hG.1, hG.2.1, hG.2.2.1⟩
  refine lv_astore_n (lv' := [(2, .ref (aX8 0)), (1, .ref (aX7 0)), (0, .ref b)]) hx hb dL_law_15 rfl hl (by decide) rfl (fun ls hl => ?_)
  refine lv_iconst (v := (0 : Int32)) hx hb dL_law_16 (by decide) ?_
  refine lv_istore_n (lv' := [(3, .int (0 : Int32)), (2, .ref (aX8 0)), (1, .ref (aX7 0)), (0, .ref b)]) hx hb dL_law_17 rfl hl (by decide) rfl (fun ls hl => ?_)
  exact law_loop hL ⟨⟨hF, hK.sub [0, 1] rfl, hN, hr, hlocks⟩, ⟨hF, hK.sub [0, 2] rfl, fun w h => absurd h List.not_mem_nil, hr, hlocks⟩, hX, hbl⟩ hr hlocks hs (L + 1) 0 (Nat.zero_le _) (by omega) fw_0 fw_m0 h0 H locs ls hI (lv_sub hl [3, 2, 1, 0] rfl)
