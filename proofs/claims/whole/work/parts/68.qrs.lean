/-! ===== the questions ===== -/
theorem isE_no : isE (-10001) = false := by decide
theorem isE_bv {n : Nat} (h : n ≤ 10) : isE (bv n) = false := by
  unfold bv
  split
  · exact isE_no
  · exact isE_nI (by omega)
theorem isE_rv {n : Nat} (h : n ≤ 64) : isE (rv n) = false := by
  unfold rv
  split
  · exact isE_no
  · exact isE_nI (by omega)
theorem isE_kth (q : Nat → Bool) (j : Nat) : isE (kth q j) = false := by
  unfold kth
  split
  · rename_i p hp
    have := List.mem_of_find?_eq_some hp
    simp at this
    exact isE_nI (by omega)
  · exact isE_no
theorem isE_fcz {S : St} (hS : OKS S) (a c : Nat) : isE (fcz S a c) = false := by
  have hs := hS.2.2.1.1
  unfold fcz
  split
  · decide
  · split
    · rename_i f hf
      have := efx_lt hf
      exact isE_nI (by omega)
    · split
      · decide
      · split
        · rename_i f hf
          have := efx_lt hf
          exact isE_nI (by omega)
        · split
          · decide
          · split
            · rename_i f hf
              have := efx_lt hf
              exact isE_nI (by omega)
            · decide
theorem br_le {S : St} (hS : OKS S) (a c : Nat) : br S a c 10 ≤ 64 := by
  have h2 := two_le hS.2.2.1.1
  rcases br_min S a c hS.2.2.1.1 with ⟨h1, -⟩ | ⟨h1, -, -⟩ <;> omega
theorem bb_le (S : St) (a c : Nat) : (bb S a c 10).1 ≤ 10 ∧ (bb S a c 10).2 ≤ 3 := by
  rcases bb_ok S a c 10 (Nat.le_refl _) with ⟨h1, h2⟩ | ⟨h1, h2, -⟩
  · omega
  · have := cst_le S a (bb S a c 10).1 c
    omega
theorem isE_mR (S : St) (a c : Nat) : isE (mR S a c) = false := by
  have := bb_le S a c
  unfold mR
  split
  · exact isE_no
  · exact isE_nI (by omega)
theorem isE_mB (S : St) (a c : Nat) : isE (mB S a c) = false := by
  have := bb_le S a c
  unfold mB
  split
  · exact isE_no
  · exact isE_nI (by omega)
theorem sim_eq {σ τ τ' : fw_T} {S : St} (hS : OKS S) (hC : CS σ 12 S) (hM : MS τ 1 0 S) (hR : rRR σ τ) (h1 : ∀ j, j ≠ 0 → fw_g τ' j = fw_g τ j) (h2 : ∀ k, k ≠ 8 → fw_g τ' 0 k = fw_g τ 0 k) : sim_Rel σ τ' := sim_scr ⟨S, hS, hC, hM, hR⟩ (fun _ _ _ _ _ _ => rfl) (fun j hj => h1 j (by omega)) (fun k hk => h2 k (by omega))
/-- a question of two digits -/
theorem sim_pair {F G : Int32 → Int32 → fw_T → Option (Int32 × fw_T)} (h : ∀ S a c, OKS S → a < 10 → c < 10 → ∃ r, isE r = false ∧ (∀ σ, CS σ 12 S → F (nI a) (nI c) σ = some (r, σ)) ∧ (∀ τ, MS τ 1 0 S → ∃ τ', G (nI a) (nI c) τ = some (r, τ') ∧ (∀ j, j ≠ 0 → fw_g τ' j = fw_g τ j) ∧ ∀ k, k ≠ 8 → fw_g τ' 0 k = fw_g τ 0 k)) (x y : Int32) {σ τ : fw_T} (hr : sim_Rel σ τ) : ∃ r σ' τ',
    (fw_b2 (pX7_isPair x y σ) fun w3 τ2 => if w3 = 0 then fw_b2 (pX7_report (-10002 : Int32) τ2) fun w6 τ5 => some (w6, τ5) else fw_b2 (F x y τ2) fun w9 τ8 => fw_b2 (pX7_report w9 τ8) fun w12 τ11 => some (w12, τ11)) = some (r, σ') ∧
    (fw_b2 (pX8_isDigitPair x y τ) fun w3 τ2 => if w3 = 0 then fw_b2 (pX8_fail (-10002 : Int32) τ2) fun w6 τ5 => some (w6, τ5) else fw_b2 (G x y τ2) fun w9 τ8 => some (w9, τ8)) = some (r, τ') ∧ sim_Rel σ' τ' := by
  obtain ⟨S, hS, hC, hM, hR⟩ := hr
  rw [c_isPair, sb2, ifb, m_isDigitPair, sb2, ifb]
  cases hv : (isV x && isV y) with
  | false =>
    obtain ⟨σ', τ', q1, q2, q3⟩ := sim_fail hS hC hM hR (r := -10002) (by decide)
    refine ⟨-10002, σ', τ', ?_, ?_, q3⟩
    · rw [if_neg (by decide), b2_id, q1]
    · rw [if_neg (by decide), b2_id, q2]
  | true =>
    rw [Bool.and_eq_true] at hv
    obtain ⟨a, ha, rfl⟩ := isV_of hv.1
    obtain ⟨c, hc10, rfl⟩ := isV_of hv.2
    obtain ⟨r, h1, h2, h3⟩ := h S a c hS ha hc10
    obtain ⟨τ', h4, h5, h6⟩ := h3 τ hM
    refine ⟨r, σ, τ', ?_, ?_, sim_eq hS hC hM hR h5 h6⟩
    · rw [if_pos rfl, h2 σ hC, sb2, b2_id, c_report0 h1]
    · rw [if_pos rfl, h4, sb2]
theorem sim_matchCount : sm2 sim_Rel pX7_matchCount pX8_matchCount := fun x y σ τ h => sim_pair (F := pX3_countMatches) (G := fun x y => pX8_matches x y 0) (fun S a c hS ha hc => ⟨nI (MC S 0 a c), isE_nI (by have := MC_le S 0 a c; omega), fun σ hC => c_countMatches hC hS ha hc, fun τ hM => ⟨τ, m_matches (w := 0) hM hS ha hc (by omega), fun _ _ => rfl, fun _ _ => rfl⟩⟩) x y h
theorem sim_blame : sm2 sim_Rel pX7_blame pX8_blame := fun x y σ τ h => sim_pair (F := pX3_firstCause) (G := pX8_cause) (fun S a c hS ha hc => ⟨fcz S a c, isE_fcz hS a c, fun σ hC => c_firstCause hC hS ha hc, fun τ hM => by
  obtain ⟨m, e⟩ := m_cause hM hS ha hc
  exact ⟨rmn τ m, e, fun j hj => fw_gn _ hj, fun k hk => fw_uo _ _ _ _ _ hk⟩⟩) x y h
theorem sim_filtersToRemove : sm2 sim_Rel pX7_filtersToRemove pX8_filtersToRemove := fun x y σ τ h => sim_pair (F := pX3_smallestRemoval) (G := pX8_removal) (fun S a c hS ha hc => ⟨rv (br S a c 10), isE_rv (br_le hS a c), fun σ hC => c_smallestRemoval hC hS ha hc, fun τ hM => ⟨τ, m_removal hM hS ha hc, fun _ _ => rfl, fun _ _ => rfl⟩⟩) x y h
theorem sim_missingRows : sm2 sim_Rel pX7_missingRows pX8_missingRows := fun x y σ τ h => sim_pair (F := pX3_lowestCost) (G := pX8_missing) (fun S a c hS ha hc => ⟨mR S a c, isE_mR S a c, fun σ hC => c_lowestCost hC hS ha hc, fun τ hM => ⟨τ, m_missing hM hS ha hc, fun _ _ => rfl, fun _ _ => rfl⟩⟩) x y h
theorem sim_missingB : sm2 sim_Rel pX7_missingB pX8_missingB := fun x y σ τ h => sim_pair (F := pX3_bToInsert) (G := pX8_missingAt) (fun S a c hS ha hc => ⟨mB S a c, isE_mB S a c, fun σ hC => c_bToInsert hC hS ha hc, fun τ hM => ⟨τ, m_missingAt hM hS ha hc, fun _ _ => rfl, fun _ _ => rfl⟩⟩) x y h
theorem sim_repaired : sm3 sim_Rel pX7_repairedConstant pX8_repairedConstant := by
  intro x y z σ τ hr
  obtain ⟨S, hS, hC, hM, hR⟩ := hr
  have hs := hS.2.2.1.1
  unfold pX7_repairedConstant pX8_repairedConstant
  rw [c_isPair, sb2, ifb, m_isDigitPair, sb2, ifb]
  cases hv : (isV x && isV y) with
  | false =>
    obtain ⟨σ', τ', q1, q2, q3⟩ := sim_fail hS hC hM hR (r := -10002) (by decide)
    refine ⟨-10002, σ', τ', ?_, ?_, q3⟩
    · rw [if_neg (by decide), b2_id, q1]
    · rw [if_neg (by decide), b2_id, q2]
  | true =>
    rw [Bool.and_eq_true] at hv
    obtain ⟨a, ha, rfl⟩ := isV_of hv.1
    obtain ⟨c, hc10, rfl⟩ := isV_of hv.2
    rw [if_pos rfl, if_pos rfl, m_isFilter hM.2.2.1.1 hs, sb2]
    by_cases hx : ∃ i, i < S.2.2.1.1 ∧ z = nI i
    · obtain ⟨i, hi, rfl⟩ := id hx
      obtain ⟨t, ht, hk⟩ := kOK_vI (hS.2.2.1.2 i hi).2.2.2
      have e4 := (hM.2.2.1.2 i hi).2.2.2
      have e4' : fw_g τ 1 (23 + 4 * i + 3) = vI t := by rw [← hk, ← e4]
      refine ⟨vv (rpu S i a c t 28), σ, τ, ?_, ?_, S, hS, hC, hM, hR⟩
      · rw [c_fholds hC.2.2.1 hs hi, sb2, if_neg (by decide), b2_id, c_nearest hC hS hi ha hc10 ht hk]
      · rw [decide_eq_true hx, bIt, if_neg (by decide), show (23 : Int32) = nI 23 from rfl, show (4 : Int32) = nI 4 from rfl, show (3 : Int32) = nI 3 from rfl, mulI, nI_add, nI_add, rdI (by omega) (by omega), sbd, e4', show 23 + 4 * i + 3 = 26 + 4 * i by omega, m_repaired hM hS hi ha hc10 ht hk]
    · obtain ⟨σ', τ', q1, q2, q3⟩ := sim_fail hS hC hM hR (r := -10002) (by decide)
      refine ⟨-10002, σ', τ', ?_, ?_, q3⟩
      · rw [c_fholds_bad hC.2.2.1 hs (fun i hi he => hx ⟨i, hi, he⟩), sb2, if_pos rfl, b2_id, q1]
      · rw [decide_eq_false hx, bIf, if_pos rfl, b2_id, q2]
theorem sim_acceptedBy : sm1 sim_Rel pX7_acceptedBy pX8_acceptedBy := by
  intro z σ τ hr
  obtain ⟨S, hS, hC, hM, hR⟩ := hr
  have hs := hS.2.2.1.1
  unfold pX7_acceptedBy pX8_acceptedBy
  rw [m_isFilter hM.2.2.1.1 hs, sb2]
  by_cases hx : ∃ i, i < S.2.2.1.1 ∧ z = nI i
  · obtain ⟨i, hi, rfl⟩ := id hx
    refine ⟨nI (AB S i), σ, τ, ?_, ?_, S, hS, hC, hM, hR⟩
    · rw [c_fholds hC.2.2.1 hs hi, sb2, if_neg (by decide), b2_id, c_countAccepted hC hS hi]
    · rw [decide_eq_true hx, bIt, if_neg (by decide), b2_id, m_accepted hM hS hi]
  · obtain ⟨σ', τ', q1, q2, q3⟩ := sim_fail hS hC hM hR (r := -10002) (by decide)
    refine ⟨-10002, σ', τ', ?_, ?_, q3⟩
    · rw [c_fholds_bad hC.2.2.1 hs (fun i hi he => hx ⟨i, hi, he⟩), sb2, if_pos rfl, b2_id, q1]
    · rw [decide_eq_false hx, bIf, if_pos rfl, b2_id, q2]
theorem sim_constant : sm1 sim_Rel pX7_constant pX8_constant := by
  intro z σ τ hr
  obtain ⟨S, hS, hC, hM, hR⟩ := hr
  have hs := hS.2.2.1.1
  unfold pX7_constant pX8_constant pX0_constantAt
  rw [m_isFilter hM.2.2.1.1 hs, sb2]
  by_cases hx : ∃ i, i < S.2.2.1.1 ∧ z = nI i
  · obtain ⟨i, hi, rfl⟩ := id hx
    obtain ⟨t, ht, hk⟩ := kOK_vI (hS.2.2.1.2 i hi).2.2.2
    have e4 := (hM.2.2.1.2 i hi).2.2.2
    have e5 := (hC.2.2.1.2 i hi).2.2.2
    have e4' : fw_g τ 1 (23 + 4 * i + 3) = vI t := by rw [← hk, ← e4]
    refine ⟨vI t, σ, τ, ?_, ?_, S, hS, hC, hM, hR⟩
    · rw [c_fholds hC.2.2.1 hs hi, sb2, if_neg (by decide), rdI (by omega) (by omega), sbd, sb2, e5, hk, c_report0 (isE_vI t ht), sb2]
    · rw [decide_eq_true hx, bIt, if_neg (by decide), show (3 : Int32) = nI 3 from rfl, m_of (by omega) (by omega), sb2, e4']
  · obtain ⟨σ', τ', q1, q2, q3⟩ := sim_fail hS hC hM hR (r := -10002) (by decide)
    refine ⟨-10002, σ', τ', ?_, ?_, q3⟩
    · rw [c_fholds_bad hC.2.2.1 hs (fun i hi he => hx ⟨i, hi, he⟩), sb2, if_pos rfl, sb2, q1, sb2]
    · rw [decide_eq_false hx, bIf, if_pos rfl, b2_id, q2]
theorem sim_filterCount : sm0 sim_Rel pX7_filterCount pX8_filterCount := by
  intro σ τ hr
  obtain ⟨S, hS, hC, hM, hR⟩ := hr
  have e1 : fw_g σ 17 4 = nI S.2.2.1.1 := hC.2.2.1.1
  have e2 : fw_g τ 1 22 = nI S.2.2.1.1 := hM.2.2.1.1
  refine ⟨nI S.2.2.1.1, σ, τ, ?_, ?_, S, hS, hC, hM, hR⟩
  · unfold pX7_filterCount; rw [e1]
  · unfold pX8_filterCount; rw [show (22 : Int32) = nI 22 from rfl, rdI (by omega) (by omega), sbd, e2]
theorem nI_neg {x : Int32} (h : ¬ (0 : Int32) ≤ x) : ∀ i, i < 2 ^ 31 → x ≠ nI i := by
  rintro i hi rfl
  exact h (nI_pos' hi)
theorem sim_rowAt {h k : Nat} {S : St} {t : Tb} {σ τ : fw_T} (hS : OKS S) (hC : CS σ 12 S) (hM : MS τ 1 0 S) (hR : rRR σ τ) (hp : PC σ h t) (hq : PM τ 1 k t) (ht : TOK 10 t) (hk : k ≤ 11) (x : Int32) : ∃ r σ' τ', (fw_b2 (pX2_pairAt h x σ) fun w3 τ2 => fw_b2 (pX7_report w3 τ2) fun w6 τ5 => some (w6, τ5)) = some (r, σ') ∧ (fw_b2 (pX8_rowAt (nI k) x τ) fun w3 τ2 => some (w3, τ2)) = some (r, τ') ∧ sim_Rel σ' τ' := by
  have hts := ht.1
  unfold pX2_pairAt pX8_rowAt
  by_cases h0 : (0 : Int32) ≤ x
  · obtain ⟨j, hj, rfl⟩ := nI_of (nlt.mpr h0)
    rw [if_pos h0, if_pos h0, hp.1, rdI (id := 1) (n := 52) (i := k) (by omega) (by omega), sbd, hq.1]
    by_cases hc : t.1 ≤ j
    · refine ⟨-10001, σ, τ, ?_, ?_, S, hS, hC, hM, hR⟩
      · rw [if_pos (by rw [nI_leI (by omega) hj]; exact hc), sb2, c_report0 isE_no, sb2]
      · rw [if_pos (by rw [nI_leI (by omega) hj]; exact hc), sb2]
    · refine ⟨nI (t.2 j), σ, τ, ?_, ?_, S, hS, hC, hM, hR⟩
      · rw [if_neg (by rw [nI_leI (by omega) hj]; exact hc), rdI (by omega) (by omega), sbd, sb2, hp.2 j (by omega), c_report0 (isE_nI (by have := ht.2 j (by omega); omega)), sb2]
      · rw [if_neg (by rw [nI_leI (by omega) hj]; exact hc), nI_1, nI_add, rdI (by omega) (by omega), sbd, sb2, hq.2 j (by omega)]
  · obtain ⟨σ', τ', q1, q2, q3⟩ := sim_fail hS hC hM hR (r := -10002) (by decide)
    refine ⟨-10002, σ', τ', ?_, ?_, q3⟩
    · rw [if_neg h0, sb2, q1, sb2]
    · rw [if_neg h0, b2_id, b2_id, q2]
theorem sim_leftRow : sm1 sim_Rel pX7_leftRow pX8_leftRow := by
  rintro x σ τ ⟨S, hS, hC, hM, hR⟩
  exact sim_rowAt (h := 13) (k := 0) hS hC hM hR hC.1 hM.1 hS.1 (by omega) x
theorem sim_rightRow : sm1 sim_Rel pX7_rightRow pX8_rightRow := by
  rintro x σ τ ⟨S, hS, hC, hM, hR⟩
  exact sim_rowAt (h := 15) (k := 11) hS hC hM hR hC.2.1 hM.2.1 hS.2.1 (by omega) x
theorem sim_tl {σ τ : fw_T} (h : sim_Rel σ τ) (g : Nat → Nat) : sim_Rel (tl σ g) τ := sim_scr h (fun j _ _ _ h10 _ => tl_ne σ g h10) (fun _ _ => rfl) (fun _ _ => rfl)
theorem sim_wl {σ τ : fw_T} (h : sim_Rel σ τ) (S : St) (k : Nat) : sim_Rel (wl σ S k) τ := sim_scr h (fun j _ _ _ _ h11 => wl_ne σ S k h11) (fun _ _ => rfl) (fun _ _ => rfl)
theorem sim_answerCount : sm0 sim_Rel pX7_answerCount pX8_answerCount := by
  intro σ τ hr
  obtain ⟨S, hS, hC, hM, hR⟩ := id hr
  refine ⟨nI (fb_ct (ans S) 100), tl σ (ti S S.1.1), τ, ?_, ?_, sim_tl hr _⟩
  · unfold pX7_answerCount; rw [b2_id, c_countAnswers hC hS]
  · unfold pX8_answerCount; rw [b2_id, m_answers hM hS]
theorem sim_answer : sm1 sim_Rel pX7_answer pX8_answer := by
  intro x σ τ hr
  obtain ⟨S, hS, hC, hM, hR⟩ := id hr
  unfold pX7_answer pX8_answer
  by_cases h0 : (0 : Int32) ≤ x
  · obtain ⟨j, hj, rfl⟩ := nI_of (nlt.mpr h0)
    refine ⟨kth (ans S) j, tl σ (ti S S.1.1), τ, ?_, ?_, sim_tl hr _⟩
    · rw [if_pos h0, c_answerAt hC hS hj, sb2, c_report0 (isE_kth _ _), sb2]
    · rw [if_pos h0, b2_id, m_answerAt hM hS hj]
  · obtain ⟨σ', τ', q1, q2, q3⟩ := sim_fail hS hC hM hR (r := -10002) (by decide)
    refine ⟨-10002, σ', τ', ?_, ?_, q3⟩
    · rw [if_neg h0, b2_id, q1]
    · rw [if_neg h0, b2_id, q2]
theorem sim_satisfied : sm0 sim_Rel pX7_satisfiedWishes pX8_satisfiedWishes := by
  intro σ τ hr
  obtain ⟨S, hS, hC, hM, hR⟩ := id hr
  refine ⟨nI (SW S 0), σ, τ, ?_, ?_, hr⟩
  · unfold pX7_satisfiedWishes; rw [b2_id, c_countSat hC hS]
  · unfold pX8_satisfiedWishes; rw [b2_id]; exact m_satisfied (w := 0) hM hS (by omega)
theorem sim_removalW : sm0 sim_Rel pX7_filtersToRemoveForWishes pX8_filtersToRemoveForWishes := by
  intro σ τ hr
  obtain ⟨S, hS, hC, hM, hR⟩ := id hr
  refine ⟨rv (RW S), wl σ S (10 * S.2.2.2.1), τ, ?_, ?_, sim_wl hr _ _⟩
  · unfold pX7_filtersToRemoveForWishes; rw [b2_id, c_removalW hC hS]
  · unfold pX8_filtersToRemoveForWishes; rw [b2_id, m_removalW hM hS]
-- the text
theorem nar_b : ∀ b, b < 128 → vp_nar .byte ((nI b).toInt8.toInt32) = nI b := by decide +kernel
theorem rRR.text {σ τ σ' τ' : fw_T} (h : rRR σ τ) {t : Nat} (ht : rTx σ' τ' t) (h1 : ∀ j, j ≠ 7 → j ≠ 8 → fw_g σ' j = fw_g σ j) (h2 : ∀ j, j ≠ 0 → j ≠ 5 → fw_g τ' j = fw_g τ j) (h3 : ∀ k, k ≠ 7 → fw_g τ' 0 k = fw_g τ 0 k) : rRR σ' τ' := by
  obtain ⟨a, ⟨l1, l2, l3⟩, c, -, d, p, d1, d2, d3, d4, d5, d6⟩ := h
  refine ⟨by rw [h3 5 (by omega)]; exact a, ⟨by rw [h1 13 (by omega) (by omega)]; exact l1, by rw [h1 15 (by omega) (by omega)]; exact l2, by rw [h1 22 (by omega) (by omega)]; exact l3⟩, fun i hi => by rw [h1 9 (by omega) (by omega), h2 4 (by omega) (by omega)]; exact c i hi, ⟨t, ht⟩, d, p, d1, d2, by rw [h1 2 (by omega) (by omega)]; exact d3, by rw [h1 2 (by omega) (by omega)]; exact d4, by rw [h3 3 (by omega)]; exact d5, d6.frame (fun j _ _ => h1 j (by omega) (by omega)) (h2 3 (by omega) (by omega))⟩
theorem sim_append : sm1 sim_Rel pX7_append pX8_append := by
  intro x σ τ hr
  obtain ⟨S, hS, hC, hM, hR⟩ := id hr
  obtain ⟨-, -, -, ⟨t, t1, t2, t3, t4⟩, -⟩ := id hR
  have ec : pX6_put x σ = if inB 0 127 x = true then (if (fw_g σ 7 1) < (120 : Int32) then (fw_wr σ 8 120 (fw_g σ 7 1) x).bind fun τ1 => some ((fw_g (fw_u τ1 7 1 ((fw_g τ1 7 1) + (1 : Int32))) 7 1), (fw_u τ1 7 1 ((fw_g τ1 7 1) + (1 : Int32)))) else some ((-10004 : Int32), σ)) else some (-10002, σ) := by
    unfold pX6_put inB
    by_cases h1 : x < 0
    · have : ¬ (0 : Int32) ≤ x := nle.mpr h1
      simp [h1, this]
    · have h1' := nlt.mp h1
      by_cases h2 : x ≤ 127
      · simp [h1, h1', h2]
      · simp [h1, h2]
  unfold pX7_append pX8_append
  rw [m_inB, sb2, ifb, ec]
  cases hv : inB 0 127 x with
  | false =>
    obtain ⟨σ', τ', q1, q2, q3⟩ := sim_fail hS hC hM hR (r := -10002) (by decide)
    refine ⟨-10002, σ', τ', ?_, ?_, q3⟩
    · rw [if_neg (by decide), sb2, q1, sb2]
    · rw [if_neg (by decide), b2_id, q2]
  | true =>
    obtain ⟨b, hb, rfl⟩ := inB_of (m := 127) (by omega) hv
    rw [if_pos rfl, if_pos rfl, t2, t3]
    by_cases hf : t = 120
    · obtain ⟨σ', τ', q1, q2, q3⟩ := sim_fail hS hC hM hR (r := -10004) (by decide)
      refine ⟨-10004, σ', τ', ?_, ?_, q3⟩
      · rw [if_neg (by rw [show (120 : Int32) = nI 120 from rfl, ltI (by omega) (by omega)]; omega), sb2, q1, sb2]
      · rw [if_pos (by rw [hf]; rfl), b2_id, q2]
    · have g1 : ∀ j, j ≠ 7 → j ≠ 8 → fw_g (fw_u (fw_u σ 8 t (nI b)) 7 1 (nI (t + 1))) j = fw_g σ j := fun j h1 h2 => by rw [fw_gn _ h1, fw_gn _ h2]
      have g2 : ∀ j, j ≠ 0 → j ≠ 5 → fw_g (fw_u (fw_u τ 5 t (nI b)) 0 7 (nI (t + 1))) j = fw_g τ j := fun j h1 h2 => by rw [fw_gn _ h1, fw_gn _ h2]
      refine ⟨nI (t + 1), fw_u (fw_u σ 8 t (nI b)) 7 1 (nI (t + 1)), fw_u (fw_u τ 5 t (nI b)) 0 7 (nI (t + 1)), ?_, ?_, S, hS, hC.frame (fun j _ _ => g1 j (by omega) (by omega)), hM.frame hS (fun j _ => by rw [g2 1 (by decide) (by decide)]), ?_⟩
      · rw [if_pos (by rw [show (120 : Int32) = nI 120 from rfl, ltI (by omega) (by omega)]; omega), wrI (by omega) (by omega), sbd, fw_us, sb2, fw_gn _ (by decide), t2, nI_1, c_report0 (isE_nI (by omega)), sb2]
      · rw [if_neg (by rw [show (120 : Int32) = nI 120 from rfl, eqI (by omega) (by omega)]; exact hf), nar_b b (by omega), wrI (by omega) (by omega), sbd, fw_us, fw_gn _ (by decide), t3, nI_1]
      · refine hR.text (t := t + 1) ⟨by omega, fw_us _ _ _ _, fw_us _ _ _ _, fun i hi => ?_⟩ g1 g2 (fun k hk => by rw [fw_uo _ _ _ _ _ hk, fw_gn _ (by decide)])
        rw [fw_gn _ (show 8 ≠ 7 by decide), fw_gn _ (show 5 ≠ 0 by decide), fw_gu, fw_gu]
        simp only [upd]
        by_cases hit : i = t
        · rw [if_pos hit, if_pos hit]; exact ⟨b, by omega, rfl, rfl⟩
        · rw [if_neg hit, if_neg hit]; exact t4 i (by omega)
theorem sim_clearText : sm0 sim_Rel pX7_clearText pX8_clearText := by
  intro σ τ hr
  obtain ⟨S, hS, hC, hM, hR⟩ := id hr
  obtain ⟨-, -, -, ⟨t, t1, t2, t3, t4⟩, -⟩ := id hR
  unfold pX7_clearText pX6_empty pX8_clearText
  rw [sb2, t2, t3]
  refine ⟨nI t, fw_u σ 7 1 0, fw_u τ 0 7 0, rfl, rfl, S, hS, hC.frame (fun j _ _ => fw_gn _ (by omega)), hM.frame hS (fun j _ => by rw [fw_gn _ (by decide)]), hR.text (t := 0) ⟨by omega, fw_us _ _ _ _, fw_us _ _ _ _, fun i hi => absurd hi (Nat.not_lt_zero i)⟩ (fun j h1 _ => fw_gn _ h1) (fun j h1 _ => fw_gn _ h1) (fun k hk => fw_uo _ _ _ _ _ hk)⟩
theorem sim_errorCount : sm1 sim_Rel pX7_errorCount pX8_errorCount := by
  intro x σ τ hr
  obtain ⟨S, hS, hC, hM, hR⟩ := id hr
  unfold pX7_errorCount pX8_errorCount
  rw [m_inB, sb2, ifb]
  by_cases h0 : x < 0
  · have : inB 0 2 x = false := by unfold inB; have : ¬ (0 : Int32) ≤ x := nle.mpr h0; simp [this]
    obtain ⟨σ', τ', q1, q2, q3⟩ := sim_fail hS hC hM hR (r := -10002) (by decide)
    refine ⟨-10002, σ', τ', ?_, ?_, q3⟩
    · rw [if_pos h0, b2_id, q1]
    · rw [this, if_neg (by decide), b2_id, q2]
  · obtain ⟨j, hj, rfl⟩ := nI_of h0
    rw [if_neg h0]
    by_cases h3 : j < 3
    · have hin : inB 0 2 (nI j) = true := by
        have h4 : ∀ j, j < 3 → inB 0 2 (nI j) = true := by decide +kernel
        exact h4 j h3
      have e := hR.2.2.1 j h3
      refine ⟨fw_g σ 9 j, σ, τ, ?_, ?_, hr⟩
      · rw [if_pos (by rw [show (3 : Int32) = nI 3 from rfl, ltI (by omega) (by omega)]; exact h3), rdI (by omega) (by omega), sbd]
      · rw [hin, if_pos rfl, rdI (by omega) (by omega), sbd, e]
    · have hin : inB 0 2 (nI j) = false := by
        unfold inB
        have : ¬ nI j ≤ (2 : Int32) := by rw [show (2 : Int32) = nI 2 from rfl, nI_leI hj (by omega)]; omega
        simp [this]
      obtain ⟨σ', τ', q1, q2, q3⟩ := sim_fail hS hC hM hR (r := -10002) (by decide)
      refine ⟨-10002, σ', τ', ?_, ?_, q3⟩
      · rw [if_neg (by rw [show (3 : Int32) = nI 3 from rfl, nI_ltI hj (by omega)]; exact h3), b2_id, q1]
      · rw [hin, if_neg (by decide), b2_id, q2]
