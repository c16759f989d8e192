/-! ===== errors, edits, undo ===== -/
def isE (r : Int32) : Bool := r == -10002 || r == -10003 || r == -10004
theorem isE_nI {n : Nat} (h : n < 100000) : isE (nI n) = false := by
  have h2 : ∀ z : Int32, z.toInt < 0 → ¬ nI n = z := fun z hz hc => by
    rw [← hc, nI_toInt (by omega)] at hz
    omega
  have a := h2 (-10002) (by decide)
  have b := h2 (-10003) (by decide)
  have c := h2 (-10004) (by decide)
  simp [isE, a, b, c]
theorem isE_vI : ∀ t, t < 28 → isE (vI t) = false := by decide +kernel
theorem isE_of {r : Int32} (h : isE r = true) : ∃ i, i < 3 ∧ (-10002 : Int32) - r = nI i := by
  simp only [isE, Bool.or_eq_true, beq_iff_eq] at h
  rcases h with (h | h) | h
  · exact ⟨0, by decide, by rw [h]; rfl⟩
  · exact ⟨1, by decide, by rw [h]; decide⟩
  · exact ⟨2, by decide, by rw [h]; decide⟩
theorem c_isError (r : Int32) (σ : fw_T) : pX7_isError r σ = some (bI (isE r), σ) := by
  unfold pX7_isError isE
  by_cases h1 : r = -10002
  · rw [if_pos h1]; simp [h1, bI, rz1]
  · rw [if_neg h1]
    by_cases h2 : r = -10003
    · rw [if_pos h2]; simp [h2, bI, rz1]
    · rw [if_neg h2]
      by_cases h3 : r = -10004
      · rw [if_pos h3]; simp [h3, bI, rz1]
      · rw [if_neg h3]; simp [h1, h2, h3, bI, rz0]
theorem c_report0 {r : Int32} (h : isE r = false) (σ : fw_T) : pX7_report r σ = some (r, σ) := by
  unfold pX7_report
  rw [c_isError, sb2, h, bIf, if_pos rfl]
theorem c_report1 {r : Int32} (h : isE r = true) {i : Nat} (hi : i < 3) (hx : (-10002 : Int32) - r = nI i) (σ : fw_T) : pX7_report r σ = some (r, fw_u σ 9 i (fw_g σ 9 i + 1)) := by
  unfold pX7_report
  rw [c_isError, sb2, h, bIt, if_neg (by decide), hx, rdI hi (by omega), sbd, wrI hi (by omega), sbd]
theorem m_fail1 {r : Int32} {i : Nat} (hi : i < 3) (hx : (-10002 : Int32) - r = nI i) (τ : fw_T) (h5 : fw_g τ 0 5 = 0) : pX8_fail r τ = some (r, fw_u τ 4 i (fw_g τ 4 i + 1)) := by
  unfold pX8_fail
  rw [if_pos h5, hx, rdI hi (by omega), sbd, wrI hi (by omega), sbd]
theorem rEr.count {σ τ : fw_T} (h : rEr σ τ) {i : Nat} (hi : i < 3) : rEr (fw_u σ 9 i (fw_g σ 9 i + 1)) (fw_u τ 4 i (fw_g τ 4 i + 1)) := by
  intro j hj
  rw [fw_gu, fw_gu]
  simp only [upd]
  split
  · rw [h i hi]
  · exact h j hj
/-- an error is reported: the same on both sides -/
theorem rRR.count {σ τ : fw_T} (h : rRR σ τ) {i : Nat} (hi : i < 3) : rRR (fw_u σ 9 i (fw_g σ 9 i + 1)) (fw_u τ 4 i (fw_g τ 4 i + 1)) := by
  obtain ⟨a, ⟨l1, l2, l3⟩, c, ⟨t, t1, t2, t3, t4⟩, d, p, d1, d2, d3, d4, d5, d6⟩ := h
  refine ⟨by rw [fw_gn _ (by decide)]; exact a, ⟨by rw [fw_gn _ (by decide)]; exact l1, by rw [fw_gn _ (by decide)]; exact l2, by rw [fw_gn _ (by decide)]; exact l3⟩, c.count hi, ⟨t, t1, by rw [fw_gn _ (by decide)]; exact t2, by rw [fw_gn _ (by decide)]; exact t3, ?_⟩, d, p, d1, d2, by rw [fw_gn _ (by decide)]; exact d3, by rw [fw_gn _ (by decide)]; exact d4, by rw [fw_gn _ (by decide)]; exact d5, d6.frame (fun j h1 h2 => fw_gn _ (by omega)) (fw_gn _ (by decide))⟩
  intro i hi
  rw [fw_gn _ (by decide), fw_gn _ (by decide)]
  exact t4 i hi
theorem sim_fail {σ τ : fw_T} {S : St} (hS : OKS S) (hC : CS σ 12 S) (hM : MS τ 1 0 S) (hR : rRR σ τ) {r : Int32} (h : isE r = true) : ∃ σ' τ', pX7_report r σ = some (r, σ') ∧ pX8_fail r τ = some (r, τ') ∧ sim_Rel σ' τ' := by
  obtain ⟨i, hi, hx⟩ := isE_of h
  refine ⟨_, _, c_report1 h hi hx σ, m_fail1 hi hx τ hR.1, S, hS, hC.frame (fun j h1 h2 => fw_gn _ (by omega)), hM.frame hS (fun j _ => by rw [fw_gn _ (by decide)]), hR.count hi⟩
/-- an edit: an answer and a new state -/
def COp (f : fw_T → Option (Int32 × fw_T)) (S : St) (r : Int32) (S' : St) : Prop := ∀ σ, CS σ 12 S → rLm σ → ∃ σ', f σ = some (r, σ') ∧ CS σ' 12 S' ∧ rLm σ' ∧ ∀ j, (j < 12 ∨ 24 ≤ j) → fw_g σ' j = fw_g σ j
def MOp (g : fw_T → Option (Int32 × fw_T)) (S : St) (r : Int32) (S' : St) : Prop := ∀ τ, MS τ 1 0 S → (isE r = true → g τ = pX8_fail r τ) ∧ (isE r = false → ∀ τ1, pX8_note τ = some τ1 → MS τ1 1 0 S → ∃ τ', g τ = some (r, τ') ∧ MS τ' 1 0 S' ∧ ∀ j, j ≠ 1 → fw_g τ' j = fw_g τ1 j)
def Op (f g : fw_T → Option (Int32 × fw_T)) (S : St) : Prop := ∃ r S', OKS S' ∧ (isE r = true → S' = S) ∧ COp f S r S' ∧ MOp g S r S'
/-- an edit of a script: its good answer is no negative number -/
def OpN (f g : fw_T → Option (Int32 × fw_T)) (S : St) : Prop := ∃ r S', OKS S' ∧ (isE r = true → S' = S) ∧ COp f S r S' ∧ MOp g S r S' ∧ (isE r = false → ¬ r < 0)
theorem OpN.op {f g : fw_T → Option (Int32 × fw_T)} {S : St} (h : OpN f g S) : Op f g S := by
  obtain ⟨r, S', a, b, c, d, -⟩ := h
  exact ⟨r, S', a, b, c, d⟩
theorem rPs.draft {σ τ σ' : fw_T} {d p : Nat} (h : rPs σ τ d p) (hp : p ≤ 5) (hd : d < 6) (h1 : ∀ j, (j < 24 + 12 * d ∨ 36 + 12 * d ≤ j) → fw_g σ' j = fw_g σ j) : rPs σ' τ d p := by
  intro k hk
  obtain ⟨S, a, b, c⟩ := h k hk
  refine ⟨S, a, b.frame (fun j h3 h4 => h1 j ?_), c⟩
  have : (d + 6 - p + k) % 6 ≠ d := by omega
  omega
/-- one step of history -/
theorem rPs.keep {σ τ τ' : fw_T} {d p : Nat} {S : St} (h : rPs σ τ d p) (hp : p ≤ 5) (hd : d < 6) (hS : OKS S) (hC : CS σ (24 + 12 * d) S) (hM : MS τ 1 0 S) (h2 : ∀ l, l < 52 → fw_g τ' 3 (52 * (min 5 (p + 1) - 1) + l) = fw_g τ 1 l) (h3 : ∀ l, l < 52 * (min 5 (p + 1) - 1) → fw_g τ' 3 l = fw_g τ 3 (if p = 5 then l + 52 else l)) : rPs σ τ' ((d + 1) % 6) (min 5 (p + 1)) := by
  intro k hk
  by_cases hl : k = min 5 (p + 1) - 1
  · refine ⟨S, hS, ?_, ?_⟩
    · rw [show ((d + 1) % 6 + 6 - min 5 (p + 1) + k) % 6 = d by omega]; exact hC
    · exact hM.frame hS (fun j hj => by rw [hl, h2 j hj, Nat.zero_add])
  · by_cases h5 : p = 5
    · subst h5
      obtain ⟨S1, a, b, c⟩ := h (k + 1) (by omega)
      refine ⟨S1, a, ?_, c.frame a (fun j hj => ?_)⟩
      · rw [show ((d + 1) % 6 + 6 - min 5 (5 + 1) + k) % 6 = (d + 6 - 5 + (k + 1)) % 6 by omega]; exact b
      · rw [h3 _ (by omega), if_pos rfl]
        congr 1
        omega
    · obtain ⟨S1, a, b, c⟩ := h k (by omega)
      refine ⟨S1, a, ?_, c.frame a (fun j hj => ?_)⟩
      · rw [show ((d + 1) % 6 + 6 - min 5 (p + 1) + k) % 6 = (d + 6 - p + k) % 6 by omega]; exact b
      · rw [h3 _ (by omega), if_neg h5]
theorem sim_edit {f g : fw_T → Option (Int32 × fw_T)} {σ τ : fw_T} (h : sim_Rel σ τ) (hop : ∀ S, OKS S → Op f g S) : ∃ r σ' τ', ((pX1_draft 12 σ).bind fun τ2 => fw_b2 (f τ2) fun w5 τ4 => fw_b2 (pX7_settle w5 τ4) fun w8 τ7 => some (w8, τ7)) = some (r, σ') ∧ g τ = some (r, τ') ∧ sim_Rel σ' τ' := by
  obtain ⟨S, hS, hC, hM, a, hl, hE, ⟨t, t1, t2, t3, t4⟩, d, p, d1, d2, d3, d4, d5, d6⟩ := h
  obtain ⟨r, S', hS', hSE, hf, hg⟩ := hop S hS
  obtain ⟨σ1, e1, c1, f1⟩ := c_draft σ d1 d3 hC hS
  have hl1 : rLm σ1 := ⟨by rw [f1 _ (by omega)]; exact hl.1, by rw [f1 _ (by omega)]; exact hl.2.1, by rw [f1 _ (by omega)]; exact hl.2.2⟩
  obtain ⟨σ2, e2, c2, l2, f2⟩ := hf σ1 (hC.frame (fun j h1 h2 => f1 j (by omega))) hl1
  have f12 : ∀ j, j < 12 → fw_g σ2 j = fw_g σ j := fun j hj => by rw [f2 j (by omega), f1 j (by omega)]
  rw [e1, sbd, e2, sb2]
  have d6' : rPs σ2 τ d p := d6.draft d2 d1 (σ' := σ1) f1 |>.frame (fun j h1 _ => f2 j (by omega)) rfl
  have t4' : ∀ i, i < t → ∃ b, b < 128 ∧ fw_g σ2 8 i = nI b ∧ fw_g τ 5 i = nI b := fun i hi => by rw [f12 8 (by omega)]; exact t4 i hi
  cases hr : isE r with
  | true =>
    have hSS := hSE hr
    subst hSS
    have hR2 : rRR σ2 τ := ⟨a, l2, fun i hi => by rw [f12 9 (by omega)]; exact hE i hi, ⟨t, t1, by rw [f12 7 (by omega)]; exact t2, t3, t4'⟩, d, p, d1, d2, by rw [f12 2 (by omega)]; exact d3, by rw [f12 2 (by omega)]; exact d4, d5, d6'⟩
    obtain ⟨σ3, τ3, q1, q2, q3⟩ := sim_fail hS' c2 hM hR2 hr
    refine ⟨r, σ3, τ3, ?_, ?_, q3⟩
    · unfold pX7_settle
      rw [c_isError, sb2, hr, bIt, if_neg (by decide), q1]
      rfl
    · rw [(hg τ hM).1 hr, q2]
  | false =>
    obtain ⟨τ1, n1, n2, n3, n4, n5, n6⟩ := m_note τ d2 a d5
    have hM1 : MS τ1 1 0 S := hM.frame hS (fun j _ => by rw [n4 1 (by decide) (by decide)])
    obtain ⟨τ2, m1, m2, m3⟩ := (hg τ hM).2 hr τ1 n1 hM1
    obtain ⟨σ3, k1, k2, k3, k4⟩ := c_keepDraft σ2 d1 d2 (by rw [f12 2 (by omega)]; exact d3) (by rw [f12 2 (by omega)]; exact d4)
    refine ⟨r, σ3, τ2, ?_, m1, S', hS', c2.frame (fun j h1 h2 => k4 j (by omega)), m2, ?_⟩
    · unfold pX7_settle
      rw [c_isError, sb2, hr, bIf, if_pos rfl, k1, sbd, c_report0 hr, sb2, sb2]
    · refine ⟨by rw [m3 0 (by decide), n3 5 (by decide)]; exact a, ⟨by rw [k4 13 (by decide)]; exact l2.1, by rw [k4 15 (by decide)]; exact l2.2.1, by rw [k4 22 (by decide)]; exact l2.2.2⟩, fun i hi => by rw [k4 9 (by decide), f12 9 (by omega), m3 4 (by decide), n4 4 (by decide) (by decide)]; exact hE i hi, ⟨t, t1, by rw [k4 7 (by decide), f12 7 (by omega)]; exact t2, by rw [m3 0 (by decide), n3 7 (by decide)]; exact t3, fun i hi => by rw [k4 8 (by decide), m3 5 (by decide), n4 5 (by decide) (by decide)]; exact t4' i hi⟩, (d + 1) % 6, min 5 (p + 1), by omega, by omega, k2, k3, by rw [m3 0 (by decide)]; exact n2, ?_⟩
      refine rPs.frame (σ := σ2) (τ := τ1) ?_ (fun j h1 _ => k4 j (by omega)) (m3 3 (by decide))
      exact d6'.keep d2 d1 hS (c1.frame (fun j h1 h2 => f2 j (by omega))) hM n5 n6
theorem ub_1 : ∀ d, d < 6 → nI d + 6 - 1 - (nI d + 6 - 1) / 6 * 6 = nI ((d + 5) % 6) := by decide +kernel
theorem m_undo27 (τ : fw_T) {p : Nat} (hp : p < 5) (h3 : fw_g τ 0 3 = nI p) : pX8_undo_27 400 0 τ = some (nI p, mcp τ 3 (52 * p) 1 0 52) := by
  have := lp_all (fun n i => pX8_undo_27 n (nI i) (mcp τ 3 (52 * p) 1 0 i)) (N := 52) (fin := some (nI p, mcp τ 3 (52 * p) 1 0 52)) ?_ ?_ 400 0 (Nat.zero_le _) (by omega)
  · simp only [mcp0] at this
    exact this
  · intro n
    rw [pX8_undo_27, if_pos (by decide), mcp_ne (by decide), h3]
  · intro n i hi
    rw [pX8_undo_27, if_neg (by rw [show (52 : Int32) = nI 52 from rfl, leI (by omega) (by omega)]; omega), mcp_ne (by decide), h3, show (52 : Int32) = nI 52 from rfl, mulI, nI_add, rdI (by omega) (by omega), sbd, mcp_ne (by decide), wrI (by omega) (by omega), sbd, nI_1]
    have := mcp_step (τ := τ) (s := 3) (so := 52 * p) (d := 1) (o := 0) (i := i)
    rw [Nat.zero_add] at this
    rw [this]
theorem sim_undo : sm0 sim_Rel pX7_undo pX8_undo := by
  intro σ τ h
  obtain ⟨S, hS, hC, hM, hR⟩ := h
  obtain ⟨a, hl, hE, ⟨t, t1, t2, t3, t4⟩, d, p, d1, d2, d3, d4, d5, d6⟩ := id hR
  unfold pX7_undo pX8_undo pX1_stepBack
  by_cases hp : p = 0
  · obtain ⟨σ3, τ3, q1, q2, q3⟩ := sim_fail hS hC hM hR (r := -10003) (by decide)
    refine ⟨-10003, σ3, τ3, ?_, ?_, q3⟩
    · rw [d4, hp, if_pos (show nI 0 = (0 : Int32) from rfl), sb2, q1, sb2]
    · rw [d5, hp, if_pos (show nI 0 = (0 : Int32) from rfl), q2, sb2]
  · have hk := d6 (p - 1) (by omega)
    obtain ⟨S1, hS1, hC1, hM1⟩ := hk
    rw [show (d + 6 - p + (p - 1)) % 6 = (d + 5) % 6 by omega] at hC1
    have eσ : (fw_u (fw_u σ 2 1 ((((fw_g σ 2 1) + (6 : Int32)) - (1 : Int32)) - (((fw_g σ 2 1) + (6 : Int32)) - (1 : Int32)) / (6 : Int32) * (6 : Int32))) 2 2 ((fw_g (fw_u σ 2 1 ((((fw_g σ 2 1) + (6 : Int32)) - (1 : Int32)) - (((fw_g σ 2 1) + (6 : Int32)) - (1 : Int32)) / (6 : Int32) * (6 : Int32))) 2 2) - (1 : Int32))) = fw_u (fw_u σ 2 1 (nI ((d + 5) % 6))) 2 2 (nI (p - 1)) := by
      rw [d3, ub_1 d d1, fw_uo _ _ _ _ _ (by decide), d4, show (1 : Int32) = nI 1 from rfl, subI (by omega)]
    rw [eσ]
    have g2 : ∀ j, j ≠ 2 → fw_g (fw_u (fw_u σ 2 1 (nI ((d + 5) % 6))) 2 2 (nI (p - 1))) j = fw_g σ j := fun j hj => by rw [fw_gn _ hj, fw_gn _ hj]
    obtain ⟨σ2, e2, c2, f2, l2⟩ := c_return (fw_u (fw_u σ 2 1 (nI ((d + 5) % 6))) 2 2 (nI (p - 1))) (d := (d + 5) % 6) (by omega) (by rw [fw_uo _ _ _ _ _ (by decide), fw_us]) (hC1.frame (fun j h1 h2 => g2 j (by omega))) hS1
    have g22 : fw_g σ2 2 2 = nI (p - 1) := by rw [f2 2 (by omega), fw_us]
    have g21 : fw_g σ2 2 1 = nI ((d + 5) % 6) := by rw [f2 2 (by omega), fw_uo _ _ _ _ _ (by decide), fw_us]
    have g3 : ∀ j, j < 12 → j ≠ 2 → fw_g σ2 j = fw_g σ j := fun j h1 h2 => by rw [f2 j (by omega), g2 j h2]
    have g4 : ∀ j, 24 ≤ j → fw_g σ2 j = fw_g σ j := fun j h1 => by rw [f2 j (by omega), g2 j (by omega)]
    have mu := m_undo27 (fw_u τ 0 3 (nI (p - 1))) (p := p - 1) (by omega) (fw_us _ _ _ _)
    refine ⟨nI (p - 1), σ2, mcp (fw_u τ 0 3 (nI (p - 1))) 3 (52 * (p - 1)) 1 0 52, ?_, ?_, S1, hS1, c2, ?_, ?_⟩
    · rw [d4, if_neg (by rw [nI00 (by omega)]; exact hp), e2, sbd, sb2, g22, c_report0 (isE_nI (by omega)), sb2]
    · rw [d5, if_neg (by rw [nI00 (by omega)]; exact hp), show (1 : Int32) = nI 1 from rfl, subI (by omega), mu]
    · refine hM1.frame hS1 (fun j hj => ?_)
      rw [mcp_in _ _ _ _ _ hj, fw_gn _ (by decide)]
    · refine ⟨by rw [mcp_ne (by decide), fw_uo _ _ _ _ _ (by decide)]; exact a, l2 ⟨by rw [g2 _ (by decide)]; exact hl.1, by rw [g2 _ (by decide)]; exact hl.2.1, by rw [g2 _ (by decide)]; exact hl.2.2⟩, fun i hi => by rw [g3 9 (by omega) (by omega), mcp_ne (by decide), fw_gn _ (by decide)]; exact hE i hi, ⟨t, t1, by rw [g3 7 (by omega) (by omega)]; exact t2, by rw [mcp_ne (by decide), fw_uo _ _ _ _ _ (by decide)]; exact t3, fun i hi => by rw [g3 8 (by omega) (by omega), mcp_ne (by decide), fw_gn _ (by decide)]; exact t4 i hi⟩, (d + 5) % 6, p - 1, by omega, by omega, g21, g22, by rw [mcp_ne (by decide), fw_us], ?_⟩
      refine rPs.frame (σ := σ) (τ := τ) ?_ (fun j h1 _ => g4 j h1) (by rw [mcp_ne (by decide), fw_gn _ (by decide)])
      intro k hk
      obtain ⟨S2, a2, b2, c2⟩ := d6 k (by omega)
      refine ⟨S2, a2, ?_, c2⟩
      rw [show ((d + 5) % 6 + 6 - (p - 1) + k) % 6 = (d + 6 - p + k) % 6 by omega]
      exact b2
