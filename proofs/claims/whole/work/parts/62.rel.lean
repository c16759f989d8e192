/-! ===== the relation ===== -/
def rLm (σ : fw_T) : Prop := fw_g σ 13 1 = nI 10 ∧ fw_g σ 15 1 = nI 10 ∧ fw_g σ 22 1 = nI 4
def rEr (σ τ : fw_T) : Prop := ∀ i, i < 3 → fw_g σ 9 i = fw_g τ 4 i
def rTx (σ τ : fw_T) (t : Nat) : Prop := t ≤ 120 ∧ fw_g σ 7 1 = nI t ∧ fw_g τ 0 7 = nI t ∧ ∀ i, i < t → ∃ b, b < 128 ∧ fw_g σ 8 i = nI b ∧ fw_g τ 5 i = nI b
def rPs (σ τ : fw_T) (d p : Nat) : Prop := ∀ k, k < p → ∃ S, OKS S ∧ CS σ (24 + 12 * ((d + 6 - p + k) % 6)) S ∧ MS τ 3 (52 * k) S
def rHs (σ τ : fw_T) (d p : Nat) : Prop := d < 6 ∧ p ≤ 5 ∧ fw_g σ 2 1 = nI d ∧ fw_g σ 2 2 = nI p ∧ fw_g τ 0 3 = nI p ∧ rPs σ τ d p
/-- all but the current state -/
def rRR (σ τ : fw_T) : Prop := fw_g τ 0 5 = 0 ∧ rLm σ ∧ rEr σ τ ∧ (∃ t, rTx σ τ t) ∧ ∃ d p, rHs σ τ d p
def sim_Rel (σ τ : fw_T) : Prop := ∃ S, OKS S ∧ CS σ 12 S ∧ MS τ 1 0 S ∧ rRR σ τ
theorem rPs.frame {σ τ σ' τ' : fw_T} {d p : Nat} (h : rPs σ τ d p) (h1 : ∀ j, 24 ≤ j → j < 96 → fw_g σ' j = fw_g σ j) (h2 : fw_g τ' 3 = fw_g τ 3) : rPs σ' τ' d p := by
  intro k hk
  obtain ⟨S, a, b, c⟩ := h k hk
  exact ⟨S, a, b.frame (fun j h3 h4 => h1 j (by omega) (by omega)), c.frame a (fun j _ => by rw [h2])⟩
theorem rRR.frame {σ τ σ' τ' : fw_T} (h : rRR σ τ) (h1 : ∀ j, 24 ≤ j → j < 96 → fw_g σ' j = fw_g σ j) (h2 : ∀ j, j = 2 ∨ j = 7 ∨ j = 8 ∨ j = 9 → fw_g σ' j = fw_g σ j) (hl : ∀ j, j = 13 ∨ j = 15 ∨ j = 22 → fw_g σ' j 1 = fw_g σ j 1) (h3 : ∀ j, j = 3 ∨ j = 4 ∨ j = 5 → fw_g τ' j = fw_g τ j) (h4 : ∀ k, k = 3 ∨ k = 5 ∨ k = 7 → fw_g τ' 0 k = fw_g τ 0 k) : rRR σ' τ' := by
  obtain ⟨a, ⟨l1, l2, l3⟩, c, ⟨t, t1, t2, t3, t4⟩, d, p, d1, d2, d3, d4, d5, d6⟩ := h
  refine ⟨by rw [h4 5 (by omega)]; exact a, ⟨by rw [hl 13 (by omega)]; exact l1, by rw [hl 15 (by omega)]; exact l2, by rw [hl 22 (by omega)]; exact l3⟩, ?_, ⟨t, t1, by rw [h2 7 (by omega)]; exact t2, by rw [h4 7 (by omega)]; exact t3, ?_⟩, d, p, d1, d2, by rw [h2 2 (by omega)]; exact d3, by rw [h2 2 (by omega)]; exact d4, by rw [h4 3 (by omega)]; exact d5, d6.frame h1 (h3 3 (by omega))⟩
  · intro i hi
    rw [h2 9 (by omega), h3 4 (by omega)]
    exact c i hi
  · intro i hi
    rw [h2 8 (by omega), h3 5 (by omega)]
    exact t4 i hi
/-- scratch does not count -/
theorem sim_scr {σ τ σ' τ' : fw_T} (h : sim_Rel σ τ) (h1 : ∀ j, j ≠ 4 → j ≠ 5 → j ≠ 6 → j ≠ 10 → j ≠ 11 → fw_g σ' j = fw_g σ j) (h3 : ∀ j, j = 1 ∨ j = 3 ∨ j = 4 ∨ j = 5 → fw_g τ' j = fw_g τ j) (h4 : ∀ k, k = 3 ∨ k = 5 ∨ k = 7 → fw_g τ' 0 k = fw_g τ 0 k) : sim_Rel σ' τ' := by
  obtain ⟨S, a, b, c, d⟩ := h
  exact ⟨S, a, b.frame (fun j h5 h6 => h1 j (by omega) (by omega) (by omega) (by omega) (by omega)), c.frame a (fun j _ => by rw [h3 1 (by omega)]), d.frame (fun j _ _ => h1 j (by omega) (by omega) (by omega) (by omega) (by omega)) (fun j _ => h1 j (by omega) (by omega) (by omega) (by omega) (by omega)) (fun j _ => by rw [h1 j (by omega) (by omega) (by omega) (by omega) (by omega)]) (fun j _ => h3 j (by omega)) h4⟩
/-! copies of the class -/
theorem gcp_at (σ : fw_T) (a b n l : Nat) : fw_g (fw_cp σ a b n) b l = if l < n then fw_g σ a l else fw_g σ b l := by simp [fw_g, fw_cp]
theorem cpP (σ : fw_T) {h h2 : Nat} {t : Tb} (hd : h + 2 ≤ h2 ∨ h2 + 2 ≤ h) (hp : PC σ h2 t) (hs : t.1 ≤ 10) : ∃ σ', pX2_copyFrom h h2 σ = some σ' ∧ PC σ' h t ∧ (∀ j, j ≠ h → j ≠ h + 1 → fw_g σ' j = fw_g σ j) ∧ fw_g σ' h 1 = fw_g σ h 1 := by
  refine ⟨_, rfl, ⟨?_, fun i hi => ?_⟩, fun j h3 h4 => ?_, ?_⟩
  · rw [fw_us, fw_gcn _ (by omega)]; exact hp.1
  · rw [fw_gn _ (by omega), gcp_at, if_pos (by omega)]; exact hp.2 i hi
  · rw [fw_gn _ h3, fw_gcn _ h4]
  · rw [fw_uo _ _ _ _ _ (by decide), fw_gcn _ (by omega)]
theorem cpF (σ : fw_T) {h h2 : Nat} {f : Ft} (hd : h + 5 ≤ h2 ∨ h2 + 5 ≤ h) (hf : FC σ h2 f) (hs : f.1 ≤ 6) : ∃ σ', pX0_copyFrom h h2 σ = some σ' ∧ FC σ' h f ∧ (∀ j, (j < h ∨ h + 5 ≤ j) → fw_g σ' j = fw_g σ j) := by
  refine ⟨_, rfl, ⟨?_, fun i hi => ?_⟩, fun j h3 => ?_⟩
  · rw [fw_us, fw_gcn _ (by omega), fw_gcn _ (by omega), fw_gcn _ (by omega), fw_gcn _ (by omega)]; exact hf.1
  · obtain ⟨e1, e2, e3, e4⟩ := hf.2 i hi
    refine ⟨?_, ?_, ?_, ?_⟩
    · rw [fw_gn _ (by omega), fw_gcn _ (by omega), fw_gcn _ (by omega), fw_gcn _ (by omega), gcp_at, if_pos (by omega)]; exact e1
    · rw [fw_gn _ (by omega), fw_gcn _ (by omega), fw_gcn _ (by omega), gcp_at, if_pos (by omega), fw_gcn _ (by omega)]; exact e2
    · rw [fw_gn _ (by omega), fw_gcn _ (by omega), gcp_at, if_pos (by omega), fw_gcn _ (by omega), fw_gcn _ (by omega)]; exact e3
    · rw [fw_gn _ (by omega), gcp_at, if_pos (by omega), fw_gcn _ (by omega), fw_gcn _ (by omega), fw_gcn _ (by omega)]; exact e4
  · rw [fw_gn _ (by omega), fw_gcn _ (by omega), fw_gcn _ (by omega), fw_gcn _ (by omega), fw_gcn _ (by omega)]
theorem cpS (σ : fw_T) {h h2 : Nat} {S : St} (hd : h + 12 ≤ h2 ∨ h2 + 12 ≤ h) (hc : CS σ h2 S) (hS : OKS S) : ∃ σ', pX5_copyFrom h h2 σ = some σ' ∧ CS σ' h S ∧ (∀ j, (j < h ∨ h + 12 ≤ j) → fw_g σ' j = fw_g σ j) ∧ fw_g σ' (h + 1) 1 = fw_g σ (h + 1) 1 ∧ fw_g σ' (h + 3) 1 = fw_g σ (h + 3) 1 ∧ fw_g σ' (h + 10) 1 = fw_g σ (h + 10) 1 := by
  obtain ⟨c1, c2, c3, c4⟩ := hc
  have s4 := hS.2.2.2.1
  obtain ⟨σ1, e1, p1, f1, g1⟩ := cpP σ (h := h + 1) (h2 := h2 + 1) (by omega) c1 hS.1.1
  obtain ⟨σ2, e2, p2, f2, g2⟩ := cpP σ1 (h := h + 3) (h2 := h2 + 3) (by omega) (c2.cong (by rw [f1 _ (by omega) (by omega)]) (f1 _ (by omega) (by omega))) hS.2.1.1
  obtain ⟨σ3, e3, p3, f3⟩ := cpF σ2 (h := h + 5) (h2 := h2 + 5) (f := S.2.2.1) (by omega) (c3.cong (by rw [f2 _ (by omega) (by omega), f1 _ (by omega) (by omega)]) (by rw [f2 _ (by omega) (by omega), f1 _ (by omega) (by omega)]) (by rw [f2 _ (by omega) (by omega), f1 _ (by omega) (by omega)]) (by rw [f2 _ (by omega) (by omega), f1 _ (by omega) (by omega)]) (by rw [f2 _ (by omega) (by omega), f1 _ (by omega) (by omega)])) hS.2.2.1.1
  obtain ⟨σ4, e4, p4, f4, g4⟩ := cpP σ3 (h := h + 10) (h2 := h2 + 10) (t := S.2.2.2) (by omega) (c4.cong (by rw [f3 _ (by omega), f2 _ (by omega) (by omega), f1 _ (by omega) (by omega)]) (by rw [f3 _ (by omega), f2 _ (by omega) (by omega), f1 _ (by omega) (by omega)])) (by omega)
  refine ⟨σ4, ?_, ⟨p1.cong ?_ ?_, p2.cong ?_ ?_, p3.cong ?_ ?_ ?_ ?_ ?_, p4⟩, fun j hj => ?_, ?_, ?_, ?_⟩
  · unfold pX5_copyFrom
    rw [e1, sbd, e2, sbd, e3, sbd, e4, sbd]
  · rw [f4 _ (by omega) (by omega), f3 _ (by omega), f2 _ (by omega) (by omega)]
  · rw [f4 _ (by omega) (by omega), f3 _ (by omega), f2 _ (by omega) (by omega)]
  · rw [f4 _ (by omega) (by omega), f3 _ (by omega)]
  · rw [f4 _ (by omega) (by omega), f3 _ (by omega)]
  · rw [f4 _ (by omega) (by omega)]
  · rw [f4 _ (by omega) (by omega)]
  · rw [f4 _ (by omega) (by omega)]
  · rw [f4 _ (by omega) (by omega)]
  · rw [f4 _ (by omega) (by omega)]
  · rw [f4 _ (by omega) (by omega), f3 _ (by omega), f2 _ (by omega) (by omega), f1 _ (by omega) (by omega)]
  · rw [f4 _ (by omega) (by omega), f3 _ (by omega), f2 _ (by omega) (by omega)]; exact g1
  · rw [f4 _ (by omega) (by omega), f3 _ (by omega), g2, f1 _ (by omega) (by omega)]
  · rw [g4, f3 _ (by omega), f2 _ (by omega) (by omega), f1 _ (by omega) (by omega)]
theorem c_draft (σ : fw_T) {d : Nat} {S : St} (hd : d < 6) (hg : fw_g σ 2 1 = nI d) (hc : CS σ 12 S) (hS : OKS S) : ∃ σ', pX1_draft 12 σ = some σ' ∧ CS σ' (24 + 12 * d) S ∧ ∀ j, (j < 24 + 12 * d ∨ 36 + 12 * d ≤ j) → fw_g σ' j = fw_g σ j := by
  obtain ⟨σ', e, p, f, -⟩ := cpS σ (h := 24 + 12 * d) (h2 := 12) (by omega) hc hS
  refine ⟨σ', ?_, p, fun j hj => f j (by omega)⟩
  unfold pX1_draft
  rw [hg, ixI hd (by omega), sbd, e, sbd]
theorem c_return (σ : fw_T) {d : Nat} {S : St} (hd : d < 6) (hg : fw_g σ 2 1 = nI d) (hc : CS σ (24 + 12 * d) S) (hS : OKS S) : ∃ σ', pX1_returnToDraft 12 σ = some σ' ∧ CS σ' 12 S ∧ (∀ j, (j < 12 ∨ 24 ≤ j) → fw_g σ' j = fw_g σ j) ∧ (rLm σ → rLm σ') := by
  obtain ⟨σ', e, p, f, g1, g2, g3⟩ := cpS σ (h := 12) (h2 := 24 + 12 * d) (by omega) hc hS
  refine ⟨σ', ?_, p, fun j hj => f j (by omega), fun hl => ⟨g1.trans hl.1, g2.trans hl.2.1, g3.trans hl.2.2⟩⟩
  unfold pX1_returnToDraft
  rw [hg, ixI hd (by omega), sbd, e, sbd]
theorem kd_1 : ∀ d, d < 6 → nI d + 1 - (nI d + 1) / 6 * 6 = nI ((d + 1) % 6) := by decide +kernel
theorem kd_2 : ∀ p, p < 6 → (if (5 : Int32) < nI p + 1 then (5 : Int32) else nI p + 1) = nI (min 5 (p + 1)) := by decide +kernel
theorem c_keepDraft (σ : fw_T) {d p : Nat} (hd : d < 6) (hp : p ≤ 5) (h1 : fw_g σ 2 1 = nI d) (h2 : fw_g σ 2 2 = nI p) : ∃ σ', pX1_keepDraft σ = some σ' ∧ fw_g σ' 2 1 = nI ((d + 1) % 6) ∧ fw_g σ' 2 2 = nI (min 5 (p + 1)) ∧ ∀ j, j ≠ 2 → fw_g σ' j = fw_g σ j := by
  refine ⟨_, rfl, ?_, ?_, fun j hj => ?_⟩
  · rw [fw_uo _ _ _ _ _ (by decide), fw_us, h1, kd_1 d hd]
  · rw [fw_us, fw_uo _ _ _ _ _ (by decide), h2, kd_2 p (by omega)]
  · rw [fw_gn _ hj, fw_gn _ hj]
/-! copies of the reference -/
def mcp (τ : fw_T) (s so d o n : Nat) : fw_T := (fun j l => if j = d ∧ o ≤ l ∧ l < o + n then τ.1 s (so + (l - o)) else τ.1 j l, τ.2)
theorem mcp0 (τ : fw_T) (s so d o : Nat) : mcp τ s so d o 0 = τ := by
  have : ∀ l, ¬ (o ≤ l ∧ l < o + 0) := fun l => by omega
  simp only [mcp, this, and_false, if_false]
theorem mcp_ne {τ : fw_T} {s so d o n j : Nat} (h : j ≠ d) : fw_g (mcp τ s so d o n) j = fw_g τ j := by
  funext l
  simp [fw_g, mcp, h]
theorem mcp_at (τ : fw_T) (s so d o n l : Nat) : fw_g (mcp τ s so d o n) d l = if o ≤ l ∧ l < o + n then fw_g τ s (so + (l - o)) else fw_g τ d l := by
  simp [fw_g, mcp]
theorem mcp_in (τ : fw_T) (s so d o : Nat) {n l : Nat} (h : l < n) : fw_g (mcp τ s so d o n) d (o + l) = fw_g τ s (so + l) := by
  rw [mcp_at, if_pos (by omega), Nat.add_sub_cancel_left]
theorem mcp_step {τ : fw_T} {s so d o i : Nat} : fw_u (mcp τ s so d o i) d (o + i) (fw_g τ s (so + i)) = mcp τ s so d o (i + 1) := by
  unfold fw_u mcp fw_g
  refine Prod.ext (funext fun a => funext fun l => ?_) rfl
  by_cases ha : a = d
  · subst ha
    by_cases hl : l = o + i
    · subst hl
      simp
    · have e : (o ≤ l ∧ l < o + i) ↔ (o ≤ l ∧ l < o + (i + 1)) := by omega
      simp [hl, e]
  · simp [ha]
theorem note_58 (τ : fw_T) {p : Nat} (hp : p < 5) (h3 : fw_g τ 0 3 = nI p) : pX8_note_58 400 0 τ = some (fw_u (mcp τ 1 0 3 (52 * p) 52) 0 3 (nI (p + 1))) := by
  have := lp_all (fun n i => pX8_note_58 n (nI i) (mcp τ 1 0 3 (52 * p) i)) (N := 52) (fin := some (fw_u (mcp τ 1 0 3 (52 * p) 52) 0 3 (nI (p + 1)))) ?_ ?_ 400 0 (Nat.zero_le _) (by omega)
  · simp only [mcp0] at this
    exact this
  · intro n
    rw [pX8_note_58, if_pos (by decide), mcp_ne (by decide), h3, nI_1]
  · intro n i hi
    rw [pX8_note_58, if_neg (by rw [show (52 : Int32) = nI 52 from rfl, leI (by omega) (by omega)]; omega), rdI (by omega) (by omega), sbd, mcp_ne (by decide), mcp_ne (by decide), h3, show (52 : Int32) = nI 52 from rfl, mulI, nI_add, wrI (by omega) (by omega), sbd, nI_1]
    have := mcp_step (τ := τ) (s := 1) (so := 0) (d := 3) (o := 52 * p) (i := i)
    rw [Nat.zero_add] at this
    rw [this]
theorem note_18 (τ : fw_T) : pX8_note_18 400 0 τ = pX8_note_58 400 0 (fw_u (sft τ 3 0 208 52) 0 3 (fw_g τ 0 3 - 1)) := by
  have := lp_up (fun n i => pX8_note_18 n (nI i) (sft τ 3 0 i 52)) (fun _ => True) (N := 208) (fin := pX8_note_58 400 0 (fw_u (sft τ 3 0 208 52) 0 3 (fw_g τ 0 3 - 1))) ?_ ?_ 400 0 (Nat.zero_le _) trivial (by omega)
  · simp only [sft0] at this
    exact this
  · intro n _
    rw [pX8_note_18, if_pos (by decide), sft_ne (by decide)]
  · intro n i hi _
    right
    refine ⟨?_, trivial⟩
    rw [pX8_note_18, if_neg (by rw [show (208 : Int32) = nI 208 from rfl, leI (by omega) (by omega)]; omega), show (52 : Int32) = nI 52 from rfl, nI_add, rdI (by omega) (by omega), sbd, sft_at, if_neg (by omega), wrI (by omega) (by omega), sbd, sft_step (Nat.zero_le _), nI_1]
theorem m_note (τ : fw_T) {p : Nat} (hp : p ≤ 5) (h5 : fw_g τ 0 5 = 0) (h3 : fw_g τ 0 3 = nI p) : ∃ τ', pX8_note τ = some τ' ∧ fw_g τ' 0 3 = nI (min 5 (p + 1)) ∧ (∀ k, k ≠ 3 → fw_g τ' 0 k = fw_g τ 0 k) ∧ (∀ j, j ≠ 0 → j ≠ 3 → fw_g τ' j = fw_g τ j) ∧ (∀ l, l < 52 → fw_g τ' 3 (52 * (min 5 (p + 1) - 1) + l) = fw_g τ 1 l) ∧ ∀ l, l < 52 * (min 5 (p + 1) - 1) → fw_g τ' 3 l = fw_g τ 3 (if p = 5 then l + 52 else l) := by
  unfold pX8_note
  rw [if_pos h5, h3]
  by_cases hc : p = 5
  · subst hc
    rw [if_pos (show nI 5 = (5 : Int32) from rfl), note_18, note_58 _ (p := 4) (by omega) (by rw [fw_us, h3]; rfl)]
    refine ⟨_, rfl, fw_us _ _ _ _, fun k hk => ?_, fun j h6 h7 => ?_, fun l hl => ?_, fun l hl => ?_⟩
    · rw [fw_uo _ _ _ _ _ hk, mcp_ne (by decide), fw_uo _ _ _ _ _ hk, sft_ne (by decide)]
    · rw [fw_gn _ h6, mcp_ne h7, fw_gn _ h6, sft_ne h7]
    · rw [fw_gn _ (by decide), show min 5 (5 + 1) - 1 = 4 from rfl, mcp_in _ _ _ _ _ hl, fw_gn _ (by decide), sft_ne (by decide), Nat.zero_add]
    · rw [show min 5 (5 + 1) - 1 = 4 from rfl] at hl
      rw [fw_gn _ (by decide), mcp_at, if_neg (by omega), fw_gn _ (by decide), sft_at, if_pos (by omega), if_pos rfl]
  · rw [if_neg (by rw [show (5 : Int32) = nI 5 from rfl, eqI (by omega) (by omega)]; exact hc), note_58 _ (p := p) (by omega) h3, show min 5 (p + 1) = p + 1 by omega, Nat.add_sub_cancel]
    refine ⟨_, rfl, fw_us _ _ _ _, fun k hk => ?_, fun j h6 h7 => ?_, fun l hl => ?_, fun l hl => ?_⟩
    · rw [fw_uo _ _ _ _ _ hk, mcp_ne (by decide)]
    · rw [fw_gn _ h6, mcp_ne h7]
    · rw [fw_gn _ (by decide), mcp_in _ _ _ _ _ hl, Nat.zero_add]
    · rw [fw_gn _ (by decide), mcp_at, if_neg (by omega), if_neg hc]
