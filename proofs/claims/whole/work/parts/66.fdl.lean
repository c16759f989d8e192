/-! ===== filters taken out and changed; missing rows; loosening ===== -/
def sft4 (σ : fw_T) (lo hi : Nat) : fw_T := (fun a l => if (18 ≤ a ∧ a ≤ 21) ∧ lo ≤ l ∧ l < hi then σ.1 a (l + 1) else σ.1 a l, σ.2)
theorem sft4_0 (σ : fw_T) (lo : Nat) : sft4 σ lo lo = σ := by
  have : ∀ l, ¬ (lo ≤ l ∧ l < lo) := fun l => by omega
  simp only [sft4, this, and_false, if_false]
theorem sft4_ne {σ : fw_T} {lo hi j : Nat} (hj : j < 18 ∨ 21 < j) : fw_g (sft4 σ lo hi) j = fw_g σ j := by
  have : ¬ (18 ≤ j ∧ j ≤ 21) := by omega
  funext l
  simp [fw_g, sft4, this]
theorem sft4_at (σ : fw_T) {lo hi a l : Nat} (h1 : 18 ≤ a) (h2 : a ≤ 21) : fw_g (sft4 σ lo hi) a l = if lo ≤ l ∧ l < hi then fw_g σ a (l + 1) else fw_g σ a l := by
  simp [fw_g, sft4, h1, h2]
theorem sft4_step {σ : fw_T} {lo i : Nat} (hi : lo ≤ i) : fw_u (fw_u (fw_u (fw_u (sft4 σ lo i) 18 i (fw_g σ 18 (i + 1))) 19 i (fw_g σ 19 (i + 1))) 20 i (fw_g σ 20 (i + 1))) 21 i (fw_g σ 21 (i + 1)) = sft4 σ lo (i + 1) := by
  unfold fw_u sft4 fw_g
  refine Prod.ext (funext fun a => funext fun l => ?_) rfl
  by_cases hl : l = i
  · subst hl
    by_cases h1 : a = 21
    · subst h1; simp [hi]
    · by_cases h2 : a = 20
      · subst h2; simp [hi]
      · by_cases h3 : a = 19
        · subst h3; simp [hi]
        · by_cases h4 : a = 18
          · subst h4; simp [hi]
          · have : ¬ (18 ≤ a ∧ a ≤ 21) := by omega
            simp [h1, h2, h3, h4, this]
  · have e : (lo ≤ l ∧ l < i) ↔ (lo ≤ l ∧ l < i + 1) := by omega
    simp [hl, e]
section
variable {σ τ : fw_T} {S : St}
theorem c_fdrop_loop {n k : Nat} (hn : n ≤ 5) (hk : k ≤ n) (hp : fw_g σ 17 4 = nI n) : pX0_drop_24 17 400 (nI k) σ = some (nI n, sft4 σ k n) := by
  have e : ∀ i, fw_g (sft4 σ k i) 17 4 = nI n := fun i => by rw [sft4_ne (by omega)]; exact hp
  have := lp_up (fun m i => pX0_drop_24 17 m (nI i) (sft4 σ k i)) (fun i => k ≤ i) (N := n) (fin := some (nI n, sft4 σ k n)) ?_ ?_ 400 k hk (Nat.le_refl k) (by omega)
  · rw [sft4_0] at this
    exact this
  · intro m _
    rw [pX0_drop_24, e, if_pos (by rw [leI (by omega) (by omega)]; omega)]
  · intro m i hi hP
    right
    refine ⟨?_, by omega⟩
    rw [pX0_drop_24, e, if_neg (by rw [leI (by omega) (by omega)]; omega), nI_1, rdI (by omega) (by omega), sbd, wrI (by omega) (by omega), sbd, rdI (by omega) (by omega), sbd, wrI (by omega) (by omega), sbd, rdI (by omega) (by omega), sbd, wrI (by omega) (by omega), sbd, rdI (by omega) (by omega), sbd, wrI (by omega) (by omega), sbd]
    rw [show 17 + 1 = 18 from rfl, show 17 + 2 = 19 from rfl, show 17 + 3 = 20 from rfl, show 17 + 4 = 21 from rfl]
    have a1 : fw_g (sft4 σ k i) 18 (i + 1) = fw_g σ 18 (i + 1) := by rw [sft4_at _ (by omega) (by omega), if_neg (by omega)]
    have a2 : fw_g (fw_u (sft4 σ k i) 18 i (fw_g σ 18 (i + 1))) 19 (i + 1) = fw_g σ 19 (i + 1) := by rw [fw_gn _ (by decide), sft4_at _ (by omega) (by omega), if_neg (by omega)]
    have a3 : fw_g (fw_u (fw_u (sft4 σ k i) 18 i (fw_g σ 18 (i + 1))) 19 i (fw_g σ 19 (i + 1))) 20 (i + 1) = fw_g σ 20 (i + 1) := by rw [fw_gn _ (by decide), fw_gn _ (by decide), sft4_at _ (by omega) (by omega), if_neg (by omega)]
    have a4 : fw_g (fw_u (fw_u (fw_u (sft4 σ k i) 18 i (fw_g σ 18 (i + 1))) 19 i (fw_g σ 19 (i + 1))) 20 i (fw_g σ 20 (i + 1))) 21 (i + 1) = fw_g σ 21 (i + 1) := by rw [fw_gn _ (by decide), fw_gn _ (by decide), fw_gn _ (by decide), sft4_at _ (by omega) (by omega), if_neg (by omega)]
    rw [a1, a2, a3, a4, sft4_step hP]
/-- the class takes filter k out -/
theorem c_fdrop (hc : CS σ 12 S) (hS : OKS S) (hl : rLm σ) {k : Nat} (hk : k < S.2.2.1.1) : ∃ σ', pX0_drop 17 (nI k) σ = some (nI (S.2.2.1.1 - 1), σ') ∧ CS σ' 12 (s_f S (f_del S.2.2.1 k)) ∧ rLm σ' ∧ ∀ j, (j < 12 ∨ 24 ≤ j) → fw_g σ' j = fw_g σ j := by
  have hs := hS.2.2.1.1
  have hf : FC σ 17 S.2.2.1 := hc.2.2.1
  have fr : ∀ j, (j < 17 ∨ 22 ≤ j) → fw_g (sft4 (fw_u σ 17 4 (nI (S.2.2.1.1 - 1))) k (S.2.2.1.1 - 1)) j = fw_g σ j := fun j hj => by rw [sft4_ne (by omega), fw_gn _ (by omega)]
  refine ⟨sft4 (fw_u σ 17 4 (nI (S.2.2.1.1 - 1))) k (S.2.2.1.1 - 1), ?_, hc.tf ⟨?_, fun i hi => ?_⟩ fr, hl.tf fr, fun j hj => fr j (by omega)⟩
  · unfold pX0_drop
    rw [c_fholds hf hs hk, sb2, if_neg (by decide), hf.1, show (1 : Int32) = nI 1 from rfl, subI (by omega), c_fdrop_loop (n := S.2.2.1.1 - 1) (by omega) (by omega) (fw_us _ _ _ _)]
  · rw [sft4_ne (by omega), fw_us]; rfl
  · simp only [f_del] at hi ⊢
    rw [show 17 + 1 = 18 from rfl, show 17 + 2 = 19 from rfl, show 17 + 3 = 20 from rfl, show 17 + 4 = 21 from rfl, sft4_at _ (by omega) (by omega), sft4_at _ (by omega) (by omega), sft4_at _ (by omega) (by omega), sft4_at _ (by omega) (by omega), fw_gn _ (show 18 ≠ 17 by decide), fw_gn _ (show 19 ≠ 17 by decide), fw_gn _ (show 20 ≠ 17 by decide), fw_gn _ (show 21 ≠ 17 by decide)]
    by_cases hik : i < k
    · have hn : ¬ (k ≤ i ∧ i < S.2.2.1.1 - 1) := by omega
      simp only [if_neg hn, if_pos hik]
      exact hf.2 i (by omega)
    · have hn : k ≤ i ∧ i < S.2.2.1.1 - 1 := by omega
      simp only [if_pos hn, if_neg hik]
      exact hf.2 (i + 1) (by omega)
theorem c_fdrop_bad (hc : CS σ 12 S) (hS : OKS S) {x : Int32} (hx : ¬ ∃ i, i < S.2.2.1.1 ∧ x = nI i) : pX0_drop 17 x σ = some (-10002, σ) := by
  unfold pX0_drop
  rw [c_fholds_bad hc.2.2.1 hS.2.2.1.1 (fun i hi he => hx ⟨i, hi, he⟩), sb2, if_pos rfl]
/-- the reference takes filter k out -/
theorem m_fdrop (hm : MS τ 1 0 S) (hS : OKS S) {k : Nat} (hk : k < S.2.2.1.1) : ∃ τ', pX8_dropFilter (nI k) τ = some τ' ∧ MS τ' 1 0 (s_f S (f_del S.2.2.1 k)) ∧ ∀ j, j ≠ 1 → fw_g τ' j = fw_g τ j := by
  have hs := hS.2.2.1.1
  have hf : FM τ 1 22 S.2.2.1 := hm.2.2.1
  refine ⟨fw_u (sft τ 1 (23 + 4 * k) 43 4) 1 22 (nI (S.2.2.1.1 - 1)), ?_, hm.tf hS ⟨fw_us _ _ _ _, fun i hi => ?_⟩ (fun l hl => by rw [fw_uo _ _ _ _ _ (by omega), sft_at, if_neg (by omega)]), fun j hj => by rw [fw_gn _ hj, sft_ne hj]⟩
  · unfold pX8_dropFilter
    rw [show (23 : Int32) = nI 23 from rfl, show (4 : Int32) = nI 4 from rfl, mulI, nI_add]
    have := lp_up (fun m i => pX8_dropFilter_7 m (nI i) (sft τ 1 (23 + 4 * k) i 4)) (fun i => 23 + 4 * k ≤ i) (N := 43) (fin := some (fw_u (sft τ 1 (23 + 4 * k) 43 4) 1 22 (nI (S.2.2.1.1 - 1)))) ?_ ?_ 400 (23 + 4 * k) (by omega) (Nat.le_refl _) (by omega)
    · rw [sft0] at this
      exact this
    · intro m _
      rw [pX8_dropFilter_7, if_pos (by decide), show (22 : Int32) = nI 22 from rfl, rdI (by omega) (by omega), sbd, sft_at, if_neg (by omega), hf.1, show (1 : Int32) = nI 1 from rfl, subI (by omega), wrI (by omega) (by omega), sbd]
    · intro m i hi hP
      right
      refine ⟨?_, by omega⟩
      rw [pX8_dropFilter_7, show (4 : Int32) = nI 4 from rfl, nI_add, if_neg (by rw [show (47 : Int32) = nI 47 from rfl, leI (by omega) (by omega)]; omega), rdI (by omega) (by omega), sbd, sft_at, if_neg (by omega), wrI (by omega) (by omega), sbd, sft_step hP, nI_1]
  · simp only [f_del] at hi ⊢
    rw [fw_uo _ _ _ _ _ (by omega), fw_uo _ _ _ _ _ (by omega), fw_uo _ _ _ _ _ (by omega), fw_uo _ _ _ _ _ (by omega), sft_at, sft_at, sft_at, sft_at]
    by_cases hik : i < k
    · rw [if_pos hik, if_neg (by omega), if_neg (by omega), if_neg (by omega), if_neg (by omega)]
      exact hf.2 i (by omega)
    · rw [if_neg hik, if_pos (by omega), if_pos (by omega), if_pos (by omega), if_pos (by omega)]
      obtain ⟨e1, e2, e3, e4⟩ := hf.2 (i + 1) (by omega)
      refine ⟨?_, ?_, ?_, ?_⟩
      · rw [← e1]; congr 1
      · rw [← e2]; congr 1
      · rw [← e3]; congr 1
      · rw [← e4]; congr 1
end
theorem op_fdel {S : St} (hS : OKS S) (x : Int32) : OpN (pX0_drop 17 x) (pX8_removeFilter x) S := by
  have hs := hS.2.2.1.1
  have em : ∀ τ, MS τ 1 0 S → pX8_removeFilter x τ = if bI (decide (∃ i, i < S.2.2.1.1 ∧ x = nI i)) = 0 then pX8_fail (-10002) τ else (pX8_note τ).bind fun τ5 => (pX8_dropFilter x τ5).bind fun τ7 => (fw_rd τ7 1 52 (22 : Int32)).bind fun w8 => some (w8, τ7) := fun τ hm => by
    unfold pX8_removeFilter
    rw [m_isFilter hm.2.2.1.1 hs, sb2, b2_id]
  by_cases hx : ∃ i, i < S.2.2.1.1 ∧ x = nI i
  · obtain ⟨i, hi, rfl⟩ := id hx
    refine ⟨nI (S.2.2.1.1 - 1), s_f S (f_del S.2.2.1 i), hS.tf (hS.2.2.1.del hi), (fun h => noE (by omega) h), fun σ hc hl => c_fdrop hc hS hl hi, fun τ hm => ⟨fun h => noE (by omega) h, fun _ τ1 n1 hm1 => ?_⟩, fun _ => nI_pos (by omega)⟩
    obtain ⟨τ2, q1, q2, q3⟩ := m_fdrop hm1 hS hi
    refine ⟨τ2, ?_, q2, q3⟩
    have q4 : fw_g τ2 1 22 = nI (S.2.2.1.1 - 1) := q2.2.2.1.1
    rw [em τ hm, decide_eq_true hx, bIt, if_neg (by decide), n1, sbd, q1, sbd, show (22 : Int32) = nI 22 from rfl, rdI (by omega) (by omega), sbd, q4]
  · exact op_sameN hS (r := -10002) (by decide) (fun σ hc _ => c_fdrop_bad hc hS hx) (fun τ hm => by rw [em τ hm, decide_eq_false hx, bIf, if_pos rfl])
theorem op_fset {S : St} (hS : OKS S) (x k : Int32) : Op (pX0_replaceConstant 17 x k) (pX8_setConstant x k) S := by
  have hs := hS.2.2.1.1
  by_cases hx : ∃ i, i < S.2.2.1.1 ∧ x = nI i
  · obtain ⟨i, hi, rfl⟩ := id hx
    obtain ⟨k1, k2, k3, k4⟩ := hS.2.2.1.2 i hi
    have ec : ∀ σ, CS σ 12 S → pX0_replaceConstant 17 (nI i) k σ = if bI (kOK (S.2.2.1.2 i).1 k) = 0 then some ((-10002 : Int32), σ) else some ((S.2.2.1.2 i).2.2.2, fw_u σ 21 i k) := fun σ hc => by
      obtain ⟨e1, e2, e3, e4⟩ := hc.2.2.1.2 i hi
      unfold pX0_replaceConstant
      rw [c_fholds hc.2.2.1 hs hi, sb2, if_neg (by decide), rdI (by omega) (by omega), sbd, e1, c_isConstant k1, sb2, rdI (by omega) (by omega), sbd, wrI (by omega) (by omega), sbd, e4]
    have em : ∀ τ, MS τ 1 0 S → pX8_setConstant (nI i) k τ = if bI (kOK (S.2.2.1.2 i).1 k) = 0 then pX8_fail (-10002) τ else (pX8_note τ).bind fun τ14 => fw_b2 (pX8_of (nI i) (3 : Int32) τ14) fun w17 τ16 => (fw_wr τ16 1 52 (((23 : Int32) + ((4 : Int32) * (nI i))) + (3 : Int32)) k).bind fun τ18 => some (w17, τ18) := fun τ hm => by
      have e1 := (hm.2.2.1.2 i hi).1
      unfold pX8_setConstant
      rw [m_isFilter hm.2.2.1.1 hs, sb2, decide_eq_true hx, bIt, if_neg (by decide), show (0 : Int32) = nI 0 from rfl, m_of (by omega) (by omega), sb2, show 23 + 4 * i + 0 = 0 + 22 + 1 + 4 * i by omega, e1, m_isConstant k1, sb2, b2_id]
    cases hk : kOK (S.2.2.1.2 i).1 k with
    | false => exact op_same hS (r := -10002) (by decide) (fun σ hc _ => by rw [ec σ hc, hk, bIf, if_pos rfl]) (fun τ hm => by rw [em τ hm, hk, bIf, if_pos rfl])
    | true =>
      obtain ⟨t, ht, hv⟩ := kOK_vI k4
      have hnE : isE (S.2.2.1.2 i).2.2.2 = false := by rw [hv]; exact isE_vI t ht
      refine ⟨(S.2.2.1.2 i).2.2.2, s_f S (f_set S.2.2.1 i k), hS.set hi hk, (fun h => by rw [hnE] at h; cases h), fun σ hc hl => ?_, fun τ hm => ⟨(fun h => by rw [hnE] at h; cases h), fun _ τ1 n1 hm1 => ?_⟩⟩
      · have fr : ∀ j, (j < 17 ∨ 22 ≤ j) → fw_g (fw_u σ 21 i k) j = fw_g σ j := fun j hj => fw_gn _ (by omega)
        refine ⟨_, by rw [ec σ hc, hk, bIt, if_neg (by decide)], hc.tf ⟨?_, fun j hj => ?_⟩ fr, hl.tf fr, fun j hj => fr j (by omega)⟩
        · rw [fw_gn _ (by decide)]; exact hc.2.2.1.1
        · obtain ⟨e1, e2, e3, e4⟩ := hc.2.2.1.2 j hj
          rw [fw_gn _ (show 17 + 1 ≠ 21 by decide), fw_gn _ (show 17 + 2 ≠ 21 by decide), fw_gn _ (show 17 + 3 ≠ 21 by decide), show 17 + 4 = 21 from rfl, fw_gu]
          simp only [f_set, upd]
          by_cases hji : j = i
          · subst hji
            simp only [if_pos rfl]
            exact ⟨e1, e2, e3, rfl⟩
          · simp only [if_neg hji]
            exact ⟨e1, e2, e3, e4⟩
      · have e4 := (hm1.2.2.1.2 i hi).2.2.2
        refine ⟨_, ?_, hm1.set hS hi k, fun j hj => fw_gn _ hj⟩
        rw [em τ hm, hk, bIt, if_neg (by decide), n1, sbd, show (3 : Int32) = nI 3 from rfl, m_of (by omega) (by omega), sb2, show (23 : Int32) = nI 23 from rfl, show (4 : Int32) = nI 4 from rfl, mulI, nI_add, nI_add, wrI (by omega) (by omega), sbd, show 23 + 4 * i + 3 = 0 + 22 + 1 + 4 * i + 3 by omega, e4, show 0 + 22 + 1 + 4 * i + 3 = 26 + 4 * i by omega]
  · refine op_same hS (r := -10002) (by decide) (fun σ hc _ => ?_) (fun τ hm => ?_)
    · unfold pX0_replaceConstant
      rw [c_fholds_bad hc.2.2.1 hs (fun i hi he => hx ⟨i, hi, he⟩), sb2, if_pos rfl]
    · unfold pX8_setConstant
      rw [m_isFilter hm.2.2.1.1 hs, sb2, decide_eq_false hx, bIf, if_pos rfl, b2_id]
theorem sim_removeFilter : sm1 sim_Rel pX7_removeFilter pX8_removeFilter := fun x σ τ h => sim_edit (f := pX0_drop 17 x) (g := pX8_removeFilter x) h (fun S hS => (op_fdel hS x).op)
theorem sim_setConstant : sm2 sim_Rel pX7_setConstant pX8_setConstant := fun x k σ τ h => sim_edit (f := pX0_replaceConstant 17 x k) (g := pX8_setConstant x k) h (fun S hS => op_fset hS x k)
