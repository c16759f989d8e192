/-! ===== a state, and what the query says of it ===== -/
abbrev St : Type := Tb × Tb × Ft × Tb
def CS (σ : fw_T) (h : Nat) (S : St) : Prop := PC σ (h + 1) S.1 ∧ PC σ (h + 3) S.2.1 ∧ FC σ (h + 5) S.2.2.1 ∧ PC σ (h + 10) S.2.2.2
def MS (τ : fw_T) (a o : Nat) (S : St) : Prop := PM τ a o S.1 ∧ PM τ a (o + 11) S.2.1 ∧ FM τ a (o + 22) S.2.2.1 ∧ PM τ a (o + 47) S.2.2.2
def OKS (S : St) : Prop := TOK 10 S.1 ∧ TOK 10 S.2.1 ∧ FOK S.2.2.1 ∧ TOK 4 S.2.2.2
def J (S : St) (a c b : Nat) : Bool := t_in S.1 (10 * a + b) && t_in S.2.1 (10 * b + c)
def rj (S : St) (a b c : Nat) : Nat := rej S.2.2.1 a b c
def MC (S : St) (w a c : Nat) : Nat := fb_ct (fun b => J S a c b && sb (rj S a b c) w) 10
theorem MC_le (S : St) (w a c : Nat) : MC S w a c ≤ 10 := fb_ct_le _ _
theorem sb0 (m : Nat) : sb m 0 = (m == 0) := by
  unfold sb
  rw [Nat.and_zero, Bool.eq_iff_iff, beq_iff_eq, beq_iff_eq]
  exact eq_comm
theorem decI (k : Nat) : nI (k + 1) + (-1 : Int32) = nI k := by rw [← Int32.sub_eq_add_neg]; exact nI_pred k
theorem nI00 {m : Nat} (h : m < 100000) : nI m = 0 ↔ m = 0 := by rw [show (0 : Int32) = nI 0 from rfl, eqI h (by omega)]
theorem nIle0 {m : Nat} (h : m < 100000) : nI m ≤ 0 ↔ m = 0 := by rw [show (0 : Int32) = nI 0 from rfl, leI h (by omega)]; omega
section
variable {σ τ : fw_T} {S : St}
theorem CS.frame {σ' : fw_T} {h : Nat} (hc : CS σ h S) (hg : ∀ j, h ≤ j → j < h + 12 → fw_g σ' j = fw_g σ j) : CS σ' h S := by
  obtain ⟨h1, h2, h3, h4⟩ := hc
  refine ⟨h1.cong (by rw [hg _ (by omega) (by omega)]) (hg _ (by omega) (by omega)), h2.cong (by rw [hg _ (by omega) (by omega)]) (hg _ (by omega) (by omega)), h3.cong (by rw [hg _ (by omega) (by omega)]) (hg _ (by omega) (by omega)) (hg _ (by omega) (by omega)) (hg _ (by omega) (by omega)) (hg _ (by omega) (by omega)), h4.cong (by rw [hg _ (by omega) (by omega)]) (hg _ (by omega) (by omega))⟩
theorem MS.frame {τ' : fw_T} {a a' o o' : Nat} (hm : MS τ a o S) (hS : OKS S) (hg : ∀ j, j < 52 → fw_g τ' a' (o' + j) = fw_g τ a (o + j)) : MS τ' a' o' S := by
  obtain ⟨h1, h2, h3, h4⟩ := hm
  obtain ⟨k1, k2, k3, k4⟩ := hS
  have l1 := k1.1
  have l2 := k2.1
  have l3 := k3.1
  have l4 := k4.1
  refine ⟨h1.cong (by have := hg 0 (by omega); simpa using this) (fun i hi => by rw [Nat.add_assoc, hg (1 + i) (by omega), Nat.add_assoc]), h2.cong (hg 11 (by omega)) (fun i hi => by rw [show o' + 11 + 1 + i = o' + (12 + i) by omega, hg (12 + i) (by omega)]; congr 1; omega), h3.cong (hg 22 (by omega)) (fun j hj => by rw [show o' + 22 + 1 + j = o' + (23 + j) by omega, hg (23 + j) (by omega)]; congr 1; omega), h4.cong (hg 47 (by omega)) (fun i hi => by rw [show o' + 47 + 1 + i = o' + (48 + i) by omega, hg (48 + i) (by omega)]; congr 1; omega)⟩
theorem c_joinedBs (hc : CS σ 12 S) (hS : OKS S) {a c : Nat} (ha : a < 10) (hc10 : c < 10) : pX3_joinedBs (nI a) (nI c) σ = some (nI (mk (J S a c) 10), σ) := by
  unfold pX3_joinedBs
  rw [c_secondsOf hc.1 hS.1 ha, sb2, c_firstsOf hc.2.1 hS.2.1 hc10, sb2, fa_and, mk_and]
  rfl
theorem c_countMatches (hc : CS σ 12 S) (hS : OKS S) {a c : Nat} (ha : a < 10) (hc10 : c < 10) : pX3_countMatches (nI a) (nI c) σ = some (nI (MC S 0 a c), σ) := by
  have hs := hS.2.2.1.1
  unfold pX3_countMatches
  rw [c_joinedBs hc hS ha hc10, sb2]
  refine lp_all (fun n i => pX3_countMatches_13 n (nI a) (nI c) (nI (mk (J S a c) 10)) (nI (fb_ct (fun b => J S a c b && sb (rj S a b c) 0) i)) (nI i) σ) (N := 10) ?_ ?_ 400 0 (Nat.zero_le _) (by omega)
  · intro n
    rw [pX3_countMatches_13, if_pos (by decide)]
    rfl
  · intro n b hb
    have hle := rej_lt hs a b c
    rw [pX3_countMatches_13, if_neg (by rw [show (10 : Int32) = nI 10 from rfl, leI (by omega) (by omega)]; omega), c_isIn hb, sb2, ifb, fb_ct_succ]
    cases hj : J S a c b with
    | false =>
      rw [if_neg (by decide), nI_1]
      simp
    | true =>
      rw [if_pos rfl, c_rejecters hc.2.2.1 hS.2.2.1, sb2]
      have e : sb (rj S a b c) 0 = (rej S.2.2.1 a b c == 0) := sb0 _
      by_cases hz : rej S.2.2.1 a b c = 0
      · rw [if_pos (by rw [hz]; rfl), nI_1, nI_1]
        simp [e, hz]
      · rw [if_neg (by rw [nI00 (by omega)]; exact hz), nI_1]
        simp [e, hz]
theorem m_matches (hm : MS τ 1 0 S) (hS : OKS S) {a c w : Nat} (ha : a < 10) (hc10 : c < 10) (hw : w < 64) : pX8_matches (nI a) (nI c) (nI w) τ = some (nI (MC S w a c), τ) := by
  have hs := hS.2.2.1.1
  unfold pX8_matches
  refine lp_all (fun n i => pX8_matches_6 n (nI a) (nI c) (nI w) (nI (fb_ct (fun b => J S a c b && sb (rj S a b c) w) i)) (nI i) τ) (N := 10) ?_ ?_ 400 0 (Nat.zero_le _) (by omega)
  · intro n
    rw [pX8_matches_6, if_pos (by decide)]
    rfl
  · intro n b hb
    have z0 : ∀ k : Nat, nI k + (0 : Int32) = nI k := fun k => nI_add k 0
    rw [pX8_matches_6, if_neg (by rw [show (10 : Int32) = nI 10 from rfl, leI (by omega) (by omega)]; omega), m_has0 hm.1 hS.1 ha hb, sb2, ifb, fb_ct_succ]
    unfold J
    cases h1 : t_in S.1 (10 * a + b) with
    | false =>
      rw [if_neg (by decide), nI_1, z0]
      simp
    | true =>
      rw [if_pos rfl, m_has11 hm.2.1 hS.2.1 hb hc10, sb2, ifb]
      cases h2 : t_in S.2.1 (10 * b + c) with
      | false =>
        rw [if_neg (by decide), nI_1, z0]
        simp
      | true =>
        rw [if_pos rfl, m_passesAll hm.2.2.1 hS.2.2.1 hw, sb2, ifb]
        unfold rj
        cases h3 : sb (rej S.2.2.1 a b c) w with
        | false =>
          rw [if_neg (by decide), nI_1, z0]
          simp
        | true =>
          rw [if_pos rfl, nI_1, nI_1]
          simp
def ans (S : St) (k : Nat) : Bool := decide (0 < MC S 0 (k / 10) (k % 10))
theorem m_isAnswer (hm : MS τ 1 0 S) (hS : OKS S) {a c : Nat} (ha : a < 10) (hc10 : c < 10) : pX8_isAnswer (nI a) (nI c) τ = some (bI (decide (0 < MC S 0 a c)), τ) := by
  unfold pX8_isAnswer
  have hl := MC_le S 0 a c
  rw [show (0 : Int32) = nI 0 from rfl, m_matches hm hS ha hc10 (by omega), sb2, show nI 0 = (0 : Int32) from rfl]
  by_cases hz : MC S 0 a c = 0
  · rw [if_pos (by rw [nIle0 (by omega)]; exact hz), hz]; rfl
  · rw [if_neg (by rw [nIle0 (by omega)]; exact hz)]
    have : 0 < MC S 0 a c := by omega
    simp [this, bI, rz1]
theorem m_ansAt (hm : MS τ 1 0 S) (hS : OKS S) {k : Nat} (hk : k < 100) : pX8_isAnswer (nI k / 10) (nI k - nI k / 10 * 10) τ = some (bI (ans S k), τ) := by
  rw [mod10 k hk, div10 k hk, m_isAnswer hm hS (by omega) (by omega)]
  rfl
theorem m_answers (hm : MS τ 1 0 S) (hS : OKS S) : pX8_answers τ = some (nI (fb_ct (ans S) 100), τ) := by
  unfold pX8_answers
  refine lp_all (fun n i => pX8_answers_4 n (nI (fb_ct (ans S) i)) (nI i) τ) (N := 100) ?_ ?_ 400 0 (Nat.zero_le _) (by omega)
  · intro n
    rw [pX8_answers_4, if_pos (by decide)]
  · intro n k hk
    have z0 : ∀ k : Nat, nI k + (0 : Int32) = nI k := fun k => nI_add k 0
    rw [pX8_answers_4, if_neg (by rw [show (100 : Int32) = nI 100 from rfl, leI (by omega) (by omega)]; omega), m_ansAt hm hS hk, sb2, ifb, fb_ct_succ]
    cases ans S k with
    | false => rw [if_neg (by decide), nI_1, z0]; simp
    | true => rw [if_pos rfl, nI_1, nI_1]; simp
/-- the j-th that q has below 100 -/
def kth (q : Nat → Bool) (j : Nat) : Int32 := match (List.range 100).find? (fun p => q p && fb_ct q p == j) with
  | some p => nI p
  | none => -10001
theorem kth_at {q : Nat → Bool} {j p : Nat} (hp : p < 100) (hq : q p = true) (he : fb_ct q p = j) : kth q j = nI p := by
  have hf : (List.range 100).find? (fun p => q p && fb_ct q p == j) = some p := by
    rw [List.find?_range_eq_some]
    refine ⟨by simp [hq, he], by simpa using hp, ?_⟩
    intro i hi
    simp only [Bool.not_eq_true', Bool.and_eq_false_iff, beq_eq_false_iff_ne]
    by_cases hqi : q i = true
    · right
      have := fb_ct_mono q (show i + 1 ≤ p by omega)
      rw [fb_ct_succ, if_pos hqi] at this
      omega
    · left
      simpa using hqi
  unfold kth
  rw [hf]
theorem kth_no {q : Nat → Bool} {j : Nat} (h : fb_ct q 100 ≤ j) : kth q j = -10001 := by
  have hf : (List.range 100).find? (fun p => q p && fb_ct q p == j) = none := by
    rw [List.find?_range_eq_none]
    intro i hi
    simp only [Bool.not_eq_true', Bool.and_eq_false_iff, beq_eq_false_iff_ne]
    by_cases hqi : q i = true
    · right
      have := fb_ct_mono q (show i + 1 ≤ 100 by omega)
      rw [fb_ct_succ, if_pos hqi] at this
      omega
    · left
      simpa using hqi
  unfold kth
  rw [hf]
theorem m_answerAt (hm : MS τ 1 0 S) (hS : OKS S) {j : Nat} (hj : j < 2 ^ 31) : pX8_answerAt (nI j) τ = some (kth (ans S) j, τ) := by
  unfold pX8_answerAt
  refine lp_up (fun n i => pX8_answerAt_4 n (nI (j - fb_ct (ans S) i)) (nI i) τ) (fun i => fb_ct (ans S) i ≤ j) (N := 100) ?_ ?_ 400 0 (Nat.zero_le _) (Nat.zero_le _) (by omega)
  · intro n hP
    rw [pX8_answerAt_4, if_pos (by decide), kth_no hP]
  · intro n k hk hP
    have hk2 := fb_ct_le (ans S) k
    rw [pX8_answerAt_4, if_neg (by rw [show (100 : Int32) = nI 100 from rfl, leI (by omega) (by omega)]; omega), m_ansAt hm hS hk, sb2, ifb]
    cases hq : ans S k with
    | false =>
      right
      rw [if_neg (by decide), nI_1, fb_ct_succ, hq]
      exact ⟨rfl, hP⟩
    | true =>
      rw [if_pos rfl]
      by_cases he : fb_ct (ans S) k = j
      · left
        rw [if_pos (by rw [he, Nat.sub_self]; rfl), kth_at hk hq he]
      · right
        rw [if_neg (by rw [show (0 : Int32) = nI 0 from rfl, nI_eq (by omega) (by omega)]; omega), nI_1, fb_ct_succ, hq, if_pos rfl]
        refine ⟨?_, by omega⟩
        have : nI (j - fb_ct (ans S) k) + (-1 : Int32) = nI (j - (fb_ct (ans S) k + 1)) := by
          rw [show j - fb_ct (ans S) k = (j - (fb_ct (ans S) k + 1)) + 1 by omega, decI]
        rw [this]
end
