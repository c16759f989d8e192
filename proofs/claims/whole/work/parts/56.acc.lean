/-! ===== what one filter accepts; costs ===== -/
def AB (S : St) (i : Nat) : Nat := if (S.2.2.1.2 i).1 = 0 then fb_ct (fun r => e_acc (S.2.2.1.2 i) (S.1.2 r / 10) (S.1.2 r % 10) 0) S.1.1 else if (S.2.2.1.2 i).1 = 1 then fb_ct (fun r => e_acc (S.2.2.1.2 i) 0 (S.2.1.2 r / 10) (S.2.1.2 r % 10)) S.2.1.1 else fb_sm (fun r => fb_ct (fun j => S.2.1.2 j / 10 == S.1.2 r % 10 && e_acc (S.2.2.1.2 i) (S.1.2 r / 10) (S.1.2 r % 10) (S.2.1.2 j % 10)) S.2.1.1) S.1.1
section
variable {σ τ : fw_T} {S : St}
theorem c_isAtStage {h : Nat} {f : Ft} (hf : FC σ h f) (hk : FOK f) {i st : Nat} (hi : i < f.1) (hst : st ≤ 2) : pX0_isAtStage h (nI i) (nI st) σ = some (bI (decide ((f.2 i).1 = st)), σ) := by
  have hs := hk.1
  have h1 := (hk.2 i hi).1
  unfold pX0_isAtStage
  rw [c_fholds hf hs hi, sb2, if_neg (by decide), rdI (by omega) (by omega), sbd, (hf.2 i hi).1]
  by_cases hc : (f.2 i).1 = st
  · rw [if_pos (by rw [hc])]; simp [hc, bI, rz1]
  · rw [if_neg (by rw [eqI (by omega) (by omega)]; exact hc)]; simp [hc, bI, rz0]
theorem c_accL (hc : CS σ 12 S) (hS : OKS S) {i : Nat} (hi : i < S.2.2.1.1) : pX3_countAcceptedLeft (nI i) σ = some (nI (fb_ct (fun r => e_acc (S.2.2.1.2 i) (S.1.2 r / 10) (S.1.2 r % 10) 0) S.1.1), σ) := by
  have hl := hS.1.1
  unfold pX3_countAcceptedLeft
  refine lp_all (fun n r => pX3_countAcceptedLeft_4 n (nI i) (nI (fb_ct (fun r => e_acc (S.2.2.1.2 i) (S.1.2 r / 10) (S.1.2 r % 10) 0) r)) (nI r) σ) (N := S.1.1) ?_ ?_ 400 0 (Nat.zero_le _) (by omega)
  · intro n
    rw [pX3_countAcceptedLeft_4, hc.1.1, if_pos (by rw [leI (by omega) (by omega)]; omega)]
  · intro n r hr
    rw [pX3_countAcceptedLeft_4, hc.1.1, if_neg (by rw [leI (by omega) (by omega)]; omega), c_firstAt hc.1 hS.1 hr, sb2, c_secondAt hc.1 hS.1 hr, sb2, show (0 : Int32) = nI 0 from rfl, c_accepts hc.2.2.1 hS.2.2.1 hi, sb2, show nI 0 = (0 : Int32) from rfl, ifb, fb_ct_succ]
    cases e_acc (S.2.2.1.2 i) (S.1.2 r / 10) (S.1.2 r % 10) 0 with
    | false => rw [if_neg (by decide), nI_1]; simp
    | true => rw [if_pos rfl, nI_1, nI_1]; simp
theorem c_accR (hc : CS σ 12 S) (hS : OKS S) {i : Nat} (hi : i < S.2.2.1.1) : pX3_countAcceptedRight (nI i) σ = some (nI (fb_ct (fun r => e_acc (S.2.2.1.2 i) 0 (S.2.1.2 r / 10) (S.2.1.2 r % 10)) S.2.1.1), σ) := by
  have hl := hS.2.1.1
  unfold pX3_countAcceptedRight
  refine lp_all (fun n r => pX3_countAcceptedRight_4 n (nI i) (nI (fb_ct (fun r => e_acc (S.2.2.1.2 i) 0 (S.2.1.2 r / 10) (S.2.1.2 r % 10)) r)) (nI r) σ) (N := S.2.1.1) ?_ ?_ 400 0 (Nat.zero_le _) (by omega)
  · intro n
    rw [pX3_countAcceptedRight_4, hc.2.1.1, if_pos (by rw [leI (by omega) (by omega)]; omega)]
  · intro n r hr
    rw [pX3_countAcceptedRight_4, hc.2.1.1, if_neg (by rw [leI (by omega) (by omega)]; omega), c_firstAt hc.2.1 hS.2.1 hr, sb2, c_secondAt hc.2.1 hS.2.1 hr, sb2, show (0 : Int32) = nI 0 from rfl, c_accepts hc.2.2.1 hS.2.2.1 hi, sb2, show nI 0 = (0 : Int32) from rfl, ifb, fb_ct_succ]
    cases e_acc (S.2.2.1.2 i) 0 (S.2.1.2 r / 10) (S.2.1.2 r % 10) with
    | false => rw [if_neg (by decide), nI_1]; simp
    | true => rw [if_pos rfl, nI_1, nI_1]; simp
def jc (S : St) (i r : Nat) : Nat → Nat := fb_ct (fun j => S.2.1.2 j / 10 == S.1.2 r % 10 && e_acc (S.2.2.1.2 i) (S.1.2 r / 10) (S.1.2 r % 10) (S.2.1.2 j % 10))
theorem c_accJ_in (hc : CS σ 12 S) (hS : OKS S) {i r : Nat} (hi : i < S.2.2.1.1) (hr : r < S.1.1) (K : Int32 → Int32 → Int32 → fw_T → Option (Int32 × fw_T)) (m : Nat) : pX3_countAcceptedJoined_47 K 400 (nI i) (nI m) (nI r) (nI (S.1.2 r / 10)) (nI (S.1.2 r % 10)) 0 σ = K (nI i) (nI (m + jc S i r S.2.1.1)) (nI (r + 1)) σ := by
  have hl := hS.2.1.1
  have hl2 := hS.1.2 r hr
  refine lp_all (fun n j => pX3_countAcceptedJoined_47 K n (nI i) (nI (m + jc S i r j)) (nI r) (nI (S.1.2 r / 10)) (nI (S.1.2 r % 10)) (nI j) σ) (N := S.2.1.1) ?_ ?_ 400 0 (Nat.zero_le _) (by omega)
  · intro n
    rw [pX3_countAcceptedJoined_47, hc.2.1.1, if_pos (by rw [leI (by omega) (by omega)]; omega), nI_1]
  · intro n j hj
    have hrj := hS.2.1.2 j hj
    rw [pX3_countAcceptedJoined_47, hc.2.1.1, if_neg (by rw [leI (by omega) (by omega)]; omega), c_firstAt hc.2.1 hS.2.1 hj, sb2]
    have e : jc S i r (j + 1) = jc S i r j + (if (S.2.1.2 j / 10 == S.1.2 r % 10 && e_acc (S.2.2.1.2 i) (S.1.2 r / 10) (S.1.2 r % 10) (S.2.1.2 j % 10)) = true then 1 else 0) := rfl
    rw [e]
    by_cases h1 : S.2.1.2 j / 10 = S.1.2 r % 10
    · rw [if_pos (by rw [h1]), c_secondAt hc.2.1 hS.2.1 hj, sb2, c_accepts hc.2.2.1 hS.2.2.1 hi, sb2, ifb, nI_1, nI_1]
      cases e_acc (S.2.2.1.2 i) (S.1.2 r / 10) (S.1.2 r % 10) (S.2.1.2 j % 10) with
      | false => rw [if_neg (by decide)]; simp
      | true => rw [if_pos rfl]; simp [h1, Nat.add_assoc]
    · rw [if_neg (by rw [eqI (by omega) (by omega)]; exact h1), nI_1]
      simp [h1]
theorem c_accJ (hc : CS σ 12 S) (hS : OKS S) {i : Nat} (hi : i < S.2.2.1.1) : pX3_countAcceptedJoined (nI i) σ = some (nI (fb_sm (fun r => jc S i r S.2.1.1) S.1.1), σ) := by
  have hl := hS.1.1
  unfold pX3_countAcceptedJoined
  refine lp_all (fun n r => pX3_countAcceptedJoined_4 n (nI i) (nI (fb_sm (fun r => jc S i r S.2.1.1) r)) (nI r) σ) (N := S.1.1) ?_ ?_ 400 0 (Nat.zero_le _) (by omega)
  · intro n
    rw [pX3_countAcceptedJoined_4, hc.1.1, if_pos (by rw [leI (by omega) (by omega)]; omega)]
  · intro n r hr
    rw [pX3_countAcceptedJoined_4, hc.1.1, if_neg (by rw [leI (by omega) (by omega)]; omega), c_firstAt hc.1 hS.1 hr, sb2, c_secondAt hc.1 hS.1 hr, sb2, c_accJ_in hc hS hi hr]
    rfl
theorem c_countAccepted (hc : CS σ 12 S) (hS : OKS S) {i : Nat} (hi : i < S.2.2.1.1) : pX3_countAccepted (nI i) σ = some (nI (AB S i), σ) := by
  have h1 := (hS.2.2.1.2 i hi).1
  unfold pX3_countAccepted AB
  rw [show (0 : Int32) = nI 0 from rfl, show (1 : Int32) = nI 1 from rfl, c_isAtStage hc.2.2.1 hS.2.2.1 hi (by omega), sb2, show nI 0 = (0 : Int32) from rfl, ifb]
  by_cases h0 : (S.2.2.1.2 i).1 = 0
  · rw [if_pos (by simpa using h0), c_accL hc hS hi, sb2, if_pos h0]
  · rw [if_neg (by simpa using h0), if_neg h0, c_isAtStage hc.2.2.1 hS.2.2.1 hi (by omega), sb2, ifb]
    by_cases h2 : (S.2.2.1.2 i).1 = 1
    · rw [if_pos (by simpa using h2), c_accR hc hS hi, sb2, if_pos h2]
    · rw [if_neg (by simpa using h2), if_neg h2, c_accJ hc hS hi, sb2]
      rfl
theorem z0I (k : Nat) : nI k + (0 : Int32) = nI k := nI_add k 0
theorem m_acc1 (hm : MS τ 1 0 S) (hS : OKS S) {i st k : Nat} {t : Tb} (hi : i < S.2.2.1.1) (hp : PM τ 1 k t) (ht : TOK 10 t) (hk : k ≤ 11) : pX8_accepted_29 400 (nI i) 0 (nI st) (nI k) 0 τ = some (nI (fb_ct (fun r => if nI st = 0 then e_acc (S.2.2.1.2 i) (t.2 r / 10) (t.2 r % 10) 0 else e_acc (S.2.2.1.2 i) 0 (t.2 r / 10) (t.2 r % 10)) t.1), τ) := by
  have hl := ht.1
  refine lp_all (fun n r => pX8_accepted_29 n (nI i) (nI (fb_ct (fun r => if nI st = 0 then e_acc (S.2.2.1.2 i) (t.2 r / 10) (t.2 r % 10) 0 else e_acc (S.2.2.1.2 i) 0 (t.2 r / 10) (t.2 r % 10)) r)) (nI st) (nI k) (nI r) τ) (N := t.1) ?_ ?_ 400 0 (Nat.zero_le _) (by omega)
  · intro n
    rw [pX8_accepted_29, rdI (by omega) (by omega), sbd, hp.1, if_pos (by rw [leI (by omega) (by omega)]; omega)]
  · intro n r hr
    have hrr := ht.2 r hr
    rw [pX8_accepted_29, rdI (by omega) (by omega), sbd, hp.1, if_neg (by rw [leI (by omega) (by omega)]; omega), nI_1, nI_add, rdI (by omega) (by omega), sbd, hp.2 r hr, mod10 _ hrr, div10 _ hrr, fb_ct_succ]
    by_cases h0 : nI st = 0
    · rw [if_pos h0, if_pos h0, show (0 : Int32) = nI 0 from rfl, m_accepts hm.2.2.1 hS.2.2.1 hi, sb2]
      unfold pX8_accepted_94
      rw [ifb]
      cases e_acc (S.2.2.1.2 i) (t.2 r / 10) (t.2 r % 10) 0 with
      | false => rw [if_neg (by decide), z0I, nI_1]; simp
      | true => rw [if_pos rfl, nI_1, nI_1]; simp
    · rw [if_neg h0, if_neg h0, show (0 : Int32) = nI 0 from rfl, m_accepts hm.2.2.1 hS.2.2.1 hi, sb2]
      unfold pX8_accepted_94
      rw [ifb]
      cases e_acc (S.2.2.1.2 i) 0 (t.2 r / 10) (t.2 r % 10) with
      | false => rw [if_neg (by decide), z0I, nI_1]; simp
      | true => rw [if_pos rfl, nI_1, nI_1]; simp
theorem m_accJ_in (hm : MS τ 1 0 S) (hS : OKS S) {i r : Nat} (hi : i < S.2.2.1.1) (hr : r < S.1.1) (K : Int32 → Int32 → Int32 → fw_T → Option (Int32 × fw_T)) (m : Nat) : pX8_accepted_162 K 400 (nI i) (nI m) (nI r) (nI (S.1.2 r / 10)) (nI (S.1.2 r % 10)) 0 τ = K (nI i) (nI (m + jc S i r S.2.1.1)) (nI (r + 1)) τ := by
  have hl := hS.2.1.1
  have hl2 := hS.1.2 r hr
  have hp := hm.2.1
  refine lp_all (fun n j => pX8_accepted_162 K n (nI i) (nI (m + jc S i r j)) (nI r) (nI (S.1.2 r / 10)) (nI (S.1.2 r % 10)) (nI j) τ) (N := S.2.1.1) ?_ ?_ 400 0 (Nat.zero_le _) (by omega)
  · intro n
    rw [pX8_accepted_162, show (11 : Int32) = nI 11 from rfl, rdI (by omega) (by omega), sbd, hp.1, if_pos (by rw [leI (by omega) (by omega)]; omega), nI_1]
  · intro n j hj
    have hrj := hS.2.1.2 j hj
    have e2 : fw_g τ 1 (12 + j) = nI (S.2.1.2 j) := hp.2 j hj
    rw [pX8_accepted_162, show (11 : Int32) = nI 11 from rfl, rdI (by omega) (by omega), sbd, hp.1, if_neg (by rw [leI (by omega) (by omega)]; omega), show (12 : Int32) = nI 12 from rfl, nI_add, rdI (by omega) (by omega), sbd, e2, div10 _ hrj]
    have e : jc S i r (j + 1) = jc S i r j + (if (S.2.1.2 j / 10 == S.1.2 r % 10 && e_acc (S.2.2.1.2 i) (S.1.2 r / 10) (S.1.2 r % 10) (S.2.1.2 j % 10)) = true then 1 else 0) := rfl
    rw [e]
    unfold pX8_accepted_222
    by_cases h1 : S.2.1.2 j / 10 = S.1.2 r % 10
    · rw [if_pos (by rw [h1]), sbd, div10 _ hrj, ← div10 _ hrj, mod10 _ hrj, m_accepts hm.2.2.1 hS.2.2.1 hi, sb2, ifb]
      cases e_acc (S.2.2.1.2 i) (S.1.2 r / 10) (S.1.2 r % 10) (S.2.1.2 j % 10) with
      | false => rw [if_neg (by decide), if_pos rfl, z0I, nI_1]; simp
      | true => rw [if_pos rfl, if_neg (by decide), nI_1, nI_1]; simp [h1, Nat.add_assoc]
    · rw [if_neg (by rw [eqI (by omega) (by omega)]; exact h1), if_pos rfl, z0I, nI_1]
      simp [h1]
theorem m_accJ (hm : MS τ 1 0 S) (hS : OKS S) {i : Nat} (hi : i < S.2.2.1.1) : pX8_accepted_120 400 (nI i) 0 0 τ = some (nI (fb_sm (fun r => jc S i r S.2.1.1) S.1.1), τ) := by
  have hl := hS.1.1
  have hp := hm.1
  refine lp_all (fun n r => pX8_accepted_120 n (nI i) (nI (fb_sm (fun r => jc S i r S.2.1.1) r)) (nI r) τ) (N := S.1.1) ?_ ?_ 400 0 (Nat.zero_le _) (by omega)
  · intro n
    rw [pX8_accepted_120, show (0 : Int32) = nI 0 from rfl, rdI (by omega) (by omega), sbd, hp.1, if_pos (by rw [leI (by omega) (by omega)]; omega)]
  · intro n r hr
    have hrr := hS.1.2 r hr
    have e2 : fw_g τ 1 (1 + r) = nI (S.1.2 r) := by have := hp.2 r hr; simpa using this
    rw [pX8_accepted_120, show (0 : Int32) = nI 0 from rfl, rdI (by omega) (by omega), sbd, hp.1, if_neg (by rw [leI (by omega) (by omega)]; omega), show (1 : Int32) = nI 1 from rfl, nI_add, rdI (by omega) (by omega), sbd, sbd, e2, mod10 _ hrr, div10 _ hrr, show nI 0 = (0 : Int32) from rfl, m_accJ_in hm hS hi hr]
    rfl
theorem m_accepted (hm : MS τ 1 0 S) (hS : OKS S) {i : Nat} (hi : i < S.2.2.1.1) : pX8_accepted (nI i) τ = some (nI (AB S i), τ) := by
  have h1 := (hS.2.2.1.2 i hi).1
  have hs := hS.2.2.1.1
  have e1 := (hm.2.2.1.2 i hi).1
  unfold pX8_accepted AB
  rw [show (0 : Int32) = nI 0 from rfl, m_of (by omega) (by omega), sb2, show 23 + 4 * i + 0 = 0 + 22 + 1 + 4 * i by omega, e1]
  rcases (show (S.2.2.1.2 i).1 = 0 ∨ (S.2.2.1.2 i).1 = 1 ∨ (S.2.2.1.2 i).1 = 2 by omega) with h0 | h0 | h0
  · rw [h0, if_neg (by decide), if_pos rfl, if_pos rfl, show nI 0 = (0 : Int32) from rfl]
    exact m_acc1 (st := 0) (k := 0) hm hS hi hm.1 hS.1 (by omega)
  · rw [h0, if_neg (by decide), if_neg (by decide), if_neg (by decide), if_pos rfl]
    exact m_acc1 (st := 1) (k := 11) hm hS hi hm.2.1 hS.2.1 (by omega)
  · rw [h0, if_pos (by decide), if_neg (by decide), if_neg (by decide)]
    exact m_accJ hm hS hi
-- costs
def cst (S : St) (a b c : Nat) : Nat := (if t_in S.1 (10 * a + b) then 0 else 1) + (if t_in S.2.1 (10 * b + c) then 0 else 1)
theorem cst_le (S : St) (a b c : Nat) : cst S a b c ≤ 2 := by unfold cst; split <;> split <;> omega
def bb (S : St) (a c : Nat) : Nat → Nat × Nat
  | 0 => (10, 3)
  | b + 1 => if rj S a b c = 0 ∧ cst S a b c < (bb S a c b).2 then (b, cst S a b c) else bb S a c b
theorem bb_ok (S : St) (a c : Nat) : ∀ n, n ≤ 10 → ((bb S a c n).1 = 10 ∧ (bb S a c n).2 = 3) ∨ ((bb S a c n).1 < n ∧ (bb S a c n).2 = cst S a (bb S a c n).1 c ∧ rj S a (bb S a c n).1 c = 0) := by
  intro n hn
  induction n with
  | zero => exact Or.inl ⟨rfl, rfl⟩
  | succ n ih =>
    simp only [bb]
    split
    · rename_i hc
      exact Or.inr ⟨by simp, rfl, hc.1⟩
    · rcases ih (by omega) with h1 | ⟨h1, h2⟩
      · exact Or.inl h1
      · exact Or.inr ⟨by omega, h2⟩
def bv (n : Nat) : Int32 := if n = 10 then -10001 else nI n
theorem bv_ne {n : Nat} (h : n < 10) : bv n = nI n := by unfold bv; rw [if_neg (by omega)]
theorem nI_no {n : Nat} (h : n < 100000) : ¬ nI n = (-10001 : Int32) := by
  intro hc
  have h3 := congrArg Int32.toInt hc
  rw [nI_toInt (by omega), show (-10001 : Int32).toInt = -10001 from by decide] at h3
  omega
theorem c_costOf (hc : CS σ 12 S) (hS : OKS S) {a b c : Nat} (ha : a < 10) (hb : b < 10) (hc10 : c < 10) : pX3_costOf (nI a) (nI b) (nI c) σ = some (nI (cst S a b c), σ) := by
  unfold pX3_costOf cst
  rw [c_holds hc.1 hS.1 ha hb, sb2, ifb]
  unfold pX3_costOf_20
  cases t_in S.1 (10 * a + b) <;> (simp only [Bool.false_eq_true, if_false, if_true]; rw [c_holds hc.2.1 hS.2.1 hb hc10, sb2, ifb]; cases t_in S.2.1 (10 * b + c) <;> rfl)
theorem m_costOf (hm : MS τ 1 0 S) (hS : OKS S) {a b c : Nat} (ha : a < 10) (hb : b < 10) (hc10 : c < 10) : pX8_costOf (nI a) (nI b) (nI c) τ = some (if rj S a b c = 0 then nI (cst S a b c) else -10001, τ) := by
  unfold pX8_costOf cst
  have e : sb (rej S.2.2.1 a b c) 0 = (rej S.2.2.1 a b c == 0) := sb0 _
  rw [show (0 : Int32) = nI 0 from rfl, m_passesAll hm.2.2.1 hS.2.2.1 (by omega), sb2, show nI 0 = (0 : Int32) from rfl, ifb, e]
  unfold rj
  by_cases hz : rej S.2.2.1 a b c = 0
  · rw [if_pos (by simpa using hz), if_pos hz, m_has0 hm.1 hS.1 ha hb, sb2, ifb]
    unfold pX8_costOf_29
    cases t_in S.1 (10 * a + b) <;> (simp only [Bool.false_eq_true, if_false, if_true]; rw [m_has11 hm.2.1 hS.2.1 hb hc10, sb2, ifb]; cases t_in S.2.1 (10 * b + c) <;> rfl)
  · rw [if_neg (by simpa using hz), if_neg hz]
theorem c_cheapestB (hc : CS σ 12 S) (hS : OKS S) {a c : Nat} (ha : a < 10) (hc10 : c < 10) : pX3_cheapestB (nI a) (nI c) σ = some (bv (bb S a c 10).1, σ) := by
  have hs := hS.2.2.1.1
  unfold pX3_cheapestB
  refine lp_all (fun n b => pX3_cheapestB_10 n (nI a) (nI c) (bv (bb S a c b).1) (if (bb S a c b).1 = 10 then 0 else nI (bb S a c b).2) (nI b) σ) (N := 10) ?_ ?_ 400 0 (Nat.zero_le _) (by omega)
  · intro n
    rw [pX3_cheapestB_10, if_pos (by decide)]
  · intro n b hb
    have hle := rej_lt hs a b c
    have hcl := cst_le S a b c
    have hok := bb_ok S a c b (by omega)
    have e : bb S a c (b + 1) = if rj S a b c = 0 ∧ cst S a b c < (bb S a c b).2 then (b, cst S a b c) else bb S a c b := rfl
    rw [pX3_cheapestB_10, if_neg (by rw [show (10 : Int32) = nI 10 from rfl, leI (by omega) (by omega)]; omega), c_rejecters hc.2.2.1 hS.2.2.1, sb2]
    by_cases hz : rej S.2.2.1 a b c = 0
    · have hz' : rj S a b c = 0 := hz
      rw [if_pos (by rw [hz]; rfl), c_costOf hc hS ha hb hc10, sb2, nI_1]
      rcases hok with ⟨h1, h2⟩ | ⟨h1, h2, h3⟩
      · rw [if_pos ⟨hz', by omega⟩] at e
        rw [e, h1, if_pos (show bv 10 = -10001 from rfl)]
        simp only
        rw [bv_ne hb, if_neg (show ¬ b = 10 by omega)]
      · rw [bv_ne (show (bb S a c b).1 < 10 by omega), if_neg (nI_no (by omega)), if_neg (show ¬ (bb S a c b).1 = 10 by omega)]
        have hc2 := cst_le S a (bb S a c b).1 c
        by_cases hlt : cst S a b c < (bb S a c b).2
        · rw [if_pos ⟨hz', hlt⟩] at e
          rw [if_neg (by rw [leI (by omega) (by omega)]; omega), e]
          simp only
          rw [bv_ne hb, if_neg (show ¬ b = 10 by omega)]
        · rw [if_neg (fun h => hlt h.2)] at e
          rw [if_pos (by rw [leI (by omega) (by omega)]; omega), e, bv_ne (show (bb S a c b).1 < 10 by omega), if_neg (show ¬ (bb S a c b).1 = 10 by omega)]
    · rw [if_neg (fun h => hz h.1)] at e
      rw [if_neg (by rw [nI00 (by omega)]; exact hz), nI_1, e]
theorem m_bestB (hm : MS τ 1 0 S) (hS : OKS S) {a c : Nat} (ha : a < 10) (hc10 : c < 10) : pX8_bestB (nI a) (nI c) τ = some (bv (bb S a c 10).1, τ) := by
  unfold pX8_bestB
  refine lp_all (fun n b => pX8_bestB_10 n (nI a) (nI c) (bv (bb S a c b).1) (nI (bb S a c b).2) (nI b) τ) (N := 10) ?_ ?_ 400 0 (Nat.zero_le _) (by omega)
  · intro n
    rw [pX8_bestB_10, if_pos (by decide)]
  · intro n b hb
    have hcl := cst_le S a b c
    have hok := bb_ok S a c b (by omega)
    have hc2 := cst_le S a (bb S a c b).1 c
    rw [pX8_bestB_10, if_neg (by rw [show (10 : Int32) = nI 10 from rfl, leI (by omega) (by omega)]; omega), m_costOf hm hS ha hb hc10, sb2, nI_1]
    simp only [bb]
    by_cases hz : rj S a b c = 0
    · rw [if_pos hz, if_neg (nI_no (by omega))]
      by_cases hlt : cst S a b c < (bb S a c b).2
      · rw [if_neg (by rw [leI (by omega) (by omega)]; omega), if_pos ⟨hz, hlt⟩]
        simp only
        rw [bv_ne hb]
      · rw [if_pos (by rw [leI (by omega) (by omega)]; omega), if_neg (fun h => hlt h.2)]
    · rw [if_neg hz, if_pos rfl, if_neg (fun h => hz h.1)]
def mR (S : St) (a c : Nat) : Int32 := if (bb S a c 10).1 = 10 then -10001 else nI (bb S a c 10).2
def mB (S : St) (a c : Nat) : Int32 := if (bb S a c 10).1 = 10 ∨ (bb S a c 10).2 = 0 then -10001 else nI (bb S a c 10).1
theorem c_lowestCost (hc : CS σ 12 S) (hS : OKS S) {a c : Nat} (ha : a < 10) (hc10 : c < 10) : pX3_lowestCost (nI a) (nI c) σ = some (mR S a c, σ) := by
  unfold pX3_lowestCost mR
  rw [c_cheapestB hc hS ha hc10, sb2]
  rcases bb_ok S a c 10 (by omega) with ⟨h1, h2⟩ | ⟨h1, h2, h3⟩
  · rw [h1, if_pos (show bv 10 = -10001 from rfl), if_pos rfl]
  · rw [bv_ne h1, if_neg (nI_no (by omega)), c_costOf hc hS ha h1 hc10, sb2, if_neg (by omega), h2]
theorem m_missing (hm : MS τ 1 0 S) (hS : OKS S) {a c : Nat} (ha : a < 10) (hc10 : c < 10) : pX8_missing (nI a) (nI c) τ = some (mR S a c, τ) := by
  unfold pX8_missing mR
  rw [m_bestB hm hS ha hc10, sb2]
  rcases bb_ok S a c 10 (by omega) with ⟨h1, h2⟩ | ⟨h1, h2, h3⟩
  · rw [h1, if_pos (show bv 10 = -10001 from rfl), if_pos rfl]
  · rw [bv_ne h1, if_neg (nI_no (by omega)), m_costOf hm hS ha h1 hc10, sb2, if_pos h3, if_neg (by omega), h2]
theorem c_bToInsert (hc : CS σ 12 S) (hS : OKS S) {a c : Nat} (ha : a < 10) (hc10 : c < 10) : pX3_bToInsert (nI a) (nI c) σ = some (mB S a c, σ) := by
  unfold pX3_bToInsert mB
  rw [c_cheapestB hc hS ha hc10, sb2]
  rcases bb_ok S a c 10 (by omega) with ⟨h1, h2⟩ | ⟨h1, h2, h3⟩
  · rw [h1, if_pos (show bv 10 = -10001 from rfl), if_pos (Or.inl rfl)]
  · have hcl := cst_le S a (bb S a c 10).1 c
    rw [bv_ne h1, if_neg (nI_no (by omega)), c_costOf hc hS ha h1 hc10, sb2, h2]
    by_cases hz : cst S a (bb S a c 10).1 c = 0
    · rw [if_pos (by rw [hz]; rfl), if_pos (Or.inr hz)]
    · rw [if_neg (by rw [nI00 (by omega)]; exact hz), if_neg (by omega)]
/-- the pair is in the result just when the least cost is none -/
theorem bb_least (S : St) (a c : Nat) : ∀ n, n ≤ 10 → ∀ b, b < n → rj S a b c = 0 → (bb S a c n).2 ≤ cst S a b c := by
  intro n hn
  induction n with
  | zero => intro b hb; omega
  | succ n ih =>
    intro b hb hz
    simp only [bb]
    by_cases he : b = n
    · subst he
      split
      · exact Nat.le_refl _
      · rename_i hc
        rcases Nat.lt_or_ge (cst S a b c) (bb S a c b).2 with h1 | h1
        · exact absurd ⟨hz, h1⟩ hc
        · exact h1
    · have := ih (by omega) b (by omega) hz
      split
      · rename_i hc
        simp only
        omega
      · exact this
theorem ans_cost (S : St) (a c : Nat) : 0 < MC S 0 a c ↔ (bb S a c 10).2 = 0 := by
  unfold MC
  rw [fb_ct_pos]
  constructor
  · rintro ⟨b, hb, h1⟩
    simp only [J, Bool.and_eq_true] at h1
    rw [sb0, beq_iff_eq] at h1
    have h2 := bb_least S a c 10 (by omega) b hb h1.2
    have h3 : cst S a b c = 0 := by unfold cst; rw [h1.1.1, h1.1.2]; rfl
    omega
  · intro h0
    rcases bb_ok S a c 10 (by omega) with ⟨h1, h2⟩ | ⟨h1, h2, h3⟩
    · omega
    · refine ⟨_, h1, ?_⟩
      simp only [J, Bool.and_eq_true]
      rw [sb0, beq_iff_eq]
      rw [h2] at h0
      unfold cst at h0
      cases hx : t_in S.1 (10 * a + (bb S a c 10).1) <;> cases hy : t_in S.2.1 (10 * (bb S a c 10).1 + c) <;> simp [hx, hy] at h0 ⊢
      exact h3
theorem m_missingAt (hm : MS τ 1 0 S) (hS : OKS S) {a c : Nat} (ha : a < 10) (hc10 : c < 10) : pX8_missingAt (nI a) (nI c) τ = some (mB S a c, τ) := by
  unfold pX8_missingAt mB
  rw [m_isAnswer hm hS ha hc10, sb2, ifb]
  have hx := ans_cost S a c
  by_cases hz : 0 < MC S 0 a c
  · rw [if_pos (by simpa using hz), if_pos (Or.inr (hx.mp hz))]
  · have h0 : ¬ (bb S a c 10).2 = 0 := fun h => hz (hx.mpr h)
    rw [if_neg (by simpa using hz), m_bestB hm hS ha hc10, sb2]
    unfold bv
    by_cases h1 : (bb S a c 10).1 = 10
    · rw [if_pos h1, if_pos (Or.inl h1)]
    · rw [if_neg h1, if_neg (fun h => h.elim h1 h0)]
end
