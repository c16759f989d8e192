/-! ===== the digest ===== -/
def hm (x : Int64) (v : Int32) : Int64 := 31 * x + v.toInt64
theorem c_mix (x : Int64) (v : Int32) (σ : fw_T) : pX7_mix x v.toInt64 σ = some (hm x v, σ) := rfl
theorem m_add (x : Int64) (v : Int32) (τ : fw_T) : pX8_add v (fw_uh τ x) = some (fw_uh τ (hm x v)) := rfl
def hE (f : Nat → Int32) : Nat → Int64
  | 0 => 18084
  | i + 1 => hm (hE f i) (f i)
theorem hE_cong {f g : Nat → Int32} : ∀ n, (∀ i, i < n → f i = g i) → hE f n = hE g n
  | 0, _ => rfl
  | n + 1, h => by
    have e1 : hE f (n + 1) = hm (hE f n) (f n) := rfl
    have e2 : hE g (n + 1) = hm (hE g n) (g n) := rfl
    rw [e1, e2, hE_cong n (fun i hi => h i (by omega)), h n (by omega)]
def hT (t : Tb) (x : Int64) : Nat → Int64
  | 0 => hm x (nI t.1)
  | i + 1 => hm (hT t x i) (nI (t.2 i))
def hF (S : St) (x : Int64) : Nat → Int64
  | 0 => hm x (nI S.2.2.1.1)
  | i + 1 => hm (hm (hm (hm (hm (hF S x i) (nI (S.2.2.1.2 i).1)) (nI (S.2.2.1.2 i).2.1)) (nI (S.2.2.1.2 i).2.2.1)) (S.2.2.1.2 i).2.2.2) (nI (AB S i))
def hA (S : St) (x : Int64) : Nat → Int64
  | 0 => hm x (nI (fb_ct (ans S) 100))
  | k + 1 => if ans S k = true then hm (hA S x k) (nI k) else hA S x k
def hK (S : St) (x : Int64) : Nat → Int64
  | 0 => hm x (nI (fb_ct (ans S) 100))
  | i + 1 => hm (hK S x i) (kth (ans S) i)
theorem hAK (S : St) (x : Int64) : ∀ k, k ≤ 100 → hA S x k = hK S x (fb_ct (ans S) k) := by
  intro k
  induction k with
  | zero => intro _; rfl
  | succ k ih =>
    intro hk
    have e : hA S x (k + 1) = if ans S k = true then hm (hA S x k) (nI k) else hA S x k := rfl
    rw [e, fb_ct_succ, ih (by omega)]
    cases hc : ans S k with
    | false => rfl
    | true =>
      have e2 : hK S x (fb_ct (ans S) k + 1) = hm (hK S x (fb_ct (ans S) k)) (kth (ans S) (fb_ct (ans S) k)) := rfl
      rw [if_pos rfl, if_pos rfl, e2, kth_at (by omega) hc rfl]
def hW (S : St) (x : Int64) : Nat → Int64
  | 0 => hm x (nI S.2.2.2.1)
  | i + 1 => hm (hm (hm (hm (hm (hW S x i) (nI (S.2.2.2.2 i))) (fcz S (S.2.2.2.2 i / 10) (S.2.2.2.2 i % 10))) (rv (br S (S.2.2.2.2 i / 10) (S.2.2.2.2 i % 10) 10))) (mR S (S.2.2.2.2 i / 10) (S.2.2.2.2 i % 10))) (mB S (S.2.2.2.2 i / 10) (S.2.2.2.2 i % 10))
section
variable {σ τ : fw_T} {S : St}
theorem c_mixPairs {h : Nat} {t : Tb} (hp : PC σ h t) (ht : TOK 10 t) (x : Int64) : pX7_mixPairs h x σ = some (hT t x t.1, σ) := by
  have hs := ht.1
  unfold pX7_mixPairs
  rw [hp.1, c_mix, sb2]
  refine lp_all (fun n i => pX7_mixPairs_13 h n (hT t x i) (nI i) σ) (N := t.1) ?_ ?_ 400 0 (Nat.zero_le _) (by omega)
  · intro n
    rw [pX7_mixPairs_13, hp.1, if_pos (by rw [leI (by omega) (by omega)]; omega)]
  · intro n i hi
    rw [pX7_mixPairs_13, hp.1, if_neg (by rw [leI (by omega) (by omega)]; omega), c_pairAt hp ht hi, sb2, c_mix, sb2, nI_1]
    rfl
theorem m_addRows {k : Nat} {t : Tb} (hp : PM τ 1 k t) (ht : TOK 10 t) (hk : k ≤ 11) (x : Int64) : pX8_addRows (nI k) (fw_uh τ x) = some (fw_uh τ (hT t x t.1)) := by
  have hs := ht.1
  unfold pX8_addRows
  rw [rdI (by omega) (by omega), sbd, fw_guh, hp.1, m_add, sbd]
  refine lp_all (fun n i => pX8_addRows_12 n (nI k) (nI i) (fw_uh τ (hT t x i))) (N := t.1) ?_ ?_ 400 0 (Nat.zero_le _) (by omega)
  · intro n
    rw [pX8_addRows_12, rdI (by omega) (by omega), sbd, fw_guh, hp.1, if_pos (by rw [leI (by omega) (by omega)]; omega)]
  · intro n i hi
    rw [pX8_addRows_12, rdI (by omega) (by omega), sbd, fw_guh, hp.1, if_neg (by rw [leI (by omega) (by omega)]; omega), nI_1, nI_add, rdI (by omega) (by omega), sbd, fw_guh, hp.2 i hi, m_add, sbd, nI_1]
    rfl
theorem c_mixFilters (hc : CS σ 12 S) (hS : OKS S) (x : Int64) : pX7_mixFilters x σ = some (hF S x S.2.2.1.1, σ) := by
  have hs := hS.2.2.1.1
  have h4 : fw_g σ 17 4 = nI S.2.2.1.1 := hc.2.2.1.1
  unfold pX7_mixFilters
  rw [h4, c_mix, sb2]
  refine lp_all (fun n i => pX7_mixFilters_22 n (hF S x i) (nI i) σ) (N := S.2.2.1.1) ?_ ?_ 400 0 (Nat.zero_le _) (by omega)
  · intro n
    rw [pX7_mixFilters_22, h4, if_pos (by rw [leI (by omega) (by omega)]; omega)]
  · intro n i hi
    obtain ⟨e1, e2, e3, e4⟩ := hc.2.2.1.2 i hi
    have e1' : fw_g σ 18 i = _ := e1
    have e2' : fw_g σ 19 i = _ := e2
    have e3' : fw_g σ 20 i = _ := e3
    have e4' : fw_g σ 21 i = _ := e4
    rw [pX7_mixFilters_22, h4, if_neg (by rw [leI (by omega) (by omega)]; omega), if_neg (by rw [show (6 : Int32) = nI 6 from rfl, leI (by omega) (by omega)]; omega), rdI (by omega) (by omega), sbd, e1', c_mix, sb2, rdI (by omega) (by omega), sbd, e2', c_mix, sb2, rdI (by omega) (by omega), sbd, e3', c_mix, sb2, rdI (by omega) (by omega), sbd, e4', c_mix, sb2, c_countAccepted hc hS hi, sb2, c_mix, sb2, nI_1]
    rfl
theorem m_addFilters (hm0 : MS τ 1 0 S) (hS : OKS S) (x : Int64) : pX8_addFilters (fw_uh τ x) = some (fw_uh τ (hF S x S.2.2.1.1)) := by
  have hs := hS.2.2.1.1
  have h4 : fw_g τ 1 22 = nI S.2.2.1.1 := hm0.2.2.1.1
  have hmh : ∀ y, MS (fw_uh τ y) 1 0 S := fun y => hm0.frame hS (fun _ _ => rfl)
  unfold pX8_addFilters
  rw [show (22 : Int32) = nI 22 from rfl, rdI (by omega) (by omega), sbd, fw_guh, h4, m_add, sbd]
  refine lp_all (fun n i => pX8_addFilters_13 n (nI i) (fw_uh τ (hF S x i))) (N := S.2.2.1.1) ?_ ?_ 400 0 (Nat.zero_le _) (by omega)
  · intro n
    rw [pX8_addFilters_13, show (22 : Int32) = nI 22 from rfl, rdI (by omega) (by omega), sbd, fw_guh, h4, if_pos (by rw [leI (by omega) (by omega)]; omega)]
  · intro n i hi
    obtain ⟨e1, e2, e3, e4⟩ := hm0.2.2.1.2 i hi
    rw [pX8_addFilters_13, show (22 : Int32) = nI 22 from rfl, rdI (by omega) (by omega), sbd, fw_guh, h4, if_neg (by rw [leI (by omega) (by omega)]; omega)]
    generalize hK' : (fun (a0 : Int32) (σ : fw_T) => pX8_addFilters_13 n a0 σ) = K
    have go : pX8_addFilters_26 K 400 (nI i) 0 (fw_uh τ (hF S x i)) = K (nI (i + 1)) (fw_uh τ (hF S x (i + 1))) := by
      show pX8_addFilters_26 K (396 + 1 + 1 + 1 + 1) (nI i) (nI 0) (fw_uh τ (hF S x i)) = _
      rw [pX8_addFilters_26, if_neg (by decide), m_of (by omega) (by omega), sb2, fw_guh, show 23 + 4 * i + 0 = 0 + 22 + 1 + 4 * i by omega, e1, m_add, sbd, nI_1]
      rw [pX8_addFilters_26, if_neg (by decide), m_of (by omega) (by omega), sb2, fw_guh, show 23 + 4 * i + (0 + 1) = 0 + 22 + 1 + 4 * i + 1 by omega, e2, m_add, sbd, nI_1]
      rw [pX8_addFilters_26, if_neg (by decide), m_of (by omega) (by omega), sb2, fw_guh, show 23 + 4 * i + (0 + 1 + 1) = 0 + 22 + 1 + 4 * i + 2 by omega, e3, m_add, sbd, nI_1]
      rw [pX8_addFilters_26, if_neg (by decide), m_of (by omega) (by omega), sb2, fw_guh, show 23 + 4 * i + (0 + 1 + 1 + 1) = 0 + 22 + 1 + 4 * i + 3 by omega, e4, m_add, sbd, nI_1]
      rw [pX8_addFilters_26, if_pos (by decide), m_accepted (hmh _) hS hi, sb2, m_add, sbd, nI_1]
      rfl
    rw [go, ← hK']
theorem c_mixAnswers (hc : CS σ 12 S) (hS : OKS S) (x : Int64) : pX7_mixAnswers x σ = some (hA S x 100, tl σ (ti S S.1.1)) := by
  unfold pX7_mixAnswers
  rw [c_countAnswers hc hS, sb2, c_mix, sb2]
  refine lp_all (fun n k => pX7_mixAnswers_16 n (hA S x k) (nI k) (tl σ (ti S S.1.1))) (N := 100) ?_ ?_ 400 0 (Nat.zero_le _) (by omega)
  · intro n
    rw [pX7_mixAnswers_16, if_pos (by decide)]
  · intro n k hk
    have e : hA S x (k + 1) = if ans S k = true then hm (hA S x k) (nI k) else hA S x k := rfl
    have hle := ti_le hS.2.1.1 S.1.1 k
    have hs1 := hS.1.1
    have hans := ti_ans hS hk
    rw [pX7_mixAnswers_16, if_neg (by rw [show (100 : Int32) = nI 100 from rfl, leI (by omega) (by omega)]; omega), rdI (by omega) (by omega), sbd, tl_at σ _ hk, nI_1, e]
    by_cases hz : ti S S.1.1 k = 0
    · rw [if_pos (by rw [nIle0 (by omega)]; exact hz), if_neg]
      intro h
      rw [h] at hans
      simp [hz] at hans
    · rw [if_neg (by rw [nIle0 (by omega)]; exact hz), if_pos, c_mix, sb2]
      rw [← hans]
      simp; omega
theorem c_mixWishes (hc : CS σ 12 S) (hS : OKS S) (x : Int64) : pX7_mixWishes x σ = some (hW S x S.2.2.2.1, σ) := by
  have hs := hS.2.2.2.1
  have h4 : fw_g σ 22 2 = nI S.2.2.2.1 := hc.2.2.2.1
  have hp : PC σ 22 S.2.2.2 := hc.2.2.2
  unfold pX7_mixWishes
  rw [h4, c_mix, sb2]
  refine lp_all (fun n i => pX7_mixWishes_22 n (hW S x i) (nI i) σ) (N := S.2.2.2.1) ?_ ?_ 400 0 (Nat.zero_le _) (by omega)
  · intro n
    rw [pX7_mixWishes_22, h4, if_pos (by rw [leI (by omega) (by omega)]; omega)]
  · intro n i hi
    have hr := hS.2.2.2.2 i hi
    rw [pX7_mixWishes_22, h4, if_neg (by rw [leI (by omega) (by omega)]; omega), c_pairAt hp (hS.2.2.2.ten (by omega)) hi, sb2, c_mix, sb2, mod10 _ hr, div10 _ hr, c_firstCause hc hS (by omega) (by omega), sb2, c_mix, sb2, c_smallestRemoval hc hS (by omega) (by omega), sb2, c_mix, sb2, c_lowestCost hc hS (by omega) (by omega), sb2, c_mix, sb2, c_bToInsert hc hS (by omega) (by omega), sb2, c_mix, sb2, nI_1]
    rfl
theorem m_addWishes (hm0 : MS τ 1 0 S) (hS : OKS S) (x : Int64) : ∃ τ', pX8_addWishes (fw_uh τ x) = some (fw_uh τ' (hW S x S.2.2.2.1)) ∧ (∀ j, j ≠ 0 → fw_g τ' j = fw_g τ j) ∧ ∀ k, k ≠ 8 → fw_g τ' 0 k = fw_g τ 0 k := by
  have hs := hS.2.2.2.1
  have h4 : fw_g τ 1 47 = nI S.2.2.2.1 := hm0.2.2.2.1
  unfold pX8_addWishes
  rw [show (47 : Int32) = nI 47 from rfl, rdI (by omega) (by omega), sbd, fw_guh, h4, m_add, sbd]
  have main : ∀ n i (τ1 : fw_T), i ≤ S.2.2.2.1 → S.2.2.2.1 - i < n → (∀ j, j ≠ 0 → fw_g τ1 j = fw_g τ j) → (∀ k, k ≠ 8 → fw_g τ1 0 k = fw_g τ 0 k) → ∃ τ', pX8_addWishes_13 n (nI i) (fw_uh τ1 (hW S x i)) = some (fw_uh τ' (hW S x S.2.2.2.1)) ∧ (∀ j, j ≠ 0 → fw_g τ' j = fw_g τ j) ∧ ∀ k, k ≠ 8 → fw_g τ' 0 k = fw_g τ 0 k := by
    intro n
    induction n with
    | zero => intro i τ1 _ h; omega
    | succ n ih =>
      intro i τ1 hi hn f1 f2
      have h41 : fw_g τ1 1 47 = nI S.2.2.2.1 := by rw [f1 1 (by decide)]; exact h4
      have hm1 : ∀ y, MS (fw_uh τ1 y) 1 0 S := fun y => hm0.frame hS (fun j _ => by rw [fw_guh, f1 1 (by decide)])
      by_cases he : i = S.2.2.2.1
      · subst he
        refine ⟨τ1, ?_, f1, f2⟩
        rw [pX8_addWishes_13, show (47 : Int32) = nI 47 from rfl, rdI (by omega) (by omega), sbd, fw_guh, h41, if_pos (by rw [leI (by omega) (by omega)]; omega)]
      · have hi' : i < S.2.2.2.1 := by omega
        have hr := hS.2.2.2.2 i hi'
        have e2 : fw_g τ1 1 (48 + i) = nI (S.2.2.2.2 i) := by
          rw [f1 1 (by decide), ← hm0.2.2.2.2 i hi']
        obtain ⟨m, em⟩ := m_cause (hm1 (hm (hW S x i) (nI (S.2.2.2.2 i)))) hS (a := S.2.2.2.2 i / 10) (c := S.2.2.2.2 i % 10) (by omega) (by omega)
        have hm2 : ∀ y, MS (fw_uh (rmn τ1 m) y) 1 0 S := fun y => hm0.frame hS (fun j _ => by rw [fw_guh, ← f1 1 (by decide)]; exact congrFun (fw_gn _ (by decide)) _)
        have er : ∀ y, rmn (fw_uh τ1 y) m = fw_uh (rmn τ1 m) y := fun _ => rfl
        rw [pX8_addWishes_13, show (47 : Int32) = nI 47 from rfl, rdI (by omega) (by omega), sbd, fw_guh, h41, if_neg (by rw [leI (by omega) (by omega)]; omega), show (48 : Int32) = nI 48 from rfl, nI_add, rdI (by omega) (by omega), sbd, sbd, sbd, fw_guh, e2, m_add, sbd, mod10 _ hr, div10 _ hr, em, sb2, er, m_add, sbd, m_removal (hm2 _) hS (by omega) (by omega), sb2, m_add, sbd, m_missing (hm2 _) hS (by omega) (by omega), sb2, m_add, sbd, m_missingAt (hm2 _) hS (by omega) (by omega), sb2, m_add, sbd, nI_1]
        exact ih (i + 1) (rmn τ1 m) (by omega) (by omega) (fun j hj => by rw [← f1 j hj]; exact fw_gn _ hj) (fun k hk => by rw [← f2 k hk]; exact fw_uo _ _ _ _ _ hk)
  exact main 400 0 τ (by omega) (by omega) (fun _ _ => rfl) (fun _ _ => rfl)
/-- all of it -/
def hD (S : St) (f : Nat → Int32) (t p : Int32) : Int64 := hm (hW S (hA S (hF S (hT S.2.1 (hT S.1 (hm (hm (hE f 3) t) p) S.1.1) S.2.1.1) S.2.2.1.1) 100) S.2.2.2.1) (rv (RW S))
theorem c_digest (hc : CS σ 12 S) (hS : OKS S) : pX7_digest σ = some (hD S (fw_g σ 9) (fw_g σ 7 1) (fw_g σ 2 2), wl (tl σ (ti S S.1.1)) S (10 * S.2.2.2.1)) := by
  unfold pX7_digest
  refine lp_all (fun n i => pX7_digest_6 n (hE (fw_g σ 9) i) (nI i) σ) (N := 3) ?_ ?_ 400 0 (Nat.zero_le _) (by omega)
  · intro n
    rw [pX7_digest_6, if_pos (by decide), c_mix, sb2, c_mix, sb2, c_mixPairs (show PC σ 13 S.1 from hc.1) hS.1, sb2, c_mixPairs (show PC σ 15 S.2.1 from hc.2.1) hS.2.1, sb2, c_mixFilters hc hS, sb2, c_mixAnswers hc hS, sb2, c_mixWishes (hc.tl _) hS, sb2, c_removalW (hc.tl _) hS, sb2, c_mix, sb2]
    rfl
  · intro n i hi
    rw [pX7_digest_6, if_neg (by rw [show (3 : Int32) = nI 3 from rfl, leI (by omega) (by omega)]; omega), rdI (by omega) (by omega), sbd, c_mix, sb2, nI_1]
    rfl
theorem m_digest (hm0 : MS τ 1 0 S) (hS : OKS S) : ∃ τ', pX8_digest τ = some (hD S (fw_g τ 4) (fw_g τ 0 7) (fw_g τ 0 3), τ') ∧ (∀ j, j ≠ 0 → fw_g τ' j = fw_g τ j) ∧ ∀ k, k ≠ 8 → fw_g τ' 0 k = fw_g τ 0 k := by
  have hmh : ∀ y, MS (fw_uh τ y) 1 0 S := fun y => hm0.frame hS (fun _ _ => rfl)
  have hct := fb_ct_le (ans S) 100
  obtain ⟨τ', w1, w2, w3⟩ := m_addWishes hm0 hS (hA S (hF S (hT S.2.1 (hT S.1 (hm (hm (hE (fw_g τ 4) 3) (fw_g τ 0 7)) (fw_g τ 0 3)) S.1.1) S.2.1.1) S.2.2.1.1) 100)
  have hmw : ∀ y, MS (fw_uh τ' y) 1 0 S := fun y => hm0.frame hS (fun j _ => by rw [fw_guh, w2 1 (by decide)])
  refine ⟨fw_uh τ' (hD S (fw_g τ 4) (fw_g τ 0 7) (fw_g τ 0 3)), ?_, fun j hj => w2 j hj, fun k hk => w3 k hk⟩
  unfold pX8_digest
  refine lp_all (fun n i => pX8_digest_9 n (nI i) (fw_uh τ (hE (fw_g τ 4) i))) (N := 3) ?_ ?_ 400 0 (Nat.zero_le _) (by omega)
  · intro n
    rw [pX8_digest_9, if_pos (by decide), fw_guh, m_add, sbd, fw_guh, m_add, sbd, show (0 : Int32) = nI 0 from rfl, m_addRows hm0.1 hS.1 (by omega), sbd, show (11 : Int32) = nI 11 from rfl, m_addRows (show PM τ 1 11 S.2.1 from hm0.2.1) hS.2.1 (by omega), sbd, m_addFilters hm0 hS, sbd, m_answers (hmh _) hS, sb2, m_add, sbd]
    refine lp_all (fun n i => pX8_digest_73 n (nI (fb_ct (ans S) 100)) (nI i) (fw_uh τ (hK S (hF S (hT S.2.1 (hT S.1 (hm (hm (hE (fw_g τ 4) 3) (fw_g τ 0 7)) (fw_g τ 0 3)) S.1.1) S.2.1.1) S.2.2.1.1) i))) (N := fb_ct (ans S) 100) ?_ ?_ 400 0 (Nat.zero_le _) (by omega)
    · intro n
      rw [pX8_digest_73, if_pos (by rw [leI (by omega) (by omega)]; omega), ← hAK S _ 100 (Nat.le_refl _), w1, sbd, m_removalW (hmw _) hS, sb2, m_add, sbd]
      rfl
    · intro n i hi
      rw [pX8_digest_73, if_neg (by rw [leI (by omega) (by omega)]; omega), m_answerAt (hmh _) hS (by omega), sb2, m_add, sbd, nI_1]
      rfl
  · intro n i hi
    rw [pX8_digest_9, if_neg (by rw [show (3 : Int32) = nI 3 from rfl, leI (by omega) (by omega)]; omega), rdI (by omega) (by omega), sbd, fw_guh, m_add, sbd, nI_1]
    rfl
end
theorem sim_digest : smL sim_Rel pX7_digest pX8_digest := by
  intro σ τ hr
  obtain ⟨S, hS, hC, hM, hR⟩ := id hr
  obtain ⟨a, hl, hEr, ⟨t, t1, t2, t3, t4⟩, d, p, d1, d2, d3, d4, d5, d6⟩ := id hR
  obtain ⟨τ', e1, e2, e3⟩ := m_digest hM hS
  refine ⟨_, _, τ', c_digest hC hS, ?_, sim_scr hr (fun j _ _ _ h10 h11 => by rw [wl_ne _ _ _ h11, tl_ne _ _ h10]) (fun j hj => e2 j (by omega)) (fun k hk => e3 k (by omega))⟩
  rw [e1, t2, t3, d4, d5]
  unfold hD
  rw [hE_cong 3 (fun i hi => (hEr i hi).symm)]
