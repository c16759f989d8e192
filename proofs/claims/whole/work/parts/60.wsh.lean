/-! ===== wishes ===== -/
def wa (S : St) (i : Nat) : Nat := S.2.2.2.2 i / 10
def wc (S : St) (i : Nat) : Nat := S.2.2.2.2 i % 10
def gw (S : St) (w i : Nat) : Bool := decide (0 < MC S w (wa S i) (wc S i))
def SW (S : St) (w : Nat) : Nat := fb_ct (gw S w) S.2.2.2.1
def gA (S : St) (w : Nat) : Bool := allN (gw S w) S.2.2.2.1
def RW (S : St) : Nat := uf key (gA S) (2 ^ S.2.2.1.1)
section
variable {σ τ : fw_T} {S : St}
theorem c_countSat (hc : CS σ 12 S) (hS : OKS S) : pX3_countSatisfiedWishes σ = some (nI (SW S 0), σ) := by
  have hw := hS.2.2.2.1
  have h10 := hS.2.2.2.ten (by omega)
  unfold pX3_countSatisfiedWishes
  refine lp_all (fun n i => pX3_countSatisfiedWishes_4 n (nI (fb_ct (gw S 0) i)) (nI i) σ) (N := S.2.2.2.1) ?_ ?_ 400 0 (Nat.zero_le _) (by omega)
  · intro n
    rw [pX3_countSatisfiedWishes_4, hc.2.2.2.1, if_pos (by rw [leI (by omega) (by omega)]; omega)]
    rfl
  · intro n i hi
    have hr := hS.2.2.2.2 i hi
    have hl := MC_le S 0 (S.2.2.2.2 i / 10) (S.2.2.2.2 i % 10)
    rw [pX3_countSatisfiedWishes_4, hc.2.2.2.1, if_neg (by rw [leI (by omega) (by omega)]; omega), c_firstAt hc.2.2.2 h10 hi, sb2, c_secondAt hc.2.2.2 h10 hi, sb2, c_countMatches hc hS (by omega) (by omega), sb2, fb_ct_succ]
    by_cases hz : MC S 0 (S.2.2.2.2 i / 10) (S.2.2.2.2 i % 10) = 0
    · rw [if_pos (by rw [nIle0 (by omega)]; exact hz), nI_1]
      simp [gw, wa, wc, hz]
    · rw [if_neg (by rw [nIle0 (by omega)]; exact hz), nI_1, nI_1]
      simp [gw, wa, wc, show 0 < MC S 0 (S.2.2.2.2 i / 10) (S.2.2.2.2 i % 10) by omega]
theorem m_satisfied (hm : MS τ 1 0 S) (hS : OKS S) {w : Nat} (hw64 : w < 64) : pX8_satisfied (nI w) τ = some (nI (SW S w), τ) := by
  have hw := hS.2.2.2.1
  have e47 : fw_g τ 1 47 = nI S.2.2.2.1 := hm.2.2.2.1
  unfold pX8_satisfied
  refine lp_all (fun n i => pX8_satisfied_4 n (nI w) (nI (fb_ct (gw S w) i)) (nI i) τ) (N := S.2.2.2.1) ?_ ?_ 400 0 (Nat.zero_le _) (by omega)
  · intro n
    rw [pX8_satisfied_4, show (47 : Int32) = nI 47 from rfl, rdI (by omega) (by omega), sbd, e47, if_pos (by rw [leI (by omega) (by omega)]; omega)]
    rfl
  · intro n i hi
    have hr := hS.2.2.2.2 i hi
    have e2 : fw_g τ 1 (48 + i) = nI (S.2.2.2.2 i) := hm.2.2.2.2 i hi
    have hl := MC_le S w (S.2.2.2.2 i / 10) (S.2.2.2.2 i % 10)
    rw [pX8_satisfied_4, show (47 : Int32) = nI 47 from rfl, rdI (by omega) (by omega), sbd, e47, if_neg (by rw [leI (by omega) (by omega)]; omega), show (48 : Int32) = nI 48 from rfl, nI_add, rdI (by omega) (by omega), sbd, sbd, e2, mod10 _ hr, div10 _ hr, m_matches hm hS (by omega) (by omega) hw64, sb2, fb_ct_succ]
    by_cases hz : MC S w (S.2.2.2.2 i / 10) (S.2.2.2.2 i % 10) = 0
    · rw [if_pos (by rw [nIle0 (by omega)]; exact hz), nI_1, z0I]
      simp [gw, wa, wc, hz]
    · rw [if_neg (by rw [nIle0 (by omega)]; exact hz), nI_1, nI_1]
      simp [gw, wa, wc, show 0 < MC S w (S.2.2.2.2 i / 10) (S.2.2.2.2 i % 10) by omega]
def wval (S : St) (l : Nat) : Int32 := if J S (wa S (l / 10)) (wc S (l / 10)) (l % 10) = true then nI (rj S (wa S (l / 10)) (l % 10) (wc S (l / 10))) else -10001
def wl (σ : fw_T) (S : St) (k : Nat) : fw_T := (fun a l => if a = 11 ∧ l < k then wval S l else σ.1 a l, σ.2)
theorem wl_0 (σ : fw_T) (S : St) : wl σ S 0 = σ := by simp [wl]
theorem wl_ne (σ : fw_T) (S : St) (k : Nat) {j : Nat} (hj : j ≠ 11) : fw_g (wl σ S k) j = fw_g σ j := by funext l; simp [fw_g, wl, hj]
theorem wl_at (σ : fw_T) (S : St) {k l : Nat} (hl : l < k) : fw_g (wl σ S k) 11 l = wval S l := by simp [fw_g, wl, hl]
theorem wl_step (σ : fw_T) (S : St) (k : Nat) : fw_u (wl σ S k) 11 k (wval S k) = wl σ S (k + 1) := by
  unfold fw_u wl
  refine Prod.ext (funext fun a => funext fun l => ?_) rfl
  by_cases ha : a = 11
  · subst ha
    by_cases hl : l = k
    · subst hl; simp
    · have e : l < k ↔ l < k + 1 := by omega
      simp [hl, e]
  · simp [ha]
theorem CS.wl (hc : CS σ 12 S) (k : Nat) : CS (wl σ S k) 12 S := hc.frame (fun j h1 h2 => wl_ne σ S k (by omega))
theorem c_list_in (hc : CS σ 12 S) (hS : OKS S) {i : Nat} (hi : i < S.2.2.2.1) (K : Int32 → fw_T → Option fw_T) : pX3_listWishRejecters_56 K 400 (nI i) (nI (wa S i)) (nI (wc S i)) (nI (mk (J S (wa S i) (wc S i)) 10)) 0 (wl σ S (10 * i)) = K (nI (i + 1)) (wl σ S (10 * (i + 1))) := by
  have hw := hS.2.2.2.1
  refine lp_all (fun n b => pX3_listWishRejecters_56 K n (nI i) (nI (wa S i)) (nI (wc S i)) (nI (mk (J S (wa S i) (wc S i)) 10)) (nI b) (wl σ S (10 * i + b))) (N := 10) ?_ ?_ 400 0 (Nat.zero_le _) (by omega)
  · intro n
    rw [pX3_listWishRejecters_56, if_pos (by decide), nI_1]
    rfl
  · intro n b hb
    have hc2 := hc.wl (10 * i + b)
    have ev : wval S (10 * i + b) = if J S (wa S i) (wc S i) b = true then nI (rj S (wa S i) b (wc S i)) else -10001 := by
      unfold wval
      rw [show (10 * i + b) / 10 = i by omega, show (10 * i + b) % 10 = b by omega]
    rw [pX3_listWishRejecters_56, if_neg (by rw [show (10 : Int32) = nI 10 from rfl, leI (by omega) (by omega)]; omega), c_isIn hb, sb2, ifb, row10]
    cases hj : J S (wa S i) (wc S i) b with
    | false =>
      rw [hj, if_neg (by decide)] at ev
      rw [if_neg (by decide), wrI (by omega) (by omega), sbd, nI_1, ← ev, wl_step]
      rfl
    | true =>
      rw [hj, if_pos rfl] at ev
      rw [if_pos rfl, c_rejecters hc2.2.2.1 hS.2.2.1, sb2, wrI (by omega) (by omega), sbd, nI_1, show rej S.2.2.1 (wa S i) b (wc S i) = rj S (wa S i) b (wc S i) from rfl, ← ev, wl_step]
      rfl
theorem c_list (hc : CS σ 12 S) (hS : OKS S) : pX3_listWishRejecters σ = some (wl σ S (10 * S.2.2.2.1)) := by
  have hw := hS.2.2.2.1
  have h10 := hS.2.2.2.ten (by omega)
  unfold pX3_listWishRejecters
  have := lp_all (fun n i => pX3_listWishRejecters_2 n (nI i) (wl σ S (10 * i))) (N := S.2.2.2.1) (fin := some (wl σ S (10 * S.2.2.2.1))) ?_ ?_ 400 0 (Nat.zero_le _) (by omega)
  · rw [show 10 * 0 = 0 from rfl, wl_0] at this
    exact this
  · intro n
    rw [pX3_listWishRejecters_2, ((hc.wl _).2.2.2).1, if_pos (by rw [leI (by omega) (by omega)]; omega)]
  · intro n i hi
    have hc2 := hc.wl (10 * i)
    have hr := hS.2.2.2.2 i hi
    have ea : wa S i < 10 := by unfold wa; omega
    have ec : wc S i < 10 := by unfold wc; omega
    rw [pX3_listWishRejecters_2, hc2.2.2.2.1, if_neg (by rw [leI (by omega) (by omega)]; omega), if_neg (by rw [show (4 : Int32) = nI 4 from rfl, leI (by omega) (by omega)]; omega), c_firstAt hc2.2.2.2 h10 hi, sb2, c_secondAt hc2.2.2.2 h10 hi, sb2]
    have e3 := c_joinedBs hc2 hS ea ec
    unfold wa wc at e3
    rw [e3, sb2]
    exact c_list_in hc hS hi _
theorem gw_iff (S : St) (w i : Nat) : gw S w i = true ↔ ∃ b, b < 10 ∧ J S (wa S i) (wc S i) b = true ∧ sb (rj S (wa S i) b (wc S i)) w = true := MC_good S w (wa S i) (wc S i)
theorem c_grantsWish (hS : OKS S) {i w : Nat} (hi : i < S.2.2.2.1) (hw64 : w < 64) : pX3_grantsWish (nI i) (nI w) (wl σ S (10 * S.2.2.2.1)) = some (bI (gw S w i), wl σ S (10 * S.2.2.2.1)) := by
  have hw := hS.2.2.2.1
  have hs := hS.2.2.1.1
  unfold pX3_grantsWish
  refine lp_up (fun n b => pX3_grantsWish_2 n (nI i) (nI w) (nI b) (wl σ S (10 * S.2.2.2.1))) (fun b => ∀ b', b' < b → J S (wa S i) (wc S i) b' = true → sb (rj S (wa S i) b' (wc S i)) w = false) (N := 10) ?_ ?_ 400 0 (Nat.zero_le _) (fun b h => by omega) (by omega)
  · intro n hP
    have hg : gw S w i = false := by
      cases hx : gw S w i with
      | false => rfl
      | true =>
        obtain ⟨b, hb, hj, hsb⟩ := (gw_iff S w i).mp hx
        rw [hP b hb hj] at hsb
        cases hsb
    rw [pX3_grantsWish_2, if_pos (by decide), hg]
    rfl
  · intro n b hb hP
    have hle : rj S (wa S i) b (wc S i) < 64 := rej_lt hs _ _ _
    have ev : wval S (10 * i + b) = if J S (wa S i) (wc S i) b = true then nI (rj S (wa S i) b (wc S i)) else -10001 := by
      unfold wval
      rw [show (10 * i + b) / 10 = i by omega, show (10 * i + b) % 10 = b by omega]
    rw [pX3_grantsWish_2, if_neg (by rw [show (10 : Int32) = nI 10 from rfl, leI (by omega) (by omega)]; omega), row10, rdI (by omega) (by omega), sbd, wl_at _ _ (by omega), ev, nI_1]
    cases hj : J S (wa S i) (wc S i) b with
    | false =>
      right
      rw [if_neg (show ¬ false = true by decide), if_pos rfl]
      refine ⟨rfl, fun b' hb' hj' => ?_⟩
      by_cases he : b' = b
      · subst he; rw [hj] at hj'; cases hj'
      · exact hP b' (by omega) hj'
    | true =>
      rw [if_pos (show true = true from rfl), if_neg (nI_no (by omega))]
      by_cases hsb : sb (rj S (wa S i) b (wc S i)) w = true
      · left
        rw [if_pos ((notI _ hle w hw64).mpr hsb), (gw_iff S w i).mpr ⟨b, hb, hj, hsb⟩]
        rfl
      · right
        rw [if_neg (fun h => hsb ((notI _ hle w hw64).mp h))]
        refine ⟨rfl, fun b' hb' hj' => ?_⟩
        by_cases he : b' = b
        · subst he; simpa using hsb
        · exact hP b' (by omega) hj'
theorem c_grantsWishes (hc : CS σ 12 S) (hS : OKS S) {w : Nat} (hw64 : w < 64) : pX3_grantsWishes (nI w) (wl σ S (10 * S.2.2.2.1)) = some (bI (gA S w), wl σ S (10 * S.2.2.2.1)) := by
  have hw := hS.2.2.2.1
  have hc2 := hc.wl (10 * S.2.2.2.1)
  unfold pX3_grantsWishes
  refine lp_up (fun n i => pX3_grantsWishes_2 n (nI w) (nI i) (wl σ S (10 * S.2.2.2.1))) (fun i => allN (gw S w) i = true) (N := S.2.2.2.1) ?_ ?_ 400 0 (Nat.zero_le _) rfl (by omega)
  · intro n hP
    rw [pX3_grantsWishes_2, hc2.2.2.2.1, if_pos (by rw [leI (by omega) (by omega)]; omega)]
    unfold gA
    rw [hP]
    rfl
  · intro n i hi hP
    rw [pX3_grantsWishes_2, hc2.2.2.2.1, if_neg (by rw [leI (by omega) (by omega)]; omega), if_neg (by rw [show (4 : Int32) = nI 4 from rfl, leI (by omega) (by omega)]; omega), c_grantsWish hS hi hw64, sb2, ifb, nI_1]
    cases hg : gw S w i with
    | false =>
      left
      have : gA S w = false := by
        cases hx : gA S w with
        | false => rfl
        | true =>
          have := allN_iff.mp hx i hi
          rw [hg] at this
          cases this
      rw [if_neg (by decide), this]
      rfl
    | true =>
      right
      rw [if_pos rfl]
      exact ⟨rfl, by simp [allN, hP, hg]⟩
theorem c_removalW (hc : CS σ 12 S) (hS : OKS S) : pX3_smallestRemovalForWishes σ = some (rv (RW S), wl σ S (10 * S.2.2.2.1)) := by
  have hs := hS.2.2.1.1
  have hM := two_le hs
  have hc2 := hc.wl (10 * S.2.2.2.1)
  unfold pX3_smallestRemovalForWishes
  rw [c_list hc hS, sbd, hc2.2.2.1.1, if_neg (by rw [show (6 : Int32) = nI 6 from rfl, ltI (by omega) (by omega)]; omega), shI _ (by omega)]
  refine lp_all (fun n k => pX3_smallestRemovalForWishes_28 n (rv (uf key (gA S) k)) (nI (2 ^ S.2.2.1.1)) (nI k) (wl σ S (10 * S.2.2.2.1))) (N := 2 ^ S.2.2.1.1) ?_ ?_ 400 0 (Nat.zero_le _) (by omega)
  · intro n
    rw [pX3_smallestRemovalForWishes_28, if_pos (by rw [leI (by omega) (by omega)]; omega)]
    rfl
  · intro n k hk
    have hok := uf_ok key (gA S) k (by omega)
    have e : uf key (gA S) (k + 1) = if (uf key (gA S) k = 64 ∨ key k < key (uf key (gA S) k)) ∧ gA S k = true then k else uf key (gA S) k := rfl
    generalize hv : uf key (gA S) k = v at e hok ⊢
    generalize hv2 : uf key (gA S) (k + 1) = v2 at e ⊢
    rw [pX3_smallestRemovalForWishes_28, if_neg (by rw [leI (by omega) (by omega)]; omega)]
    have step : pX3_smallestRemovalForWishes_48 (fun a0 a1 a2 σ => pX3_smallestRemovalForWishes_28 n a0 a1 a2 σ) (rv v) (nI (2 ^ S.2.2.1.1)) (nI k) (wl σ S (10 * S.2.2.2.1)) = pX3_smallestRemovalForWishes_28 n (if gA S k = true then nI k else rv v) (nI (2 ^ S.2.2.1.1)) (nI (k + 1)) (wl σ S (10 * S.2.2.2.1)) := by
      unfold pX3_smallestRemovalForWishes_48
      rw [c_grantsWishes hc hS (by omega), sb2, ifb, nI_1]
      cases gA S k <;> rfl
    rcases hok with ⟨i1, i2⟩ | ⟨i1, i2, i3⟩
    · rw [if_pos (by rw [i1]; rfl), step]
      by_cases hg : gA S k = true
      · rw [if_pos hg, e, if_pos ⟨Or.inl i1, hg⟩, rv_ne (by omega)]
      · rw [if_neg hg, e, if_neg (fun h => hg h.2)]
    · have hr : rv v = nI v := rv_ne (by omega)
      rw [if_neg (by rw [hr]; exact nI_no (by omega)), hr, c_isSmallerSet (by omega) (by omega), sb2, ifb]
      by_cases hk2 : key k < key v
      · rw [if_pos (by simpa using hk2), ← hr, step]
        by_cases hg : gA S k = true
        · rw [if_pos hg, e, if_pos ⟨Or.inr hk2, hg⟩, rv_ne (by omega)]
        · rw [if_neg hg, e, if_neg (fun h => hg h.2)]
      · rw [if_neg (by simpa using hk2), e, if_neg (fun h => by rcases h.1 with h3 | h3 <;> omega), nI_1, hr]
theorem SW_all (S : St) (w : Nat) : SW S w = S.2.2.2.1 ↔ gA S w = true := by
  unfold SW gA
  rw [fb_ct_all, allN_iff]
theorem m_removalW (hm : MS τ 1 0 S) (hS : OKS S) : pX8_removalForWishes τ = some (rv (RW S), τ) := by
  have hs := hS.2.2.1.1
  have hw := hS.2.2.2.1
  have hM := two_le hs
  have hp : 0 < 2 ^ S.2.2.1.1 := Nat.two_pow_pos _
  have hmin := mf_min hM (gA S)
  unfold RW
  rw [isMin.one (M := 2 ^ S.2.2.1.1) hM (fun x y hx hy h => key_inj (by omega) (by omega) h) (fun _ _ => rfl) (uf_ok key (gA S) (2 ^ S.2.2.1.1) hM) hmin]
  have e22 : fw_g τ 1 22 = nI S.2.2.1.1 := hm.2.2.1.1
  have e47 : fw_g τ 1 47 = nI S.2.2.2.1 := hm.2.2.2.1
  unfold pX8_removalForWishes
  rw [show (22 : Int32) = nI 22 from rfl, rdI (by omega) (by omega), sbd, e22, sh_sub _ hs]
  refine lp_all (fun n k => pX8_removalForWishes_16 n (rv (mf (2 ^ S.2.2.1.1) (gA S) k)) (xd (2 ^ S.2.2.1.1) k) τ) (N := 2 ^ S.2.2.1.1) ?_ ?_ 400 0 (Nat.zero_le _) (by omega)
  · intro n
    rw [pX8_removalForWishes_16, if_pos (by unfold xd; rw [if_neg (by omega)]; decide)]
  · intro n k hk
    have hok := mf_ok hM (gA S) k (by omega)
    have hx : xd (2 ^ S.2.2.1.1) k = nI (2 ^ S.2.2.1.1 - 1 - k) := by unfold xd; rw [if_pos hk]
    have e : mf (2 ^ S.2.2.1.1) (gA S) (k + 1) = if (mf (2 ^ S.2.2.1.1) (gA S) k = 64 ∨ pc (2 ^ S.2.2.1.1 - 1 - k) ≤ pc (mf (2 ^ S.2.2.1.1) (gA S) k)) ∧ gA S (2 ^ S.2.2.1.1 - 1 - k) = true then 2 ^ S.2.2.1.1 - 1 - k else mf (2 ^ S.2.2.1.1) (gA S) k := rfl
    generalize hv : mf (2 ^ S.2.2.1.1) (gA S) k = v at e hok ⊢
    generalize hv2 : mf (2 ^ S.2.2.1.1) (gA S) (k + 1) = v2 at e ⊢
    have hl : SW S (2 ^ S.2.2.1.1 - 1 - k) ≤ S.2.2.2.1 := fb_ct_le _ _
    have ha := SW_all S (2 ^ S.2.2.1.1 - 1 - k)
    rw [pX8_removalForWishes_16, hx, if_neg (nI_pos (by omega))]
    have step : pX8_removalForWishes_43 (fun a0 a1 σ => pX8_removalForWishes_16 n a0 a1 σ) (rv v) (nI (2 ^ S.2.2.1.1 - 1 - k)) 1 τ = pX8_removalForWishes_16 n (if gA S (2 ^ S.2.2.1.1 - 1 - k) = true then nI (2 ^ S.2.2.1.1 - 1 - k) else rv v) (xd (2 ^ S.2.2.1.1) (k + 1)) τ := by
      unfold pX8_removalForWishes_43
      rw [if_neg (by decide), m_satisfied hm hS (by omega), sb2, show (47 : Int32) = nI 47 from rfl, rdI (by omega) (by omega), sbd, e47, xd_next hk]
      by_cases hz : SW S (2 ^ S.2.2.1.1 - 1 - k) = S.2.2.2.1
      · rw [if_pos (by rw [hz]), if_pos (ha.mp hz)]
      · rw [if_neg (by rw [eqI (by omega) (by omega)]; exact hz), if_neg (fun h => hz (ha.mpr h))]
    rcases hok with ⟨i1, i2⟩ | ⟨i1, i2, i3, i4⟩
    · rw [if_pos (by rw [i1]; rfl), step]
      by_cases hg : gA S (2 ^ S.2.2.1.1 - 1 - k) = true
      · rw [if_pos hg, e, if_pos ⟨Or.inl i1, hg⟩, rv_ne (by omega)]
      · rw [if_neg hg, e, if_neg (fun h => hg h.2)]
    · have hr : rv v = nI v := rv_ne (by omega)
      have p1 := pc_le v
      have p2 := pc_le (2 ^ S.2.2.1.1 - 1 - k)
      rw [if_neg (by rw [hr]; exact nI_no (by omega)), m_ones (by omega), sb2, hr, m_ones (by omega), sb2]
      by_cases hp2 : pc v < pc (2 ^ S.2.2.1.1 - 1 - k)
      · rw [if_pos (by rw [ltI (by omega) (by omega)]; exact hp2), e, if_neg (fun h => by rcases h.1 with h3 | h3 <;> omega)]
        unfold pX8_removalForWishes_43
        rw [if_pos rfl, xd_next hk, hr]
      · rw [if_neg (by rw [ltI (by omega) (by omega)]; exact hp2), ← hr, step]
        by_cases hg : gA S (2 ^ S.2.2.1.1 - 1 - k) = true
        · rw [if_pos hg, e, if_pos ⟨Or.inr (by omega), hg⟩, rv_ne (by omega)]
        · rw [if_neg hg, e, if_neg (fun h => hg h.2)]
end
