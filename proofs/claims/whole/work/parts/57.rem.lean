/-! ===== smallest sets of filters ===== -/
def pc (m : Nat) : Nat := fb_ct (fun i => m.testBit i) 6
def key (m : Nat) : Nat := 64 * pc m + m
theorem pc_le (m : Nat) : pc m ≤ 6 := fb_ct_le _ _
theorem bcv : ∀ m, m < 64 → (pJ6_bitCount_0f7a4 (nI m) (fun _ _ => 0, 0)).map Prod.fst = some (nI (pc m)) := by decide +kernel
theorem c_bitCount {m : Nat} (hm : m < 64) (σ : fw_T) : pJ6_bitCount_0f7a4 (nI m) σ = some (nI (pc m), σ) := by
  have h1 : pJ6_bitCount_0f7a4 (nI m) σ = ((pJ6_bitCount_0f7a4 (nI m) (fun _ _ => 0, 0)).map Prod.fst).map (fun r => (r, σ)) := rfl
  rw [h1, bcv m hm]
  rfl
theorem m_ones {m : Nat} (hm : m < 64) (τ : fw_T) : pX8_ones (nI m) τ = some (nI (pc m), τ) := by
  unfold pX8_ones
  refine lp_all (fun n i => pX8_ones_4 n (nI m) (nI (fb_ct (fun i => m.testBit i) i)) (nI i) τ) (N := 6) ?_ ?_ 400 0 (Nat.zero_le _) (by omega)
  · intro n
    rw [pX8_ones_4, if_pos (by decide)]
    rfl
  · intro n i hi
    rw [pX8_ones_4, if_neg (by rw [show (6 : Int32) = nI 6 from rfl, leI (by omega) (by omega)]; omega), shr01 m hm i hi, nI_add, nI_1, fb_ct_succ]
theorem sub_lt : ∀ p, p ≤ 6 → ∀ q, q ≤ 6 → ((nI p - nI q < 0 ↔ p < q) ∧ (nI p - nI q = 0 ↔ p = q)) := by decide +kernel
theorem c_isSmallerSet {x y : Nat} (hx : x < 64) (hy : y < 64) (σ : fw_T) : pX3_isSmallerSet (nI x) (nI y) σ = some (bI (decide (key x < key y)), σ) := by
  unfold pX3_isSmallerSet
  have h1 := pc_le x
  have h2 := pc_le y
  obtain ⟨e1, e2⟩ := sub_lt _ h1 _ h2
  rw [c_bitCount hx, sb2, c_bitCount hy, sb2]
  have hk : key x = 64 * pc x + x := rfl
  have hk2 : key y = 64 * pc y + y := rfl
  by_cases a1 : pc x < pc y
  · rw [if_pos (e1.mpr a1)]
    have : key x < key y := by omega
    simp [this, bI, rz1]
  · rw [if_neg (fun h => a1 (e1.mp h))]
    by_cases a2 : pc x = pc y
    · rw [if_pos (e2.mpr a2)]
      by_cases a3 : y ≤ x
      · rw [if_pos (by rw [leI (by omega) (by omega)]; exact a3)]
        have : ¬ key x < key y := by omega
        simp [this, bI, rz0]
      · rw [if_neg (by rw [leI (by omega) (by omega)]; exact a3)]
        have : key x < key y := by omega
        simp [this, bI, rz1]
    · rw [if_neg (fun h => a2 (e2.mp h))]
      have : ¬ key x < key y := by omega
      simp [this, bI, rz0]
def isMin (M : Nat) (ky : Nat → Nat) (gd : Nat → Bool) (v : Nat) : Prop := (v = 64 ∧ ∀ s, s < M → gd s = false) ∨ (v < M ∧ gd v = true ∧ ∀ s, s < M → gd s = true → ky v ≤ ky s)
theorem isMin.one {M : Nat} {ky : Nat → Nat} {gd gd' : Nat → Bool} (hM : M ≤ 64) (hinj : ∀ x y, x < M → y < M → ky x = ky y → x = y) (hg : ∀ s, s < M → gd s = gd' s) {v w : Nat} (h1 : isMin M ky gd v) (h2 : isMin M ky gd' w) : v = w := by
  rcases h1 with ⟨a1, a2⟩ | ⟨a1, a2, a3⟩ <;> rcases h2 with ⟨b1, b2⟩ | ⟨b1, b2, b3⟩
  · omega
  · have := a2 w b1
    rw [hg w b1, b2] at this
    cases this
  · have := b2 v a1
    rw [← hg v a1, a2] at this
    cases this
  · exact hinj v w a1 b1 (Nat.le_antisymm (a3 w b1 (by rw [hg w b1]; exact b2)) (b3 v a1 (by rw [← hg v a1]; exact a2)))
theorem key_inj {x y : Nat} (hx : x < 64) (hy : y < 64) (h : key x = key y) : x = y := by unfold key at h; omega
set_option maxRecDepth 100000 in
theorem key_mono : ∀ x, x < 64 → ∀ y, y < 64 → sb x y = true → key x ≤ key y := by decide +kernel
def rv (m : Nat) : Int32 := if m = 64 then -10001 else nI m
theorem rv_ne {m : Nat} (h : m < 64) : rv m = nI m := by unfold rv; rw [if_neg (by omega)]
theorem rv_64 : rv 64 = -10001 := rfl
/-- downward, the later of equal size wins -/
def mf (M : Nat) (gd : Nat → Bool) : Nat → Nat
  | 0 => 64
  | k + 1 => if (mf M gd k = 64 ∨ pc (M - 1 - k) ≤ pc (mf M gd k)) ∧ gd (M - 1 - k) = true then M - 1 - k else mf M gd k
theorem mf_ok {M : Nat} (hM : M ≤ 64) (gd : Nat → Bool) : ∀ k, k ≤ M → (mf M gd k = 64 ∧ ∀ s, M - k ≤ s → s < M → gd s = false) ∨ (M - k ≤ mf M gd k ∧ mf M gd k < M ∧ gd (mf M gd k) = true ∧ ∀ s, M - k ≤ s → s < M → gd s = true → key (mf M gd k) ≤ key s) := by
  intro k hk
  induction k with
  | zero => exact Or.inl ⟨rfl, fun s h1 h2 => by omega⟩
  | succ k ih =>
    have hk1 : key (M - 1 - k) = 64 * pc (M - 1 - k) + (M - 1 - k) := rfl
    have hk2 : key (mf M gd k) = 64 * pc (mf M gd k) + mf M gd k := rfl
    simp only [mf]
    by_cases hc : (mf M gd k = 64 ∨ pc (M - 1 - k) ≤ pc (mf M gd k)) ∧ gd (M - 1 - k) = true
    · rw [if_pos hc]
      refine Or.inr ⟨by omega, by omega, hc.2, fun s h1 h2 h3 => ?_⟩
      by_cases he : s = M - 1 - k
      · rw [he]; exact Nat.le_refl _
      · rcases ih (by omega) with ⟨i1, i2⟩ | ⟨i1, i2, i3, i4⟩
        · have := i2 s (by omega) h2
          rw [h3] at this
          cases this
        · have h4 := i4 s (by omega) h2 h3
          rcases hc.1 with h5 | h5
          · omega
          · omega
    · rw [if_neg hc]
      rcases ih (by omega) with ⟨i1, i2⟩ | ⟨i1, i2, i3, i4⟩
      · refine Or.inl ⟨i1, fun s h1 h2 => ?_⟩
        by_cases he : s = M - 1 - k
        · rw [he]
          cases hg : gd (M - 1 - k) with
          | false => rfl
          | true => exact absurd ⟨Or.inl i1, hg⟩ hc
        · exact i2 s (by omega) h2
      · refine Or.inr ⟨by omega, i2, i3, fun s h1 h2 h3 => ?_⟩
        by_cases he : s = M - 1 - k
        · subst he
          have : ¬ pc (M - 1 - k) ≤ pc (mf M gd k) := fun h => hc ⟨Or.inr h, h3⟩
          omega
        · exact i4 s (by omega) h2 h3
theorem mf_min {M : Nat} (hM : M ≤ 64) (gd : Nat → Bool) : isMin M key gd (mf M gd M) := by
  rcases mf_ok hM gd M (Nat.le_refl M) with ⟨a, b⟩ | ⟨a, b, c, d⟩
  · exact Or.inl ⟨a, fun s hs => b s (by omega) hs⟩
  · exact Or.inr ⟨b, c, fun s hs => d s (by omega) hs⟩
/-- upward, only a smaller one wins -/
def uf (ky : Nat → Nat) (gd : Nat → Bool) : Nat → Nat
  | 0 => 64
  | k + 1 => if (uf ky gd k = 64 ∨ ky k < ky (uf ky gd k)) ∧ gd k = true then k else uf ky gd k
theorem uf_ok (ky : Nat → Nat) (gd : Nat → Bool) : ∀ k, k ≤ 64 → isMin k ky gd (uf ky gd k) := by
  intro k
  induction k with
  | zero => exact fun _ => Or.inl ⟨rfl, fun s h => by omega⟩
  | succ k ih =>
    intro hk
    have ih := ih (by omega)
    simp only [uf]
    by_cases hc : (uf ky gd k = 64 ∨ ky k < ky (uf ky gd k)) ∧ gd k = true
    · rw [if_pos hc]
      refine Or.inr ⟨by omega, hc.2, fun s h1 h2 => ?_⟩
      by_cases he : s = k
      · rw [he]; exact Nat.le_refl _
      · rcases ih with ⟨i1, i2⟩ | ⟨i1, i2, i3⟩
        · have := i2 s (by omega)
          rw [h2] at this
          cases this
        · have h4 := i3 s (by omega) h2
          rcases hc.1 with h5 | h5
          · omega
          · omega
    · rw [if_neg hc]
      rcases ih with ⟨i1, i2⟩ | ⟨i1, i2, i3⟩
      · refine Or.inl ⟨i1, fun s hs => ?_⟩
        by_cases he : s = k
        · rw [he]
          cases hg : gd k with
          | false => rfl
          | true => exact absurd ⟨Or.inl i1, hg⟩ hc
        · exact i2 s (by omega)
      · refine Or.inr ⟨by omega, i2, fun s hs h2 => ?_⟩
        by_cases he : s = k
        · subst he
          have : ¬ ky s < ky (uf ky gd s) := fun h => hc ⟨Or.inr h, h2⟩
          omega
        · exact i3 s (by omega) h2
section
variable {σ τ : fw_T} {S : St}
def br (S : St) (a c : Nat) : Nat → Nat
  | 0 => 64
  | b + 1 => if J S a c b = true ∧ (br S a c b = 64 ∨ key (rj S a b c) < key (br S a c b)) then rj S a b c else br S a c b
theorem br_ok (S : St) (a c : Nat) (hs : S.2.2.1.1 ≤ 6) : ∀ n, (br S a c n = 64 ∧ ∀ b, b < n → J S a c b = false) ∨ (br S a c n < 64 ∧ (∃ b, b < n ∧ J S a c b = true ∧ br S a c n = rj S a b c) ∧ ∀ b, b < n → J S a c b = true → key (br S a c n) ≤ key (rj S a b c)) := by
  intro n
  induction n with
  | zero => exact Or.inl ⟨rfl, fun b h => by omega⟩
  | succ n ih =>
    have hlt : rj S a n c < 64 := rej_lt hs a n c
    simp only [br]
    by_cases hc : J S a c n = true ∧ (br S a c n = 64 ∨ key (rj S a n c) < key (br S a c n))
    · rw [if_pos hc]
      refine Or.inr ⟨hlt, ⟨n, by omega, hc.1, rfl⟩, fun b hb hj => ?_⟩
      by_cases he : b = n
      · rw [he]; exact Nat.le_refl _
      · rcases ih with ⟨i1, i2⟩ | ⟨i1, i2, i3⟩
        · have := i2 b (by omega)
          rw [hj] at this
          cases this
        · have := i3 b (by omega) hj
          rcases hc.2 with h5 | h5 <;> omega
    · rw [if_neg hc]
      rcases ih with ⟨i1, i2⟩ | ⟨i1, ⟨b0, i2⟩, i3⟩
      · refine Or.inl ⟨i1, fun b hb => ?_⟩
        by_cases he : b = n
        · rw [he]
          cases hg : J S a c n with
          | false => rfl
          | true => exact absurd ⟨hg, Or.inl i1⟩ hc
        · exact i2 b (by omega)
      · refine Or.inr ⟨i1, ⟨b0, by omega, i2.2⟩, fun b hb hj => ?_⟩
        by_cases he : b = n
        · subst he
          have : ¬ key (rj S a b c) < key (br S a c b) := fun h => hc ⟨hj, Or.inr h⟩
          omega
        · exact i3 b (by omega) hj
theorem sb_self (m : Nat) : sb m m = true := by unfold sb; simp
theorem rj_lt (S : St) (a b c : Nat) : rj S a b c < 2 ^ S.2.2.1.1 := mk_lt _ _
theorem MC_good (S : St) (w a c : Nat) : decide (0 < MC S w a c) = true ↔ ∃ b, b < 10 ∧ J S a c b = true ∧ sb (rj S a b c) w = true := by
  rw [decide_eq_true_eq]
  unfold MC
  rw [fb_ct_pos]
  simp only [Bool.and_eq_true]
theorem two_le {n : Nat} (h : n ≤ 6) : 2 ^ n ≤ 64 := Nat.pow_le_pow_right (by decide) h
theorem br_min (S : St) (a c : Nat) (hs : S.2.2.1.1 ≤ 6) : isMin (2 ^ S.2.2.1.1) key (fun w => decide (0 < MC S w a c)) (br S a c 10) := by
  have hM := two_le hs
  rcases br_ok S a c hs 10 with ⟨h1, h2⟩ | ⟨h1, ⟨b0, h2, h3, h4⟩, h5⟩
  · refine Or.inl ⟨h1, fun s hs2 => ?_⟩
    cases hg : decide (0 < MC S s a c) with
    | false => exact hg
    | true =>
      obtain ⟨b, hb, hj, -⟩ := (MC_good S s a c).mp hg
      rw [h2 b hb] at hj
      cases hj
  · refine Or.inr ⟨by rw [h4]; exact rj_lt S a b0 c, (MC_good S _ a c).mpr ⟨b0, h2, h3, by rw [h4]; exact sb_self _⟩, fun s hs2 hg => ?_⟩
    obtain ⟨b, hb, hj, hsb⟩ := (MC_good S s a c).mp hg
    exact Nat.le_trans (h5 b hb hj) (key_mono _ (rej_lt hs a b c) s (by omega) hsb)
theorem c_smallestRemoval (hc : CS σ 12 S) (hS : OKS S) {a c : Nat} (ha : a < 10) (hc10 : c < 10) : pX3_smallestRemoval (nI a) (nI c) σ = some (rv (br S a c 10), σ) := by
  have hs := hS.2.2.1.1
  unfold pX3_smallestRemoval
  rw [c_joinedBs hc hS ha hc10, sb2]
  refine lp_all (fun n b => pX3_smallestRemoval_15 n (nI a) (nI c) (nI (mk (J S a c) 10)) (rv (br S a c b)) (nI b) σ) (N := 10) ?_ ?_ 400 0 (Nat.zero_le _) (by omega)
  · intro n
    rw [pX3_smallestRemoval_15, if_pos (by decide)]
  · intro n b hb
    have hle : rj S a b c < 64 := rej_lt hs a b c
    have e : br S a c (b + 1) = if J S a c b = true ∧ (br S a c b = 64 ∨ key (rj S a b c) < key (br S a c b)) then rj S a b c else br S a c b := rfl
    rw [pX3_smallestRemoval_15, if_neg (by rw [show (10 : Int32) = nI 10 from rfl, leI (by omega) (by omega)]; omega), c_isIn hb, sb2, ifb]
    cases hj : J S a c b with
    | false =>
      rw [if_neg (fun h => by rw [hj] at h; exact absurd h.1 (by decide))] at e
      rw [if_neg (by decide), nI_1, e]
    | true =>
      rw [if_pos rfl, c_rejecters hc.2.2.1 hS.2.2.1, sb2, nI_1]
      rcases br_ok S a c hs b with ⟨h1, h2⟩ | ⟨h1, h2⟩
      · rw [if_pos ⟨hj, Or.inl h1⟩] at e
        rw [h1, if_pos rv_64, e, rv_ne hle]
        rfl
      · rw [rv_ne h1, if_neg (nI_no (by omega)), show rej S.2.2.1 a b c = rj S a b c from rfl, c_isSmallerSet hle h1, sb2, ifb]
        by_cases hk : key (rj S a b c) < key (br S a c b)
        · rw [if_pos ⟨hj, Or.inr hk⟩] at e
          rw [if_pos (by simpa using hk), e, rv_ne hle]
        · rw [if_neg (fun h => by rcases h.2 with h3 | h3 <;> omega)] at e
          rw [if_neg (by simpa using hk), e, rv_ne h1]
def xd (M k : Nat) : Int32 := if k < M then nI (M - 1 - k) else -1
theorem xd_next {M k : Nat} (hk : k < M) : nI (M - 1 - k) + (-1 : Int32) = xd M (k + 1) := by
  unfold xd
  by_cases h : k + 1 < M
  · rw [if_pos h, show M - 1 - k = (M - 1 - (k + 1)) + 1 by omega, decI]
  · rw [if_neg h, show M - 1 - k = 0 by omega]
    rfl
theorem sh_sub : ∀ f, f ≤ 6 → (1 : Int32) <<< (nI f &&& 31) - 1 = xd (2 ^ f) 0 := by decide +kernel
theorem m_removal (hm : MS τ 1 0 S) (hS : OKS S) {a c : Nat} (ha : a < 10) (hc10 : c < 10) : pX8_removal (nI a) (nI c) τ = some (rv (br S a c 10), τ) := by
  have hs := hS.2.2.1.1
  have hM := two_le hs
  have hp : 0 < 2 ^ S.2.2.1.1 := Nat.two_pow_pos _
  have hmin := mf_min hM (fun w => decide (0 < MC S w a c))
  rw [isMin.one (M := 2 ^ S.2.2.1.1) hM (fun x y hx hy h => key_inj (by omega) (by omega) h) (fun _ _ => rfl) (br_min S a c hs) hmin]
  have e22 : fw_g τ 1 22 = nI S.2.2.1.1 := hm.2.2.1.1
  unfold pX8_removal
  rw [show (22 : Int32) = nI 22 from rfl, rdI (by omega) (by omega), sbd, e22, sh_sub _ hs]
  refine lp_all (fun n k => pX8_removal_17 n (nI a) (nI c) (rv (mf (2 ^ S.2.2.1.1) (fun w => decide (0 < MC S w a c)) k)) (xd (2 ^ S.2.2.1.1) k) τ) (N := 2 ^ S.2.2.1.1) ?_ ?_ 400 0 (Nat.zero_le _) (by omega)
  · intro n
    rw [pX8_removal_17, if_pos (by unfold xd; rw [if_neg (by omega)]; decide)]
  · intro n k hk
    have hok := mf_ok hM (fun w => decide (0 < MC S w a c)) k (by omega)
    have hx : xd (2 ^ S.2.2.1.1) k = nI (2 ^ S.2.2.1.1 - 1 - k) := by unfold xd; rw [if_pos hk]
    have e : mf (2 ^ S.2.2.1.1) (fun w => decide (0 < MC S w a c)) (k + 1) = if (mf (2 ^ S.2.2.1.1) (fun w => decide (0 < MC S w a c)) k = 64 ∨ pc (2 ^ S.2.2.1.1 - 1 - k) ≤ pc (mf (2 ^ S.2.2.1.1) (fun w => decide (0 < MC S w a c)) k)) ∧ decide (0 < MC S (2 ^ S.2.2.1.1 - 1 - k) a c) = true then 2 ^ S.2.2.1.1 - 1 - k else mf (2 ^ S.2.2.1.1) (fun w => decide (0 < MC S w a c)) k := rfl
    generalize hv : mf (2 ^ S.2.2.1.1) (fun w => decide (0 < MC S w a c)) k = v at e hok ⊢
    generalize hv2 : mf (2 ^ S.2.2.1.1) (fun w => decide (0 < MC S w a c)) (k + 1) = v2 at e ⊢
    have hl := MC_le S (2 ^ S.2.2.1.1 - 1 - k) a c
    rw [pX8_removal_17, hx, if_neg (nI_pos (by omega))]
    have step : ∀ τ', τ' = τ → pX8_removal_46 (fun a0 a1 a2 a3 σ => pX8_removal_17 n a0 a1 a2 a3 σ) (nI a) (nI c) (rv v) (nI (2 ^ S.2.2.1.1 - 1 - k)) 1 τ' = pX8_removal_17 n (nI a) (nI c) (if decide (0 < MC S (2 ^ S.2.2.1.1 - 1 - k) a c) = true then nI (2 ^ S.2.2.1.1 - 1 - k) else rv v) (xd (2 ^ S.2.2.1.1) (k + 1)) τ := by
      intro τ' hτ
      subst hτ
      unfold pX8_removal_46
      rw [if_neg (by decide), m_matches hm hS ha hc10 (by omega), sb2, xd_next hk]
      by_cases hz : MC S (2 ^ S.2.2.1.1 - 1 - k) a c = 0
      · rw [if_pos (by rw [nIle0 (by omega)]; exact hz), if_neg (by simp [hz])]
      · rw [if_neg (by rw [nIle0 (by omega)]; exact hz), if_pos (by simp; omega)]
    rcases hok with ⟨i1, i2⟩ | ⟨i1, i2, i3, i4⟩
    · rw [i1, if_pos rv_64, ← i1, step τ rfl]
      by_cases hg : decide (0 < MC S (2 ^ S.2.2.1.1 - 1 - k) a c) = true
      · rw [if_pos hg, e, if_pos ⟨Or.inl i1, hg⟩, rv_ne (by omega)]
      · rw [if_neg hg, e, if_neg (fun h => hg h.2)]
    · have hr : rv v = nI v := rv_ne (by omega)
      have p1 := pc_le v
      have p2 := pc_le (2 ^ S.2.2.1.1 - 1 - k)
      rw [if_neg (by rw [hr]; exact nI_no (by omega)), m_ones (by omega), sb2, hr, m_ones (by omega), sb2]
      by_cases hp2 : pc v < pc (2 ^ S.2.2.1.1 - 1 - k)
      · rw [if_pos (by rw [ltI (by omega) (by omega)]; exact hp2), e, if_neg (fun h => by rcases h.1 with h3 | h3 <;> omega)]
        unfold pX8_removal_46
        rw [if_pos rfl, xd_next hk, hr]
      · rw [if_neg (by rw [ltI (by omega) (by omega)]; exact hp2), ← hr, step τ rfl]
        by_cases hg : decide (0 < MC S (2 ^ S.2.2.1.1 - 1 - k) a c) = true
        · rw [if_pos hg, e, if_pos ⟨Or.inr (by omega), hg⟩, rv_ne (by omega)]
        · rw [if_neg hg, e, if_neg (fun h => hg h.2)]
end
