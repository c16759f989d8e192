/-! ===== the class's tally of matches ===== -/
def flz (σ : fw_T) (i : Nat) : fw_T := (fun a l => if a = 10 ∧ l < i then 0 else σ.1 a l, σ.2)
def tl (σ : fw_T) (g : Nat → Nat) : fw_T := (fun a l => if a = 10 ∧ l < 100 then nI (g l) else σ.1 a l, σ.2)
theorem flz_step (σ : fw_T) (i : Nat) : fw_u (flz σ i) 10 i 0 = flz σ (i + 1) := by
  unfold fw_u flz
  refine Prod.ext (funext fun a => funext fun l => ?_) rfl
  by_cases ha : a = 10
  · subst ha
    by_cases hl : l = i
    · subst hl; simp
    · have e : l < i ↔ l < i + 1 := by omega
      simp [hl, e]
  · simp [ha]
theorem c_fill (σ : fw_T) : pJ7_fill_53178 0 σ = some (tl σ (fun _ => 0)) := by
  unfold pJ7_fill_53178
  have := lp_all (fun n i => pJ7_fill_53178_5 n 0 (nI i) (nI 100) (flz σ i)) (N := 100) (fin := some (flz σ 100)) ?_ ?_ 400 0 (Nat.zero_le _) (by omega)
  · have e0 : flz σ 0 = σ := by
      unfold flz
      simp
    rw [e0] at this
    exact this
  · intro n
    rw [pJ7_fill_53178_5, if_pos (by decide)]
  · intro n i hi
    rw [pJ7_fill_53178_5, if_neg (by rw [leI (by omega) (by omega)]; omega), wrI (by omega) (by omega), sbd, flz_step, nI_1]
theorem tl_ne (σ : fw_T) (g : Nat → Nat) {j : Nat} (hj : j ≠ 10) : fw_g (tl σ g) j = fw_g σ j := by
  funext l
  simp [fw_g, tl, hj]
theorem tl_at (σ : fw_T) (g : Nat → Nat) {l : Nat} (hl : l < 100) : fw_g (tl σ g) 10 l = nI (g l) := by simp [fw_g, tl, hl]
def inc (g : Nat → Nat) (p : Nat) : Nat → Nat := fun l => if l = p then g l + 1 else g l
theorem tl_inc (σ : fw_T) (g : Nat → Nat) {p : Nat} (hp : p < 100) : fw_u (tl σ g) 10 p (nI (g p + 1)) = tl σ (inc g p) := by
  unfold fw_u tl inc
  refine Prod.ext (funext fun a => funext fun l => ?_) rfl
  by_cases ha : a = 10
  · subst ha
    by_cases hl : l = p
    · subst hl; simp [hp]
    · by_cases hl2 : l < 100 <;> simp [hl, hl2]
  · simp [ha]
def hit (S : St) (i j : Nat) : Bool := S.2.1.2 j / 10 == S.1.2 i % 10 && rej S.2.2.1 (S.1.2 i / 10) (S.1.2 i % 10) (S.2.1.2 j % 10) == 0
def pos (S : St) (i j : Nat) : Nat := 10 * (S.1.2 i / 10) + S.2.1.2 j % 10
def tj (S : St) (i : Nat) (g : Nat → Nat) : Nat → Nat → Nat
  | 0 => g
  | j + 1 => if hit S i j then inc (tj S i g j) (pos S i j) else tj S i g j
def ti (S : St) : Nat → Nat → Nat
  | 0 => fun _ => 0
  | i + 1 => tj S i (ti S i) S.2.1.1
theorem tj_le (S : St) (i : Nat) (g : Nat → Nat) {B : Nat} (hg : ∀ p, g p ≤ B) : ∀ j p, tj S i g j p ≤ B + j := by
  intro j
  induction j with
  | zero => exact hg
  | succ j ih =>
    intro p
    have := ih p
    simp only [tj]
    split
    · simp only [inc]
      split <;> omega
    · omega
theorem ti_le {S : St} (hr : S.2.1.1 ≤ 10) : ∀ i p, ti S i p ≤ 10 * i := by
  intro i
  induction i with
  | zero => intro p; simp [ti]
  | succ i ih =>
    intro p
    have := tj_le S i (ti S i) ih S.2.1.1 p
    simp only [ti]
    omega
theorem tj_pos (S : St) (i : Nat) (g : Nat → Nat) (p : Nat) : ∀ j, 0 < tj S i g j p ↔ 0 < g p ∨ ∃ j', j' < j ∧ hit S i j' = true ∧ pos S i j' = p := by
  intro j
  induction j with
  | zero => simp [tj]
  | succ j ih =>
    simp only [tj]
    by_cases hh : hit S i j = true
    · rw [if_pos hh]
      simp only [inc]
      by_cases hp : p = pos S i j
      · rw [if_pos hp]
        constructor
        · intro _; exact Or.inr ⟨j, by omega, hh, hp.symm⟩
        · intro _; omega
      · rw [if_neg hp, ih]
        constructor
        · rintro (h1 | ⟨j', h1, h2, h3⟩)
          · exact Or.inl h1
          · exact Or.inr ⟨j', by omega, h2, h3⟩
        · rintro (h1 | ⟨j', h1, h2, h3⟩)
          · exact Or.inl h1
          · by_cases he : j' = j
            · subst he; exact absurd h3.symm hp
            · exact Or.inr ⟨j', by omega, h2, h3⟩
    · rw [if_neg hh, ih]
      constructor
      · rintro (h1 | ⟨j', h1, h2, h3⟩)
        · exact Or.inl h1
        · exact Or.inr ⟨j', by omega, h2, h3⟩
      · rintro (h1 | ⟨j', h1, h2, h3⟩)
        · exact Or.inl h1
        · by_cases he : j' = j
          · subst he; exact absurd h2 hh
          · exact Or.inr ⟨j', by omega, h2, h3⟩
theorem ti_pos (S : St) (p : Nat) : ∀ i, 0 < ti S i p ↔ ∃ i' j', i' < i ∧ j' < S.2.1.1 ∧ hit S i' j' = true ∧ pos S i' j' = p := by
  intro i
  induction i with
  | zero => simp [ti]
  | succ i ih =>
    simp only [ti]
    rw [tj_pos, ih]
    constructor
    · rintro (⟨i', j', h1, h2, h3, h4⟩ | ⟨j', h1, h2, h3⟩)
      · exact ⟨i', j', by omega, h2, h3, h4⟩
      · exact ⟨i, j', by omega, h1, h2, h3⟩
    · rintro ⟨i', j', h1, h2, h3, h4⟩
      by_cases he : i' = i
      · subst he; exact Or.inr ⟨j', h2, h3, h4⟩
      · exact Or.inl ⟨i', j', by omega, h2, h3, h4⟩
theorem ti_ans {S : St} (hS : OKS S) {p : Nat} (hp : p < 100) : decide (0 < ti S S.1.1 p) = ans S p := by
  unfold ans
  rw [decide_eq_decide, ti_pos]
  unfold MC
  rw [fb_ct_pos]
  have t1 := hS.1.2
  have t2 := hS.2.1.2
  constructor
  · rintro ⟨i, j, h1, h2, h3, h4⟩
    simp only [hit, Bool.and_eq_true, beq_iff_eq] at h3
    have r1 := t1 i h1
    have r2 := t2 j h2
    unfold pos at h4
    refine ⟨S.1.2 i % 10, by omega, ?_⟩
    have ea : p / 10 = S.1.2 i / 10 := by omega
    have ec : p % 10 = S.2.1.2 j % 10 := by omega
    simp only [J, rj, Bool.and_eq_true]
    rw [sb0, beq_iff_eq, ea, ec]
    exact ⟨⟨hasN_iff.mpr ⟨i, h1, by omega⟩, hasN_iff.mpr ⟨j, h2, by omega⟩⟩, h3.2⟩
  · rintro ⟨b, hb, h1⟩
    simp only [J, rj, Bool.and_eq_true] at h1
    rw [sb0, beq_iff_eq] at h1
    obtain ⟨⟨h2, h3⟩, h4⟩ := h1
    obtain ⟨i, hi, ei⟩ := hasN_iff.mp h2
    obtain ⟨j, hj, ej⟩ := hasN_iff.mp h3
    refine ⟨i, j, hi, hj, ?_, ?_⟩
    · simp only [hit, Bool.and_eq_true, beq_iff_eq]
      rw [show S.1.2 i / 10 = p / 10 by omega, show S.1.2 i % 10 = b by omega, show S.2.1.2 j % 10 = p % 10 by omega]
      exact ⟨by omega, h4⟩
    · unfold pos
      omega
section
variable {σ : fw_T} {S : St}
theorem CS.tl (hc : CS σ 12 S) (g : Nat → Nat) : CS (tl σ g) 12 S := hc.frame (fun j h1 h2 => tl_ne σ g (by omega))
theorem c_tally_in (hc : CS σ 12 S) (hS : OKS S) {i : Nat} (hi : i < S.1.1) {g : Nat → Nat} (hg : ∀ p, g p ≤ 100) (K : Int32 → fw_T → Option fw_T) : pX3_tallyMatches_51 K 400 (nI i) (nI (S.1.2 i / 10)) (nI (S.1.2 i % 10)) 0 (tl σ g) = K (nI (i + 1)) (tl σ (tj S i g S.2.1.1)) := by
  have hr := hS.2.1.1
  have hl := hS.1.2 i hi
  have hf := hS.2.2.1
  refine lp_all (fun n j => pX3_tallyMatches_51 K n (nI i) (nI (S.1.2 i / 10)) (nI (S.1.2 i % 10)) (nI j) (tl σ (tj S i g j))) (N := S.2.1.1) ?_ ?_ 400 0 (Nat.zero_le _) (by omega)
  · intro n
    rw [pX3_tallyMatches_51, ((hc.tl _).2.1).1, if_pos (by rw [leI (by omega) (by omega)]; omega), nI_1]
  · intro n j hj
    have hc2 := hc.tl (tj S i g j)
    have hrj := hS.2.1.2 j hj
    have hle := rej_lt hf.1 (S.1.2 i / 10) (S.1.2 i % 10) (S.2.1.2 j % 10)
    have hb := tj_le S i g hg j
    rw [pX3_tallyMatches_51, hc2.2.1.1, if_neg (by rw [leI (by omega) (by omega)]; omega), c_secondAt hc2.2.1 hS.2.1 hj, sb2, c_firstAt hc2.2.1 hS.2.1 hj, sb2]
    by_cases h1 : S.2.1.2 j / 10 = S.1.2 i % 10
    · rw [if_pos (by rw [h1]), c_isPair, isVV (by omega) (by omega), sb2, if_neg (by decide), c_rejecters hc2.2.2.1 hf, sb2]
      by_cases h2 : rej S.2.2.1 (S.1.2 i / 10) (S.1.2 i % 10) (S.2.1.2 j % 10) = 0
      · have hh : hit S i j = true := by simp [hit, h1, h2]
        have hp : 10 * (S.1.2 i / 10) + S.2.1.2 j % 10 < 100 := by omega
        rw [if_pos (by rw [h2]; rfl), row10, rdI (by omega) (by omega), sbd, tl_at _ _ hp, wrI (by omega) (by omega), sbd, nI_1, nI_1, tl_inc σ _ hp]
        simp only [tj, if_pos hh]
        rfl
      · have hh : hit S i j = false := by simp [hit, h2]
        rw [if_neg (by rw [nI00 (by omega)]; exact h2), nI_1]
        simp [tj, hh]
    · have hh : hit S i j = false := by simp [hit, h1]
      rw [if_neg (by rw [eqI (by omega) (by omega)]; exact h1), nI_1]
      simp [tj, hh]
theorem c_tally (hc : CS σ 12 S) (hS : OKS S) : pX3_tallyMatches σ = some (tl σ (ti S S.1.1)) := by
  have hl := hS.1.1
  unfold pX3_tallyMatches
  rw [c_fill, sbd]
  refine lp_all (fun n i => pX3_tallyMatches_10 n (nI i) (tl σ (ti S i))) (N := S.1.1) ?_ ?_ 400 0 (Nat.zero_le _) (by omega)
  · intro n
    rw [pX3_tallyMatches_10, ((hc.tl _).1).1, if_pos (by rw [leI (by omega) (by omega)]; omega)]
  · intro n i hi
    have hc2 := hc.tl (ti S i)
    have hb := ti_le hS.2.1.1 i
    rw [pX3_tallyMatches_10, hc2.1.1, if_neg (by rw [leI (by omega) (by omega)]; omega), c_firstAt hc2.1 hS.1 hi, sb2, c_secondAt hc2.1 hS.1 hi, sb2, c_tally_in hc hS hi (fun p => by have := hb p; omega)]
    rfl
theorem c_countAnswers (hc : CS σ 12 S) (hS : OKS S) : pX3_countAnswers σ = some (nI (fb_ct (ans S) 100), tl σ (ti S S.1.1)) := by
  unfold pX3_countAnswers
  rw [c_tally hc hS, sbd]
  refine lp_all (fun n i => pX3_countAnswers_8 n (nI (fb_ct (ans S) i)) (nI i) (tl σ (ti S S.1.1))) (N := 100) ?_ ?_ 400 0 (Nat.zero_le _) (by omega)
  · intro n
    rw [pX3_countAnswers_8, if_pos (by decide)]
  · intro n k hk
    have hb := ti_le hS.2.1.1 S.1.1 k
    have hl := hS.1.1
    have ha := ti_ans hS hk
    rw [pX3_countAnswers_8, if_neg (by rw [show (100 : Int32) = nI 100 from rfl, leI (by omega) (by omega)]; omega), rdI (by omega) (by omega), sbd, tl_at _ _ hk, fb_ct_succ, nI_1, ← ha]
    by_cases hz : ti S S.1.1 k = 0
    · rw [if_pos (by rw [nIle0 (by omega)]; exact hz)]
      simp [hz]
    · rw [if_neg (by rw [nIle0 (by omega)]; exact hz), nI_1]
      simp [show 0 < ti S S.1.1 k by omega]
theorem c_answerAt (hc : CS σ 12 S) (hS : OKS S) {j : Nat} (hj : j < 2 ^ 31) : pX3_answerAt (nI j) σ = some (kth (ans S) j, tl σ (ti S S.1.1)) := by
  unfold pX3_answerAt
  rw [c_tally hc hS, sbd]
  refine lp_up (fun n i => pX3_answerAt_8 n (nI j) (nI (fb_ct (ans S) i)) (nI i) (tl σ (ti S S.1.1))) (fun i => fb_ct (ans S) i ≤ j) (N := 100) ?_ ?_ 400 0 (Nat.zero_le _) (Nat.zero_le _) (by omega)
  · intro n hP
    rw [pX3_answerAt_8, if_pos (by decide), kth_no hP]
  · intro n k hk hP
    have hb := ti_le hS.2.1.1 S.1.1 k
    have hl := hS.1.1
    have hk2 := fb_ct_le (ans S) k
    have ha := ti_ans hS hk
    rw [pX3_answerAt_8, if_neg (by rw [show (100 : Int32) = nI 100 from rfl, leI (by omega) (by omega)]; omega), rdI (by omega) (by omega), sbd, tl_at _ _ hk, fb_ct_succ, nI_1]
    by_cases hz : ti S S.1.1 k = 0
    · right
      have hq : ans S k = false := by rw [← ha]; simp [hz]
      rw [if_pos (by rw [nIle0 (by omega)]; exact hz), hq]
      exact ⟨rfl, hP⟩
    · have hq : ans S k = true := by rw [← ha]; simp; omega
      rw [if_neg (by rw [nIle0 (by omega)]; exact hz), hq]
      by_cases he : fb_ct (ans S) k = j
      · left
        rw [if_pos (by rw [he]), kth_at hk hq he]
      · right
        rw [if_neg (by rw [nI_eq (by omega) (by omega)]; exact he), nI_1, if_pos rfl]
        exact ⟨rfl, by omega⟩
end
