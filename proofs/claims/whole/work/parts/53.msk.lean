/-! ===== sets as masks ===== -/
def mk (p : Nat → Bool) : Nat → Nat
  | 0 => 0
  | n + 1 => mk p n ||| (if p n then 2 ^ n else 0)
theorem mk_bit (p : Nat → Bool) (n i : Nat) : (mk p n).testBit i = (decide (i < n) && p i) := by
  induction n with
  | zero => simp [mk]
  | succ n ih =>
    simp only [mk, Nat.testBit_or, ih]
    by_cases hp : p n
    · rw [if_pos hp, Nat.testBit_two_pow]
      by_cases hi : n = i
      · subst hi; simp [hp]
      · have : decide (i < n) = decide (i < n + 1) := by
          have : i < n ↔ i < n + 1 := by omega
          simp [this]
        simp [hi, this]
    · rw [if_neg hp]
      by_cases hi : n = i
      · subst hi; simp [hp]
      · have : decide (i < n) = decide (i < n + 1) := by
          have : i < n ↔ i < n + 1 := by omega
          simp [this]
        simp [this]
theorem mk_lt (p : Nat → Bool) (n : Nat) : mk p n < 2 ^ n := by
  apply Nat.lt_pow_two_of_testBit
  intro i hi
  rw [mk_bit]
  have : ¬ i < n := by omega
  simp [this]
theorem mk_cong {p q : Nat → Bool} {n : Nat} (h : ∀ i, i < n → p i = q i) : mk p n = mk q n := by
  apply Nat.eq_of_testBit_eq
  intro i
  rw [mk_bit, mk_bit]
  by_cases hi : i < n
  · rw [h i hi]
  · simp [hi]
theorem mk_and (p q : Nat → Bool) (n : Nat) : mk p n &&& mk q n = mk (fun i => p i && q i) n := by
  apply Nat.eq_of_testBit_eq
  intro i
  rw [Nat.testBit_and, mk_bit, mk_bit, mk_bit]
  by_cases hi : i < n <;> simp [hi]
theorem mk_zero {p : Nat → Bool} {n : Nat} : mk p n = 0 ↔ ∀ i, i < n → p i = false := by
  constructor
  · intro h i hi
    have := mk_bit p n i
    rw [h, Nat.zero_testBit] at this
    simpa [hi] using this.symm
  · intro h
    apply Nat.eq_of_testBit_eq
    intro i
    rw [mk_bit, Nat.zero_testBit]
    by_cases hi : i < n
    · simp [h i hi]
    · simp [hi]
theorem mk_of {m n : Nat} (h : m < 2 ^ n) : mk (fun i => m.testBit i) n = m := by
  apply Nat.eq_of_testBit_eq
  intro i
  rw [mk_bit]
  by_cases hi : i < n
  · simp [hi]
  · simp [hi]
    have : 2 ^ n ≤ 2 ^ i := Nat.pow_le_pow_right (by decide) (by omega)
    rw [Nat.testBit_lt_two_pow (by omega)]
theorem orI (p : Nat → Bool) {n : Nat} (hn : n < 31) : (if p n = true then nI (mk p n) ||| (1 : Int32) <<< (nI n &&& 31) else nI (mk p n)) = nI (mk p (n + 1)) := by
  rw [shI n hn]
  simp only [mk]
  cases p n with
  | true => simp [fa_or]
  | false => simp
theorem isIn0 {m b : Nat} (hb : b < 31) : (nI m &&& (1 : Int32) <<< (nI b &&& 31)) = 0 ↔ m.testBit b = false := by
  rw [shI b hb, fa_bit hb]
theorem c_isIn {p : Nat → Bool} {b : Nat} (hb : b < 10) (σ : fw_T) : pX7_isIn (nI (mk p 10)) (nI b) σ = some (bI (p b), σ) := by
  unfold pX7_isIn
  have e := mk_bit p 10 b
  simp only [hb, decide_true, Bool.true_and] at e
  by_cases hc : p b = false
  · rw [if_pos (by rw [isIn0 (by omega), e, hc]), hc]; rfl
  · have hc' : p b = true := by simpa using hc
    rw [if_neg (by rw [isIn0 (by omega), e, hc']; decide), hc']; rfl
theorem shr1 : ∀ w, w < 64 → ∀ f, f < 6 → ((nI w >>> (nI f &&& 31)) &&& (1 : Int32) = 1 ↔ w.testBit f = true) := by decide +kernel
theorem shr1b : ∀ w, w < 1024 → ∀ f, f < 10 → ((nI w >>> (nI f &&& 31)) &&& (1 : Int32) = 1 ↔ w.testBit f = true) := by decide +kernel
theorem shr01 : ∀ w, w < 64 → ∀ f, f < 6 → (nI w >>> (nI f &&& 31)) &&& (1 : Int32) = nI (if w.testBit f then 1 else 0) := by decide +kernel
/-- m within w -/
def sb (m w : Nat) : Bool := m &&& w == m
theorem sb_iff {m w n : Nat} (hm : m < 2 ^ n) : sb m w = true ↔ ∀ i, i < n → m.testBit i = true → w.testBit i = true := by
  unfold sb
  rw [beq_iff_eq]
  constructor
  · intro h i _ hi
    rw [← h, Nat.testBit_and] at hi
    simp only [Bool.and_eq_true] at hi
    exact hi.2
  · intro h
    apply Nat.eq_of_testBit_eq
    intro i
    rw [Nat.testBit_and]
    by_cases hi : i < n
    · cases hc : m.testBit i with
      | false => rfl
      | true => rw [h i hi hc]; rfl
    · have : 2 ^ n ≤ 2 ^ i := Nat.pow_le_pow_right (by decide) (by omega)
      rw [Nat.testBit_lt_two_pow (by omega)]
      rfl
set_option maxRecDepth 100000 in
theorem notI : ∀ m, m < 64 → ∀ w, w < 64 → (nI m &&& (nI w ^^^ (-1 : Int32)) = 0 ↔ sb m w = true) := by decide +kernel
def allN (p : Nat → Bool) : Nat → Bool
  | 0 => true
  | n + 1 => allN p n && p n
theorem allN_iff {p : Nat → Bool} {n : Nat} : allN p n = true ↔ ∀ i, i < n → p i = true := by
  induction n with
  | zero => simp [allN]
  | succ n ih =>
    simp only [allN, Bool.and_eq_true, ih]
    constructor
    · rintro ⟨h1, h2⟩ i hi
      by_cases he : i = n
      · subst he; exact h2
      · exact h1 i (by omega)
    · intro h
      exact ⟨fun i hi => h i (by omega), h n (by omega)⟩
/-- the filters against a, b, c -/
def rej (f : Ft) (a b c : Nat) : Nat := mk (fun i => !e_acc (f.2 i) a b c) f.1
theorem rej_lt {f : Ft} (hs : f.1 ≤ 6) (a b c : Nat) : rej f a b c < 64 := Nat.lt_of_lt_of_le (mk_lt _ _) (Nat.pow_le_pow_right (by decide) hs)
section
variable {σ τ : fw_T} {h : Nat} {f : Ft} {t : Tb}
theorem c_rejecters (hf : FC σ h f) (hk : FOK f) (a b c : Nat) : pX0_rejecters h (nI a) (nI b) (nI c) σ = some (nI (rej f a b c), σ) := by
  have hs := hk.1
  unfold pX0_rejecters
  refine lp_all (fun n i => pX0_rejecters_6 h n (nI a) (nI b) (nI c) (nI (mk (fun i => !e_acc (f.2 i) a b c) i)) (nI i) σ) (N := f.1) ?_ ?_ 400 0 (Nat.zero_le _) (by omega)
  · intro n
    rw [pX0_rejecters_6, hf.1, if_pos (by rw [leI (by omega) (by omega)]; omega)]
    rfl
  · intro n i hi
    rw [pX0_rejecters_6, hf.1, if_neg (by rw [leI (by omega) (by omega)]; omega), if_neg (by rw [show (6 : Int32) = nI 6 from rfl, leI (by omega) (by omega)]; omega), c_accepts hf hk hi, sb2, ifb, nI_1, ← orI _ (show i < 31 by omega)]
    cases e_acc (f.2 i) a b c <;> rfl
def som (t : Tb) (a : Nat) : Nat → Nat
  | 0 => 0
  | n + 1 => som t a n ||| (if t.2 n / 10 = a then 2 ^ (t.2 n % 10) else 0)
theorem som_bit (t : Tb) (a : Nat) : ∀ (n i : Nat), (som t a n).testBit i = (decide (i < 10) && hasN t.2 (10 * a + i) n) := by
  intro n i
  induction n with
  | zero => simp [som, hasN]
  | succ n ih =>
    simp only [som, Nat.testBit_or, ih, hasN]
    by_cases hc : t.2 n / 10 = a
    · rw [if_pos hc, Nat.testBit_two_pow]
      by_cases hi : t.2 n % 10 = i
      · have h1 : t.2 n = 10 * a + i := by omega
        have h2 : i < 10 := by omega
        simp [hi, h1, h2]
      · have h1 : (t.2 n == 10 * a + i) = false ∨ ¬ i < 10 := by
          rw [beq_eq_false_iff_ne]
          omega
        rcases h1 with h1 | h1 <;> simp [hi, h1]
    · rw [if_neg hc]
      have h1 : (t.2 n == 10 * a + i) = false ∨ ¬ i < 10 := by
        rw [beq_eq_false_iff_ne]
        omega
      rcases h1 with h1 | h1 <;> simp [h1]
def fom (t : Tb) (c : Nat) : Nat → Nat
  | 0 => 0
  | n + 1 => fom t c n ||| (if t.2 n % 10 = c then 2 ^ (t.2 n / 10) else 0)
theorem fom_bit (t : Tb) {c : Nat} (hc10 : c < 10) : ∀ (n i : Nat), (fom t c n).testBit i = hasN t.2 (10 * i + c) n := by
  intro n i
  induction n with
  | zero => simp [fom, hasN]
  | succ n ih =>
    simp only [fom, Nat.testBit_or, ih, hasN]
    by_cases hc : t.2 n % 10 = c
    · rw [if_pos hc, Nat.testBit_two_pow]
      by_cases hi : t.2 n / 10 = i
      · have h1 : (t.2 n == 10 * i + c) = true := by
          rw [beq_iff_eq]
          omega
        simp [hi, h1]
      · have h1 : ¬ t.2 n = 10 * i + c := by omega
        simp [hi, h1]
    · rw [if_neg hc]
      have h1 : ¬ t.2 n = 10 * i + c := by omega
      simp [h1]
theorem c_secondsOf (hp : PC σ h t) (ht : TOK 10 t) {a : Nat} (ha : a < 10) : pX2_secondsOf h (nI a) σ = some (nI (mk (fun b => t_in t (10 * a + b)) 10), σ) := by
  have hs := ht.1
  have e : som t a t.1 = mk (fun b => t_in t (10 * a + b)) 10 := Nat.eq_of_testBit_eq fun i => by rw [som_bit, mk_bit]; rfl
  rw [← e]
  unfold pX2_secondsOf
  refine lp_all (fun n i => pX2_secondsOf_4 h n (nI a) (nI (som t a i)) (nI i) σ) (N := t.1) ?_ ?_ 400 0 (Nat.zero_le _) (by omega)
  · intro n
    rw [pX2_secondsOf_4, hp.1, if_pos (by rw [leI (by omega) (by omega)]; omega)]
  · intro n i hi
    have hr := ht.2 i hi
    rw [pX2_secondsOf_4, hp.1, if_neg (by rw [leI (by omega) (by omega)]; omega), c_firstAt hp ht hi, sb2, nI_1]
    by_cases hc : t.2 i / 10 = a
    · rw [if_pos (by rw [hc]), c_secondAt hp ht hi, sb2, shI _ (by omega), fa_or]
      simp only [som, if_pos hc]
    · rw [if_neg (by rw [eqI (by omega) (by omega)]; exact hc)]
      simp only [som, if_neg hc, Nat.or_zero]
theorem c_firstsOf (hp : PC σ h t) (ht : TOK 10 t) {c : Nat} (hc10 : c < 10) : pX2_firstsOf h (nI c) σ = some (nI (mk (fun b => t_in t (10 * b + c)) 10), σ) := by
  have hs := ht.1
  have e : fom t c t.1 = mk (fun b => t_in t (10 * b + c)) 10 := Nat.eq_of_testBit_eq fun i => by
    rw [fom_bit t hc10, mk_bit]
    by_cases hi : i < 10
    · simp [hi, t_in]
    · simp only [hi, decide_false, Bool.false_and]
      rw [hasN_no]
      intro j hj
      have := ht.2 j hj
      omega
  rw [← e]
  unfold pX2_firstsOf
  refine lp_all (fun n i => pX2_firstsOf_4 h n (nI c) (nI (fom t c i)) (nI i) σ) (N := t.1) ?_ ?_ 400 0 (Nat.zero_le _) (by omega)
  · intro n
    rw [pX2_firstsOf_4, hp.1, if_pos (by rw [leI (by omega) (by omega)]; omega)]
  · intro n i hi
    have hr := ht.2 i hi
    rw [pX2_firstsOf_4, hp.1, if_neg (by rw [leI (by omega) (by omega)]; omega), c_secondAt hp ht hi, sb2, nI_1]
    by_cases hc : t.2 i % 10 = c
    · rw [if_pos (by rw [hc]), c_firstAt hp ht hi, sb2, shI _ (by omega), fa_or]
      simp only [fom, if_pos hc]
    · rw [if_neg (by rw [eqI (by omega) (by omega)]; exact hc)]
      simp only [fom, if_neg hc, Nat.or_zero]
theorem m_passes (hf : FM τ 1 22 f) (hk : FOK f) {st w : Nat} (hst : st ≤ 2) (hw : w < 64) (a b c : Nat) : pX8_passes (nI st) (nI w) (nI a) (nI b) (nI c) τ = some (bI (allN (fun i => decide ((f.2 i).1 ≠ st) || w.testBit i || e_acc (f.2 i) a b c) f.1), τ) := by
  have hs := hk.1
  unfold pX8_passes
  refine lp_all (fun n i => pX8_passes_6 n (nI st) (nI w) (nI a) (nI b) (nI c) (bI (allN (fun i => decide ((f.2 i).1 ≠ st) || w.testBit i || e_acc (f.2 i) a b c) i)) (nI i) τ) (N := f.1) ?_ ?_ 400 0 (Nat.zero_le _) (by omega)
  · intro n
    rw [pX8_passes_6, show (22 : Int32) = nI 22 from rfl, rdI (by omega) (by omega), sbd, hf.1, if_pos (by rw [leI (by omega) (by omega)]; omega), rzb]
  · intro n i hi
    obtain ⟨e1, e2, e3, e4⟩ := hf.2 i hi
    have he := hk.2 i hi
    have h1 := he.1
    rw [pX8_passes_6, show (22 : Int32) = nI 22 from rfl, rdI (by omega) (by omega), sbd, hf.1, if_neg (by rw [leI (by omega) (by omega)]; omega), ifb]
    simp only [allN]
    cases hall : allN (fun i => decide ((f.2 i).1 ≠ st) || w.testBit i || e_acc (f.2 i) a b c) i with
    | false =>
      rw [if_neg (by decide), nI_1]
      rfl
    | true =>
      rw [if_pos rfl, show (0 : Int32) = nI 0 from rfl, m_of (by omega) (by omega), sb2, show 23 + 4 * i + 0 = 22 + 1 + 4 * i by omega, e1]
      by_cases hq : (f.2 i).1 = st
      · rw [if_pos (by rw [hq])]
        by_cases hb : w.testBit i = true
        · rw [if_pos ((shr1 w hw i (by omega)).mpr hb), nI_1]
          simp [hb, bI]
        · rw [if_neg (fun hc => hb ((shr1 w hw i (by omega)).mp hc)), m_accepts hf hk hi, sb2, show nI 0 = (0 : Int32) from rfl, ifb, nI_1]
          have hb' : w.testBit i = false := by simpa using hb
          cases e_acc (f.2 i) a b c <;> simp [hq, hb', bI]
      · rw [if_neg (by rw [eqI (by omega) (by omega)]; exact hq), nI_1]
        simp [hq, bI]
theorem m_passesAll (hf : FM τ 1 22 f) (hk : FOK f) {w : Nat} (hw : w < 64) (a b c : Nat) : pX8_passesAll (nI w) (nI a) (nI b) (nI c) τ = some (bI (sb (rej f a b c) w), τ) := by
  have hs := hk.1
  have key : sb (rej f a b c) w = (allN (fun i => decide ((f.2 i).1 ≠ 0) || w.testBit i || e_acc (f.2 i) a b c) f.1 && allN (fun i => decide ((f.2 i).1 ≠ 1) || w.testBit i || e_acc (f.2 i) a b c) f.1 && allN (fun i => decide ((f.2 i).1 ≠ 2) || w.testBit i || e_acc (f.2 i) a b c) f.1) := by
    rw [Bool.eq_iff_iff, sb_iff (n := 6) (rej_lt hs a b c), Bool.and_eq_true, Bool.and_eq_true, allN_iff, allN_iff, allN_iff]
    unfold rej
    constructor
    · intro hh
      have h3 : ∀ i, i < f.1 → w.testBit i = true ∨ e_acc (f.2 i) a b c = true := by
        intro i hi
        cases hc : e_acc (f.2 i) a b c with
        | true => exact Or.inr rfl
        | false => exact Or.inl (hh i (by omega) (by rw [mk_bit]; simp [hi, hc]))
      refine ⟨⟨?_, ?_⟩, ?_⟩ <;> (intro i hi; rcases h3 i hi with h4 | h4 <;> simp [h4])
    · rintro ⟨⟨h0, h1⟩, h2⟩ i _ hi
      rw [mk_bit] at hi
      simp only [Bool.and_eq_true, decide_eq_true_eq, Bool.not_eq_true'] at hi
      obtain ⟨hi, hc⟩ := hi
      have he := (hk.2 i hi).1
      have a0 := h0 i hi
      have a1 := h1 i hi
      have a2 := h2 i hi
      simp only [Bool.or_eq_true, decide_eq_true_eq, hc, Bool.false_eq_true, or_false] at a0 a1 a2
      rcases a0 with a0 | a0
      · rcases a1 with a1 | a1
        · rcases a2 with a2 | a2
          · omega
          · exact a2
        · exact a1
      · exact a0
  rw [key]
  unfold pX8_passesAll
  rw [show (0 : Int32) = nI 0 from rfl, show (1 : Int32) = nI 1 from rfl, show (2 : Int32) = nI 2 from rfl, m_passes hf hk (by omega) hw, sb2, show nI 0 = (0 : Int32) from rfl, ifb]
  cases allN (fun i => decide ((f.2 i).1 ≠ 0) || w.testBit i || e_acc (f.2 i) a b c) f.1 with
  | false => rfl
  | true =>
    rw [if_pos rfl, m_passes hf hk (by omega) hw, sb2, ifb]
    cases allN (fun i => decide ((f.2 i).1 ≠ 1) || w.testBit i || e_acc (f.2 i) a b c) f.1 with
    | false => rfl
    | true =>
      rw [if_pos rfl, m_passes hf hk (by omega) hw, sb2, ifb]
      cases allN (fun i => decide ((f.2 i).1 ≠ 2) || w.testBit i || e_acc (f.2 i) a b c) f.1 <;> rfl
end
