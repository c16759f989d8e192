/-! ===== numbers, and how a mirror is computed ===== -/
def bI (b : Bool) : Int32 := if b then 1 else 0
theorem sb2 {α β : Type} (v : α) (σ : fw_T) (k : α → fw_T → Option β) : fw_b2 (some (v, σ)) k = k v σ := rfl
theorem sbd {α β : Type} (v : α) (k : α → Option β) : (some v).bind k = k v := rfl
theorem rzb (b : Bool) (σ : fw_T) : fw_rz (bI b) σ = some (bI b, σ) := by cases b <;> rfl
theorem rz0 (σ : fw_T) : fw_rz 0 σ = some (0, σ) := rfl
theorem rz1 (σ : fw_T) : fw_rz 1 σ = some (1, σ) := rfl
theorem bI0 {b : Bool} : bI b = 0 ↔ b = false := by cases b <;> decide
theorem bIf : bI false = 0 := rfl
theorem bIt : bI true = 1 := rfl
theorem ifb {α : Type} (b : Bool) (x y : α) : (if bI b = 0 then x else y) = if b = true then y else x := by cases b <;> rfl
theorem rdI {σ : fw_T} {id n i : Nat} (h : i < n) (hn : n < 1000) : fw_rd σ id n (nI i) = some (fw_g σ id i) := by
  have h1 : (nI i).toNatClampNeg = i := nI_clamp (by omega)
  have h2 : ¬ (nI i < 0 ∨ n ≤ (nI i).toNatClampNeg) := nI_in h (by omega)
  unfold fw_rd
  rw [if_neg h2, h1]
theorem wrI {σ : fw_T} {id n i : Nat} {x : Int32} (h : i < n) (hn : n < 1000) : fw_wr σ id n (nI i) x = some (fw_u σ id i x) := by
  have h1 : (nI i).toNatClampNeg = i := nI_clamp (by omega)
  have h2 : ¬ (nI i < 0 ∨ n ≤ (nI i).toNatClampNeg) := nI_in h (by omega)
  unfold fw_wr
  rw [if_neg h2, h1]
theorem ixI {n i : Nat} (h : i < n) (hn : n < 1000) : fw_ix (nI i) n = some i := by
  have h1 : (nI i).toNatClampNeg = i := nI_clamp (by omega)
  have h2 : ¬ (nI i < 0 ∨ n ≤ (nI i).toNatClampNeg) := nI_in h (by omega)
  unfold fw_ix
  rw [if_neg h2, h1]
theorem leI {a b : Nat} (ha : a < 100000) (hb : b < 100000) : nI a ≤ nI b ↔ a ≤ b := nI_leI (by omega) (by omega)
theorem ltI {a b : Nat} (ha : a < 100000) (hb : b < 100000) : nI a < nI b ↔ a < b := nI_ltI (by omega) (by omega)
theorem eqI {a b : Nat} (ha : a < 100000) (hb : b < 100000) : nI a = nI b ↔ a = b := nI_eq (by omega) (by omega)
theorem mulI (a b : Nat) : nI a * nI b = nI (a * b) := (Int32.ofNat_mul a b).symm
theorem subI {a b : Nat} (h : b ≤ a) : nI a - nI b = nI (a - b) := by
  obtain ⟨k, rfl⟩ : ∃ k, a = k + b := ⟨a - b, by omega⟩
  rw [← nI_add, Nat.add_sub_cancel]
  exact Int32.add_sub_cancel _ _
theorem div10 : ∀ r, r < 100 → nI r / (10 : Int32) = nI (r / 10) := by decide +kernel
theorem mod10 : ∀ r, r < 100 → nI r - nI r / (10 : Int32) * (10 : Int32) = nI (r % 10) := by decide +kernel
theorem shI : ∀ f, f < 31 → (1 : Int32) <<< (nI f &&& 31) = nI (2 ^ f) := by decide +kernel
theorem row10 (a b : Nat) : (10 : Int32) * nI a + nI b = nI (10 * a + b) := by rw [show (10 : Int32) = nI 10 from rfl, mulI, nI_add]
/-- a loop upward: L fuel i -/
theorem lp_up {R : Type} (L : Nat → Nat → Option R) (P : Nat → Prop) {N : Nat} {fin : Option R} (hend : ∀ n, P N → L (n + 1) N = fin) (hstep : ∀ n i, i < N → P i → L (n + 1) i = fin ∨ (L (n + 1) i = L n (i + 1) ∧ P (i + 1))) : ∀ n i, i ≤ N → P i → N - i < n → L n i = fin := by
  intro n
  induction n with
  | zero => intro i _ _ h; omega
  | succ n ih =>
    intro i hi hP hn
    by_cases h : i = N
    · subst h
      exact hend n hP
    · rcases hstep n i (by omega) hP with e | ⟨e, hP'⟩
      · exact e
      · rw [e]
        exact ih (i + 1) (by omega) hP' (by omega)
/-- the same without an early end -/
theorem lp_all {R : Type} (L : Nat → Nat → Option R) {N : Nat} {fin : Option R} (hend : ∀ n, L (n + 1) N = fin) (hstep : ∀ n i, i < N → L (n + 1) i = L n (i + 1)) : ∀ n i, i ≤ N → N - i < n → L n i = fin :=
  fun n i hi hn => lp_up L (fun _ => True) (fun n _ => hend n) (fun n i hi _ => Or.inr ⟨hstep n i hi, trivial⟩) n i hi trivial hn
/-- digits -/
def isV (x : Int32) : Bool := decide (0 ≤ x) && decide (x < 10)
theorem isV_nI {a : Nat} (h : a < 10) : isV (nI a) = true := by
  have : ∀ a, a < 10 → isV (nI a) = true := by decide +kernel
  exact this a h
theorem isV_of {x : Int32} (h : isV x = true) : ∃ a, a < 10 ∧ x = nI a := by
  simp only [isV, Bool.and_eq_true, decide_eq_true_eq] at h
  obtain ⟨j, hj, rfl⟩ := nI_of (x := x) (fun hc => by
    have h1 := Int32.le_iff_toInt_le.mp h.1
    have h2 := Int32.lt_iff_toInt_lt.mp hc
    omega)
  have h2 := h.2
  rw [show (10 : Int32) = nI 10 from rfl, nI_ltI hj (by decide)] at h2
  exact ⟨j, h2, rfl⟩
theorem nlt {x y : Int32} : ¬ x < y ↔ y ≤ x := by rw [Int32.lt_iff_toInt_lt, Int32.le_iff_toInt_le]; omega
theorem nle {x y : Int32} : ¬ x ≤ y ↔ y < x := by rw [Int32.lt_iff_toInt_lt, Int32.le_iff_toInt_le]; omega
theorem c_isValue (x : Int32) (σ : fw_T) : pX7_isValue x σ = some (bI (isV x), σ) := by
  unfold pX7_isValue isV
  by_cases h1 : x < 0
  · have : ¬ (0 : Int32) ≤ x := nle.mpr h1
    simp [h1, this, rz0, bI]
  · have h1' := nlt.mp h1
    by_cases h2 : (10 : Int32) ≤ x
    · have : ¬ x < 10 := nlt.mpr h2
      simp [h1, h2, this, rz0, bI]
    · have := nle.mp h2
      simp [h1, h1', h2, this, rz1, bI]
theorem c_isPair (x y : Int32) (σ : fw_T) : pX7_isPair x y σ = some (bI (isV x && isV y), σ) := by
  unfold pX7_isPair
  rw [c_isValue, sb2, ifb]
  cases isV x with
  | false => rfl
  | true =>
    rw [if_pos rfl, c_isValue, sb2, ifb]
    cases isV y <;> rfl
theorem m_in (x lo hi : Int32) (σ : fw_T) : pX8_in x lo hi σ = some (bI (decide (lo ≤ x) && decide (x ≤ hi)), σ) := by
  unfold pX8_in
  by_cases h1 : x < lo
  · have : ¬ lo ≤ x := nle.mpr h1
    simp [h1, this, rz0, bI]
  · have h1' := nlt.mp h1
    by_cases h2 : hi < x
    · have : ¬ x ≤ hi := nle.mpr h2
      simp [h1, h2, this, rz0, bI]
    · have := nlt.mp h2
      simp [h1, h1', h2, this, rz1, bI]
theorem le9 (x : Int32) : decide (x ≤ 9) = decide (x < 10) := by
  have : x ≤ 9 ↔ x < 10 := by
    rw [Int32.lt_iff_toInt_lt, Int32.le_iff_toInt_le, show (9 : Int32).toInt = 9 from by decide, show (10 : Int32).toInt = 10 from by decide]
    omega
  simp [this]
theorem m_in9 (x : Int32) (σ : fw_T) : pX8_in x 0 9 σ = some (bI (isV x), σ) := by rw [m_in, le9]; rfl
theorem m_isDigitPair (x y : Int32) (σ : fw_T) : pX8_isDigitPair x y σ = some (bI (isV x && isV y), σ) := by
  unfold pX8_isDigitPair
  rw [m_in9, sb2, ifb]
  cases isV x with
  | false => rfl
  | true =>
    rw [if_pos rfl, m_in9, sb2, ifb]
    cases isV y <;> rfl
