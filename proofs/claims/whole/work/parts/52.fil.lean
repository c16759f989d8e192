/-! ===== filters ===== -/
abbrev Fe : Type := Nat × Nat × Nat × Int32
abbrev Ft : Type := Nat × (Nat → Fe)
def FC (σ : fw_T) (h : Nat) (f : Ft) : Prop := fw_g σ h 4 = nI f.1 ∧ ∀ i, i < f.1 → fw_g σ (h + 1) i = nI (f.2 i).1 ∧ fw_g σ (h + 2) i = nI (f.2 i).2.1 ∧ fw_g σ (h + 3) i = nI (f.2 i).2.2.1 ∧ fw_g σ (h + 4) i = (f.2 i).2.2.2
def FM (τ : fw_T) (a k : Nat) (f : Ft) : Prop := fw_g τ a k = nI f.1 ∧ ∀ i, i < f.1 → fw_g τ a (k + 1 + 4 * i) = nI (f.2 i).1 ∧ fw_g τ a (k + 1 + 4 * i + 1) = nI (f.2 i).2.1 ∧ fw_g τ a (k + 1 + 4 * i + 2) = nI (f.2 i).2.2.1 ∧ fw_g τ a (k + 1 + 4 * i + 3) = (f.2 i).2.2.2
def kOK (s : Nat) (k : Int32) : Bool := if s = 2 then decide ((-9 : Int32) ≤ k) && decide (k ≤ 18) else isV k
def eOK (e : Fe) : Prop := e.1 ≤ 2 ∧ (if e.1 = 2 then e.2.1 ≤ 2 else e.2.1 ≤ 1) ∧ e.2.2.1 ≤ 3 ∧ kOK e.1 e.2.2.2 = true
def FOK (f : Ft) : Prop := f.1 ≤ 6 ∧ ∀ i, i < f.1 → eOK (f.2 i)
def e_col (e : Fe) (a b c : Nat) : Int32 := if e.1 = 0 then (if e.2.1 = 0 then nI a else nI b) else if e.1 = 1 then (if e.2.1 = 0 then nI b else nI c) else if e.2.1 = 0 then nI a - nI c else if e.2.1 = 1 then nI a + nI c else nI b
def e_cmp (x : Int32) (o : Nat) (k : Int32) : Bool := if o = 0 then decide (x ≤ k) else if o = 1 then decide (k ≤ x) else if o = 2 then decide (x = k) else decide (x ≠ k)
def e_acc (e : Fe) (a b c : Nat) : Bool := e_cmp (e_col e a b c) e.2.2.1 e.2.2.2
def e_set (e : Fe) (k : Int32) : Fe := (e.1, e.2.1, e.2.2.1, k)
theorem FC.cong {σ σ' : fw_T} {h : Nat} {f : Ft} (hf : FC σ h f) (h0 : fw_g σ' h 4 = fw_g σ h 4) (h1 : fw_g σ' (h + 1) = fw_g σ (h + 1)) (h2 : fw_g σ' (h + 2) = fw_g σ (h + 2)) (h3 : fw_g σ' (h + 3) = fw_g σ (h + 3)) (h4 : fw_g σ' (h + 4) = fw_g σ (h + 4)) : FC σ' h f := ⟨h0.trans hf.1, fun i hi => by rw [h1, h2, h3, h4]; exact hf.2 i hi⟩
theorem FM.cong {τ τ' : fw_T} {a a' k k' : Nat} {f : Ft} (hf : FM τ a k f) (h0 : fw_g τ' a' k' = fw_g τ a k) (h : ∀ j, j < 4 * f.1 → fw_g τ' a' (k' + 1 + j) = fw_g τ a (k + 1 + j)) : FM τ' a' k' f := ⟨h0.trans hf.1, fun i hi => by
  obtain ⟨e1, e2, e3, e4⟩ := hf.2 i hi
  exact ⟨(h (4 * i) (by omega)).trans e1, by rw [Nat.add_assoc, h (4 * i + 1) (by omega), ← Nat.add_assoc]; exact e2, by rw [Nat.add_assoc, h (4 * i + 2) (by omega), ← Nat.add_assoc]; exact e3, by rw [Nat.add_assoc, h (4 * i + 3) (by omega), ← Nat.add_assoc]; exact e4⟩⟩
section
variable {σ τ : fw_T} {h : Nat} {f : Ft}
theorem c_fholds (hf : FC σ h f) (hs : f.1 ≤ 6) {i : Nat} (hi : i < f.1) : pX0_holds h (nI i) σ = some (1, σ) := by
  unfold pX0_holds
  rw [if_neg (nI_pos (by omega)), hf.1, if_neg (by rw [leI (by omega) (by omega)]; omega), if_neg (by rw [show (6 : Int32) = nI 6 from rfl, leI (by omega) (by omega)]; omega), rz1]
theorem c_fholds_bad (hf : FC σ h f) (hs : f.1 ≤ 6) {x : Int32} (hx : ∀ i, i < f.1 → x ≠ nI i) : pX0_holds h x σ = some (0, σ) := by
  unfold pX0_holds
  by_cases h1 : x < 0
  · rw [if_pos h1, rz0]
  · obtain ⟨j, hj, rfl⟩ := nI_of h1
    rw [if_neg h1, hf.1, if_pos, rz0]
    rw [nI_leI (by omega) hj]
    rcases Nat.lt_or_ge j f.1 with hc | hc
    · exact absurd rfl (hx j hc)
    · exact hc
theorem m_in_idx {n : Nat} (hn : n ≤ 10) (x : Int32) (σ : fw_T) : pX8_in x 0 (nI n - 1) σ = some (bI (decide (∃ i, i < n ∧ x = nI i)), σ) := by
  rw [m_in]
  congr 2
  congr 1
  have e : (nI n - 1).toInt = (n : Int) - 1 := by
    have : ∀ n, n ≤ 10 → (nI n - 1).toInt = (n : Int) - 1 := by decide +kernel
    exact this n hn
  rw [Bool.eq_iff_iff]
  simp only [Bool.and_eq_true, decide_eq_true_eq]
  rw [Int32.le_iff_toInt_le, Int32.le_iff_toInt_le, e, Int32.toInt_zero]
  constructor
  · rintro ⟨h1, h2⟩
    obtain ⟨j, hj, rfl⟩ := nI_of (x := x) (fun hc => by
      have := Int32.lt_iff_toInt_lt.mp hc
      rw [Int32.toInt_zero] at this
      omega)
    rw [nI_toInt hj] at h2
    exact ⟨j, by omega, rfl⟩
  · rintro ⟨i, hi, rfl⟩
    rw [nI_toInt (by omega)]
    omega
theorem m_isFilter (hf : fw_g τ 1 22 = nI f.1) (hs : f.1 ≤ 6) (x : Int32) : pX8_isFilter x τ = some (bI (decide (∃ i, i < f.1 ∧ x = nI i)), τ) := by
  unfold pX8_isFilter
  rw [show (22 : Int32) = nI 22 from rfl, rdI (by omega) (by omega), sbd, hf, m_in_idx (by omega), sb2, rzb]
theorem c_compare (x : Int32) {o : Nat} (ho : o ≤ 3) (k : Int32) : pX0_compare x (nI o) k σ = some (bI (e_cmp x o k), σ) := by
  unfold pX0_compare e_cmp
  rcases (show o = 0 ∨ o = 1 ∨ o = 2 ∨ o = 3 by omega) with rfl | rfl | rfl | rfl
  · by_cases hc : k < x
    · have : ¬ x ≤ k := nle.mpr hc
      simp [show nI 0 = (0 : Int32) from rfl, hc, this, bI, rz0]
    · have := nlt.mp hc
      simp [show nI 0 = (0 : Int32) from rfl, hc, this, bI, rz1]
  · by_cases hc : x < k
    · have : ¬ k ≤ x := nle.mpr hc
      simp [show nI 1 = (1 : Int32) from rfl, hc, this, bI, rz0]
    · have := nlt.mp hc
      simp [show nI 1 = (1 : Int32) from rfl, hc, this, bI, rz1]
  · by_cases hc : x = k <;> simp [show nI 2 = (2 : Int32) from rfl, hc, bI, rz0, rz1]
  · by_cases hc : x = k <;> simp [show nI 3 = (3 : Int32) from rfl, hc, bI, rz0, rz1]
theorem m_holds (x : Int32) {o : Nat} (ho : o ≤ 3) (k : Int32) : pX8_holds x (nI o) k τ = some (bI (e_cmp x o k), τ) := c_compare x ho k
theorem c_columnValue {e : Fe} (he : eOK e) (a b c : Nat) : pX0_columnValue (nI e.1) (nI e.2.1) (nI a) (nI b) (nI c) σ = some (e_col e a b c, σ) := by
  obtain ⟨k1, k2, k3, k4⟩ := he
  unfold pX0_columnValue e_col
  rcases (show e.1 = 0 ∨ e.1 = 1 ∨ e.1 = 2 by omega) with hz | hz | hz <;> rw [hz] at k2 ⊢
  · rcases (show e.2.1 = 0 ∨ e.2.1 = 1 by simp at k2; omega) with hy | hy <;> rw [hy] <;> rfl
  · rcases (show e.2.1 = 0 ∨ e.2.1 = 1 by simp at k2; omega) with hy | hy <;> rw [hy] <;> rfl
  · rcases (show e.2.1 = 0 ∨ e.2.1 = 1 ∨ e.2.1 = 2 by simp at k2; omega) with hy | hy | hy <;> rw [hy] <;> rfl
theorem c_accepts (hf : FC σ h f) (hk : FOK f) {i : Nat} (hi : i < f.1) (a b c : Nat) : pX0_accepts h (nI i) (nI a) (nI b) (nI c) σ = some (bI (e_acc (f.2 i) a b c), σ) := by
  have hs := hk.1
  obtain ⟨e1, e2, e3, e4⟩ := hf.2 i hi
  have k3 := (hk.2 i hi).2.2.1
  unfold pX0_accepts
  rw [c_fholds hf hs hi, sb2, if_neg (by decide), rdI (by omega) (by omega), sbd, rdI (by omega) (by omega), sbd, e1, e2, c_columnValue (hk.2 i hi), sb2, rdI (by omega) (by omega), sbd, rdI (by omega) (by omega), sbd, e3, e4, c_compare _ k3, sb2, ifb]
  unfold e_acc
  cases e_cmp (e_col (f.2 i) a b c) (f.2 i).2.2.1 (f.2 i).2.2.2 <;> rfl
theorem c_acceptsWith (hf : FC σ h f) (hk : FOK f) {i : Nat} (hi : i < f.1) (k : Int32) (a b c : Nat) : pX0_acceptsWith h k (nI i) (nI a) (nI b) (nI c) σ = some (bI (e_acc (e_set (f.2 i) k) a b c), σ) := by
  have hs := hk.1
  obtain ⟨e1, e2, e3, e4⟩ := hf.2 i hi
  have k3 := (hk.2 i hi).2.2.1
  unfold pX0_acceptsWith
  rw [c_fholds hf hs hi, sb2, if_neg (by decide), rdI (by omega) (by omega), sbd, rdI (by omega) (by omega), sbd, e1, e2, c_columnValue (hk.2 i hi), sb2, rdI (by omega) (by omega), sbd, e3, c_compare _ k3, sb2, ifb]
  have : e_acc (e_set (f.2 i) k) a b c = e_cmp (e_col (f.2 i) a b c) (f.2 i).2.2.1 k := rfl
  rw [this]
  cases e_cmp (e_col (f.2 i) a b c) (f.2 i).2.2.1 k <;> rfl
theorem m_of {i w : Nat} (hi : i < 6) (hw : w < 4) : pX8_of (nI i) (nI w) τ = some (fw_g τ 1 (23 + 4 * i + w), τ) := by
  unfold pX8_of
  rw [show (23 : Int32) = nI 23 from rfl, show (4 : Int32) = nI 4 from rfl, mulI, nI_add, nI_add, rdI (by omega) (by omega), sbd]
theorem m_columnOf {e : Fe} (he : eOK e) (a b c : Nat) : pX8_columnOf (nI e.1) (nI e.2.1) (nI a) (nI b) (nI c) τ = some (e_col e a b c, τ) := by
  obtain ⟨k1, k2, k3, k4⟩ := he
  unfold pX8_columnOf e_col
  rcases (show e.1 = 0 ∨ e.1 = 1 ∨ e.1 = 2 by omega) with hz | hz | hz <;> rw [hz] at k2 ⊢
  · rcases (show e.2.1 = 0 ∨ e.2.1 = 1 by simp at k2; omega) with hy | hy <;> rw [hy] <;> rfl
  · rcases (show e.2.1 = 0 ∨ e.2.1 = 1 by simp at k2; omega) with hy | hy <;> rw [hy] <;> rfl
  · rcases (show e.2.1 = 0 ∨ e.2.1 = 1 ∨ e.2.1 = 2 by simp at k2; omega) with hy | hy | hy <;> rw [hy] <;> rfl
theorem m_accepts (hf : FM τ 1 22 f) (hk : FOK f) {i : Nat} (hi : i < f.1) (a b c : Nat) : pX8_accepts (nI i) (nI a) (nI b) (nI c) τ = some (bI (e_acc (f.2 i) a b c), τ) := by
  have hs := hk.1
  obtain ⟨e1, e2, e3, e4⟩ := hf.2 i hi
  have he := hk.2 i hi
  unfold pX8_accepts
  rw [show (0 : Int32) = nI 0 from rfl, show (1 : Int32) = nI 1 from rfl, show (2 : Int32) = nI 2 from rfl, show (3 : Int32) = nI 3 from rfl, m_of (by omega) (by omega), sb2, m_of (by omega) (by omega), sb2]
  simp only [show 23 + 4 * i + 0 = 22 + 1 + 4 * i by omega, show 23 + 4 * i + 1 = 22 + 1 + 4 * i + 1 by omega, e1, e2]
  rw [m_columnOf he, sb2, m_of (by omega) (by omega), sb2, m_of (by omega) (by omega), sb2]
  simp only [show 23 + 4 * i + 2 = 22 + 1 + 4 * i + 2 by omega, show 23 + 4 * i + 3 = 22 + 1 + 4 * i + 3 by omega, e3, e4]
  rw [m_holds _ he.2.2.1, sb2, rzb]
  rfl
end
