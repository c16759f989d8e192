/-! ===== tables: a size and rows, as the class holds them and as the reference does ===== -/
abbrev Tb : Type := Nat × (Nat → Nat)
def PC (σ : fw_T) (h : Nat) (t : Tb) : Prop := fw_g σ h 2 = nI t.1 ∧ ∀ i, i < t.1 → fw_g σ (h + 1) i = nI (t.2 i)
def PM (τ : fw_T) (a k : Nat) (t : Tb) : Prop := fw_g τ a k = nI t.1 ∧ ∀ i, i < t.1 → fw_g τ a (k + 1 + i) = nI (t.2 i)
def TOK (B : Nat) (t : Tb) : Prop := t.1 ≤ B ∧ ∀ i, i < t.1 → t.2 i < 100
def hasN (f : Nat → Nat) (x : Nat) : Nat → Bool
  | 0 => false
  | n + 1 => hasN f x n || f n == x
theorem hasN_iff {f : Nat → Nat} {x n : Nat} : hasN f x n = true ↔ ∃ i, i < n ∧ f i = x := by
  induction n with
  | zero => simp [hasN]
  | succ n ih =>
    simp only [hasN, Bool.or_eq_true, ih, beq_iff_eq]
    constructor
    · rintro (⟨i, h1, h2⟩ | h)
      · exact ⟨i, by omega, h2⟩
      · exact ⟨n, by omega, h⟩
    · rintro ⟨i, h1, h2⟩
      by_cases hi : i = n
      · subst hi; exact Or.inr h2
      · exact Or.inl ⟨i, by omega, h2⟩
theorem hasN_no {f : Nat → Nat} {x n : Nat} : hasN f x n = false ↔ ∀ i, i < n → f i ≠ x := by
  rw [← Bool.not_eq_true, hasN_iff]
  constructor
  · intro h i hi he; exact h ⟨i, hi, he⟩
  · rintro h ⟨i, hi, he⟩; exact h i hi he
def t_in (t : Tb) (x : Nat) : Bool := hasN t.2 x t.1
def t_push (t : Tb) (x : Nat) : Tb := (t.1 + 1, fun i => if i = t.1 then x else t.2 i)
def t_del (t : Tb) (k : Nat) : Tb := (t.1 - 1, fun i => if i < k then t.2 i else t.2 (i + 1))
theorem TOK.push {B : Nat} {t : Tb} {x : Nat} (h : TOK B t) (hx : x < 100) (hB : t.1 < B) : TOK B (t_push t x) := by
  refine ⟨hB, fun i hi => ?_⟩
  simp only [t_push] at hi ⊢
  split
  · exact hx
  · exact h.2 i (by omega)
theorem TOK.del {B : Nat} {t : Tb} {k : Nat} (h : TOK B t) (hk : k < t.1) : TOK B (t_del t k) := by
  refine ⟨by have := h.1; simp only [t_del]; omega, fun i hi => ?_⟩
  simp only [t_del] at hi ⊢
  split
  · exact h.2 i (by omega)
  · exact h.2 (i + 1) (by omega)
theorem TOK.nil {B : Nat} {f : Nat → Nat} : TOK B (0, f) := ⟨Nat.zero_le _, fun i h => absurd h (Nat.not_lt_zero i)⟩
-- reads
theorem PC.cong {σ σ' : fw_T} {h : Nat} {t : Tb} (hp : PC σ h t) (h1 : fw_g σ' h 2 = fw_g σ h 2) (h2 : fw_g σ' (h + 1) = fw_g σ (h + 1)) : PC σ' h t := ⟨h1.trans hp.1, fun i hi => by rw [h2]; exact hp.2 i hi⟩
theorem PM.cong {τ τ' : fw_T} {a a' k k' : Nat} {t : Tb} (hp : PM τ a k t) (h0 : fw_g τ' a' k' = fw_g τ a k) (h : ∀ i, i < t.1 → fw_g τ' a' (k' + 1 + i) = fw_g τ a (k + 1 + i)) : PM τ' a' k' t := ⟨h0.trans hp.1, fun i hi => (h i hi).trans (hp.2 i hi)⟩
section
variable {σ τ : fw_T} {h : Nat} {t : Tb} {B : Nat}
theorem c_holds (hp : PC σ h t) (ht : TOK 10 t) {a b : Nat} (ha : a < 10) (hb : b < 10) : pX2_holds h (nI a) (nI b) σ = some (bI (t_in t (10 * a + b)), σ) := by
  unfold pX2_holds
  rw [row10]
  have hs := ht.1
  refine lp_up (fun n i => pX2_holds_10 h n (nI (10 * a + b)) (nI i) σ) (fun i => hasN t.2 (10 * a + b) i = false) (N := t.1) ?_ ?_ 400 0 (Nat.zero_le _) rfl (by omega)
  · intro n hP
    rw [pX2_holds_10, hp.1, if_pos (by rw [leI (by omega) (by omega)]; omega)]
    simp only [t_in, hP]
    rfl
  · intro n i hi hP
    have hr := ht.2 i hi
    rw [pX2_holds_10, hp.1, if_neg (by rw [leI (by omega) (by omega)]; omega), if_neg (by rw [show (10 : Int32) = nI 10 from rfl, leI (by omega) (by omega)]; omega), rdI (by omega) (by omega), sbd, hp.2 i hi]
    by_cases he : t.2 i = 10 * a + b
    · left
      rw [if_pos (by rw [he])]
      have : t_in t (10 * a + b) = true := hasN_iff.mpr ⟨i, hi, he⟩
      rw [this]
      rfl
    · right
      rw [if_neg (by rw [eqI (by omega) (by omega)]; exact he), nI_1]
      refine ⟨rfl, ?_⟩
      simp only [hasN, hP, Bool.false_or, beq_eq_false_iff_ne]
      exact he
theorem m_placeOf {k : Nat} (hk : k ≤ 47) (hp : PM τ 1 k t) (ht : TOK 10 t) (hkB : k + 1 + t.1 ≤ 52) {x : Nat} (hx : x < 100) : ∃ r, pX8_placeOf (nI k) (nI x) τ = some (r, τ) ∧ (t_in t x = true → r ≠ -10001) ∧ (t_in t x = false → r = -10001) := by
  have hs := ht.1
  refine ⟨if t_in t x = true then nI (((List.range t.1).find? (fun i => t.2 i == x)).getD 0) else -10001, ?_, ?_, ?_⟩
  · unfold pX8_placeOf
    refine lp_up (fun n i => pX8_placeOf_2 n (nI k) (nI x) (nI i) τ) (fun i => hasN t.2 x i = false) (N := t.1) ?_ ?_ 400 0 (Nat.zero_le _) rfl (by omega)
    · intro n hP
      rw [pX8_placeOf_2, rdI (by omega) (by omega), sbd, hp.1, if_pos (by rw [leI (by omega) (by omega)]; omega)]
      simp only [t_in, hP]
      rfl
    · intro n i hi hP
      have hr := ht.2 i hi
      rw [pX8_placeOf_2, rdI (by omega) (by omega), sbd, hp.1, if_neg (by rw [leI (by omega) (by omega)]; omega), nI_1, nI_add, rdI (by omega) (by omega), sbd, hp.2 i hi]
      by_cases he : t.2 i = x
      · left
        rw [if_pos (by rw [he])]
        have h1 : t_in t x = true := hasN_iff.mpr ⟨i, hi, he⟩
        rw [if_pos h1]
        have hf : (List.range t.1).find? (fun i => t.2 i == x) = some i := by
          rw [List.find?_range_eq_some]
          refine ⟨by simpa using he, by simpa using hi, ?_⟩
          intro j hj
          have := hasN_no.mp hP j hj
          simpa using this
        rw [hf]
        rfl
      · right
        rw [if_neg (by rw [eqI (by omega) (by omega)]; exact he), nI_1]
        refine ⟨rfl, ?_⟩
        simp only [hasN, hP, Bool.false_or, beq_eq_false_iff_ne]
        exact he
  · intro h1
    rw [if_pos h1]
    have h2 : ((List.range t.1).find? (fun i => t.2 i == x)).getD 0 < 1000 := by
      cases hf : (List.range t.1).find? (fun i => t.2 i == x) with
      | none => simp
      | some j =>
        have := List.mem_of_find?_eq_some hf
        simp at this
        simp
        omega
    intro hc
    have h3 := congrArg Int32.toInt hc
    rw [nI_toInt (by omega), show (-10001 : Int32).toInt = -10001 from by decide] at h3
    omega
  · intro h1
    rw [if_neg (by rw [h1]; decide)]
theorem m_has0 (hp : PM τ 1 0 t) (ht : TOK 10 t) {a b : Nat} (ha : a < 10) (hb : b < 10) : pX8_hasLeft (nI a) (nI b) τ = some (bI (t_in t (10 * a + b)), τ) := by
  unfold pX8_hasLeft
  have hs := ht.1
  obtain ⟨r, h1, h2, h3⟩ := m_placeOf (k := 0) (by omega) hp ht (by omega) (x := 10 * a + b) (by omega)
  rw [row10, show (0 : Int32) = nI 0 from rfl, h1, sb2]
  cases hc : t_in t (10 * a + b) with
  | true => rw [if_neg (h2 hc)]; rfl
  | false => rw [if_pos (h3 hc)]; rfl
theorem m_has11 (hp : PM τ 1 11 t) (ht : TOK 10 t) {a b : Nat} (ha : a < 10) (hb : b < 10) : pX8_hasRight (nI a) (nI b) τ = some (bI (t_in t (10 * a + b)), τ) := by
  unfold pX8_hasRight
  have hs := ht.1
  obtain ⟨r, h1, h2, h3⟩ := m_placeOf (k := 11) (by omega) hp ht (by omega) (x := 10 * a + b) (by omega)
  rw [row10, show (11 : Int32) = nI 11 from rfl, h1, sb2]
  cases hc : t_in t (10 * a + b) with
  | true => rw [if_neg (h2 hc)]; rfl
  | false => rw [if_pos (h3 hc)]; rfl
theorem c_pairAt (hp : PC σ h t) (ht : TOK 10 t) {i : Nat} (hi : i < t.1) : pX2_pairAt h (nI i) σ = some (nI (t.2 i), σ) := by
  have hs := ht.1
  unfold pX2_pairAt
  rw [if_pos (nI_pos' (by omega)), hp.1, if_neg (by rw [leI (by omega) (by omega)]; omega), rdI (by omega) (by omega), sbd, hp.2 i hi]
theorem c_firstAt (hp : PC σ h t) (ht : TOK 10 t) {i : Nat} (hi : i < t.1) : pX2_firstAt h (nI i) σ = some (nI (t.2 i / 10), σ) := by
  unfold pX2_firstAt
  rw [c_pairAt hp ht hi, sb2, div10 _ (ht.2 i hi)]
theorem c_secondAt (hp : PC σ h t) (ht : TOK 10 t) {i : Nat} (hi : i < t.1) : pX2_secondAt h (nI i) σ = some (nI (t.2 i % 10), σ) := by
  unfold pX2_secondAt
  rw [c_pairAt hp ht hi, sb2, mod10 _ (ht.2 i hi)]
theorem c_isFull {L : Nat} (hp : PC σ h t) (hl : fw_g σ h 1 = nI L) (hL : L ≤ 10) (ht : TOK L t) : pX2_isFull h σ = some (bI (decide (t.1 = L)), σ) := by
  have hs := ht.1
  unfold pX2_isFull
  rw [hp.1, hl]
  by_cases hc : t.1 = L
  · rw [if_neg (by rw [ltI (by omega) (by omega)]; omega)]
    simp [hc, bI, rz1]
  · rw [if_pos (by rw [ltI (by omega) (by omega)]; omega)]
    simp [hc, bI, rz0]
theorem isVV {a b : Nat} (ha : a < 10) (hb : b < 10) : (isV (nI a) && isV (nI b)) = true := by rw [isV_nI ha, isV_nI hb]; rfl
theorem c_insert_bad {x y : Int32} (hv : (isV x && isV y) = false) : pX2_insert h x y σ = some (-10002, σ) := by
  unfold pX2_insert
  rw [c_isPair, sb2, ifb, hv, if_neg (by decide)]
theorem TOK.ten {L : Nat} (ht : TOK L t) (hL : L ≤ 10) : TOK 10 t := ⟨Nat.le_trans ht.1 hL, ht.2⟩
theorem c_insert_has {L : Nat} (hp : PC σ h t) (hL : L ≤ 10) (ht : TOK L t) {a b : Nat} (ha : a < 10) (hb : b < 10) (hc : t_in t (10 * a + b) = true) : pX2_insert h (nI a) (nI b) σ = some (-10003, σ) := by
  unfold pX2_insert
  rw [c_isPair, sb2, ifb, isVV ha hb, if_pos rfl, c_holds hp (ht.ten hL) ha hb, sb2, ifb, hc, if_pos rfl]
theorem c_insert_full {L : Nat} (hp : PC σ h t) (hl : fw_g σ h 1 = nI L) (hL : L ≤ 10) (ht : TOK L t) {a b : Nat} (ha : a < 10) (hb : b < 10) (hc : t_in t (10 * a + b) = false) (hf : t.1 = L) : pX2_insert h (nI a) (nI b) σ = some (-10004, σ) := by
  unfold pX2_insert
  rw [c_isPair, sb2, ifb, isVV ha hb, if_pos rfl, c_holds hp (ht.ten hL) ha hb, sb2, ifb, hc, if_neg (by decide), c_isFull hp hl hL ht, sb2, ifb, if_pos (by simpa using hf)]
theorem c_insert_ok {L : Nat} (hp : PC σ h t) (hl : fw_g σ h 1 = nI L) (hL : L ≤ 10) (ht : TOK L t) {a b : Nat} (ha : a < 10) (hb : b < 10) (hc : t_in t (10 * a + b) = false) (hf : t.1 < L) : pX2_insert h (nI a) (nI b) σ = some (nI (t.1 + 1), fw_u (fw_u σ (h + 1) t.1 (nI (10 * a + b))) h 2 (nI (t.1 + 1))) := by
  unfold pX2_insert
  rw [c_isPair, sb2, ifb, isVV ha hb, if_pos rfl, c_holds hp (ht.ten hL) ha hb, sb2, ifb, hc, if_neg (by decide), c_isFull hp hl hL ht, sb2, ifb, if_neg (by simp; omega), hp.1, wrI (by omega) (by omega), sbd, row10, fw_us, fw_gn σ (show h ≠ h + 1 by omega), hp.1, nI_1]
theorem PC.push (hp : PC σ h t) (x : Nat) : PC (fw_u (fw_u σ (h + 1) t.1 (nI x)) h 2 (nI (t.1 + 1))) h (t_push t x) := by
  refine ⟨fw_us _ _ _ _, fun i hi => ?_⟩
  rw [fw_gn _ (show h + 1 ≠ h by omega), fw_gu]
  simp only [t_push, upd] at hi ⊢
  split
  · rfl
  · exact hp.2 i (by omega)
/-- a stretch of an array moved down -/
def sft (σ : fw_T) (id lo hi d : Nat) : fw_T := (fun a l => if a = id ∧ lo ≤ l ∧ l < hi then σ.1 id (l + d) else σ.1 a l, σ.2)
theorem sft0 (σ : fw_T) (id lo d : Nat) : sft σ id lo lo d = σ := by
  have : ∀ l, ¬ (lo ≤ l ∧ l < lo) := fun l => by omega
  simp only [sft, this, and_false, if_false]
theorem sft_ne {σ : fw_T} {id lo hi d j : Nat} (hj : j ≠ id) : fw_g (sft σ id lo hi d) j = fw_g σ j := by
  funext l
  simp [fw_g, sft, hj]
theorem sft_at (σ : fw_T) (id lo hi d l : Nat) : fw_g (sft σ id lo hi d) id l = if lo ≤ l ∧ l < hi then fw_g σ id (l + d) else fw_g σ id l := by
  simp [fw_g, sft]
theorem sft_step {σ : fw_T} {id lo i d : Nat} (hi : lo ≤ i) : fw_u (sft σ id lo i d) id i (fw_g σ id (i + d)) = sft σ id lo (i + 1) d := by
  unfold fw_u sft fw_g
  refine Prod.ext (funext fun a => funext fun l => ?_) rfl
  by_cases ha : a = id
  · subst ha
    by_cases hl : l = i
    · subst hl
      simp [hi]
    · have e : (lo ≤ l ∧ l < i) ↔ (lo ≤ l ∧ l < i + 1) := by omega
      simp [hl, e]
  · simp [ha]
theorem c_drop_loop (hs : t.1 ≤ 10) {k : Nat} (hk : k ≤ t.1 - 1) (hp : fw_g σ h 2 = nI (t.1 - 1)) (h1 : 0 < t.1) : pX2_drop_28 h 400 (nI k) σ = some (nI (t.1 - 1), sft σ (h + 1) k (t.1 - 1) 1) := by
  have e : ∀ i, fw_g (sft σ (h + 1) k i 1) h 2 = nI (t.1 - 1) := fun i => by rw [sft_ne (by omega)]; exact hp
  have := lp_up (fun n i => pX2_drop_28 h n (nI i) (sft σ (h + 1) k i 1)) (fun i => k ≤ i) (N := t.1 - 1) (fin := some (nI (t.1 - 1), sft σ (h + 1) k (t.1 - 1) 1)) ?_ ?_ 400 k hk (Nat.le_refl k) (by omega)
  · rw [sft0] at this
    exact this
  · intro n _
    rw [pX2_drop_28, e, if_pos (by rw [leI (by omega) (by omega)]; omega)]
  · intro n i hi hP
    right
    refine ⟨?_, by omega⟩
    rw [pX2_drop_28, e, if_neg (by rw [leI (by omega) (by omega)]; omega), nI_1, rdI (by omega) (by omega), sbd, sft_at, if_neg (by omega), wrI (by omega) (by omega), sbd, sft_step hP]
theorem c_drop_bad (hp : PC σ h t) (hs : t.1 ≤ 10) {x : Int32} (hx : ∀ k, k < t.1 → x ≠ nI k) : pX2_drop h x σ = some (-10002, σ) := by
  unfold pX2_drop
  by_cases h1 : x < 0
  · rw [if_pos h1]
  · rw [if_neg h1]
    obtain ⟨j, hj, rfl⟩ := nI_of h1
    rw [hp.1, if_neg]
    rw [nI_ltI hj (by omega)]
    intro hc
    exact hx j hc rfl
theorem c_drop_ok (hp : PC σ h t) (hs : t.1 ≤ 10) {k : Nat} (hk : k < t.1) : pX2_drop h (nI k) σ = some (nI (t.1 - 1), sft (fw_u σ h 2 (nI (t.1 - 1))) (h + 1) k (t.1 - 1) 1) := by
  unfold pX2_drop
  rw [if_neg (nI_pos (by omega)), hp.1, if_pos (by rw [ltI (by omega) (by omega)]; exact hk), show (1 : Int32) = nI 1 from rfl, subI (by omega), c_drop_loop hs (by omega) (fw_us _ _ _ _) (by omega)]
theorem PC.del (hp : PC σ h t) {k : Nat} (hk : k < t.1) : PC (sft (fw_u σ h 2 (nI (t.1 - 1))) (h + 1) k (t.1 - 1) 1) h (t_del t k) := by
  refine ⟨by rw [sft_ne (by omega)]; exact fw_us _ _ _ _, fun i hi => ?_⟩
  simp only [t_del] at hi ⊢
  rw [sft_at, fw_gn _ (show h + 1 ≠ h by omega)]
  by_cases hc : i < k
  · rw [if_neg (by omega), if_pos hc]
    exact hp.2 i (by omega)
  · rw [if_pos (by omega), if_neg hc]
    exact hp.2 (i + 1) (by omega)
-- the reference
theorem m_putBehind {k : Nat} (hp : PM τ 1 k t) (hkB : k + 1 + t.1 < 52) (x : Int32) : pX8_putBehind (nI k) x τ = some (fw_u (fw_u τ 1 (k + 1 + t.1) x) 1 k (nI (t.1 + 1))) := by
  unfold pX8_putBehind
  rw [rdI (by omega) (by omega), sbd, hp.1, nI_1, nI_add, wrI (by omega) (by omega), sbd, rdI (by omega) (by omega), sbd, fw_uo _ _ _ _ _ (by omega), hp.1, wrI (by omega) (by omega), sbd, nI_1]
theorem PM.push {k : Nat} (hp : PM τ 1 k t) (x : Nat) : PM (fw_u (fw_u τ 1 (k + 1 + t.1) (nI x)) 1 k (nI (t.1 + 1))) 1 k (t_push t x) := by
  refine ⟨fw_us _ _ _ _, fun i hi => ?_⟩
  rw [fw_uo _ _ _ _ _ (by omega), fw_gu]
  simp only [t_push, upd] at hi ⊢
  by_cases hc : i = t.1
  · rw [if_pos (by omega), if_pos hc]
  · rw [if_neg (by omega), if_neg hc]
    exact hp.2 i (by omega)
theorem m_removes_loop {k : Nat} (hp : PM τ 1 k t) (hkB : k + 1 + t.1 ≤ 52) {j : Nat} (hj : j < t.1) : pX8_removes_30 400 (nI k) (nI j) τ = some (nI (t.1 - 1), fw_u (sft τ 1 (k + 1 + j) (k + 1 + (t.1 - 1)) 1) 1 k (nI (t.1 - 1))) := by
  have e : ∀ i, j ≤ i → fw_g (sft τ 1 (k + 1 + j) (k + 1 + i) 1) 1 k = nI t.1 := fun i hi => by rw [sft_at, if_neg (by omega)]; exact hp.1
  have := lp_up (fun n i => pX8_removes_30 n (nI k) (nI i) (sft τ 1 (k + 1 + j) (k + 1 + i) 1)) (fun i => j ≤ i) (N := t.1 - 1) (fin := some (nI (t.1 - 1), fw_u (sft τ 1 (k + 1 + j) (k + 1 + (t.1 - 1)) 1) 1 k (nI (t.1 - 1)))) ?_ ?_ 400 j (by omega) (Nat.le_refl j) (by omega)
  · rw [sft0] at this
    exact this
  · intro n hP
    rw [pX8_removes_30, rdI (by omega) (by omega), sbd, e _ hP, nI_1, if_pos (by rw [leI (by omega) (by omega)]; omega), sbd, show (1 : Int32) = nI 1 from rfl, subI (by omega), wrI (by omega) (by omega), sbd, rdI (by omega) (by omega), sbd, fw_us]
  · intro n i hi hP
    right
    refine ⟨?_, by omega⟩
    rw [pX8_removes_30, rdI (by omega) (by omega), sbd, e _ hP, nI_1, if_neg (by rw [leI (by omega) (by omega)]; omega), show (2 : Int32) = nI 2 from rfl, nI_add, nI_add, rdI (by omega) (by omega), sbd, sft_at, if_neg (by omega), nI_1, nI_add, wrI (by omega) (by omega), sbd, show k + 2 + i = k + 1 + i + 1 by omega, sft_step (by omega)]
    rfl
theorem PM.del {k : Nat} (hp : PM τ 1 k t) {j : Nat} (hj : j < t.1) : PM (fw_u (sft τ 1 (k + 1 + j) (k + 1 + (t.1 - 1)) 1) 1 k (nI (t.1 - 1))) 1 k (t_del t j) := by
  refine ⟨fw_us _ _ _ _, fun i hi => ?_⟩
  simp only [t_del] at hi ⊢
  rw [fw_uo _ _ _ _ _ (by omega), sft_at]
  by_cases hc : i < j
  · rw [if_neg (by omega), if_pos hc]
    exact hp.2 i (by omega)
  · rw [if_pos (by omega), if_neg hc, show k + 1 + i + 1 = k + 1 + (i + 1) by omega]
    exact hp.2 (i + 1) (by omega)
end
