/-! ===== the script: read ===== -/
theorem fw_same {σ : fw_T} {i k : Nat} {v : Int32} (h : fw_g σ i k = v) : fw_u σ i k v = σ := by
  unfold fw_u
  refine Prod.ext (funext fun a => funext fun l => ?_) rfl
  simp only
  split
  · rename_i hc
    rw [hc.1, hc.2]
    exact h.symm
  · rfl
theorem fw_uu (σ : fw_T) (i k : Nat) (v w : Int32) : fw_u (fw_u σ i k v) i k w = fw_u σ i k w := by
  unfold fw_u
  refine Prod.ext (funext fun a => funext fun l => ?_) rfl
  simp only
  split <;> rfl
def hr (σ0 : fw_T) (t p : Nat) : Int32 := if p < t then fw_g σ0 8 p else -1
def nb (L : Int32) : Option Nat := if L = 101 then some 0 else if L = 102 then some 4 else if L = 108 then some 2 else if L = 114 then some 2 else if L = 119 then some 2 else if L = 120 then some 1 else none
theorem nb_le {L : Int32} {q : Nat} (h : nb L = some q) : q ≤ 4 ∧ L ≠ -1 := by
  unfold nb at h
  split at h
  · rename_i e; injection h with h; subst e; exact ⟨by omega, by decide⟩
  · split at h
    · rename_i e; injection h with h; subst e; exact ⟨by omega, by decide⟩
    · split at h
      · rename_i e; injection h with h; subst e; exact ⟨by omega, by decide⟩
      · split at h
        · rename_i e; injection h with h; subst e; exact ⟨by omega, by decide⟩
        · split at h
          · rename_i e; injection h with h; subst e; exact ⟨by omega, by decide⟩
          · split at h
            · rename_i e; injection h with h; subst e; exact ⟨by omega, by decide⟩
            · cases h
theorem c_numbers (L : Int32) (σ : fw_T) : pX4_numbersBehind L σ = some ((match nb L with | some q => nI q | none => -10001), σ) := by
  by_cases h1 : L = 101
  · subst h1; rfl
  by_cases h2 : L = 102
  · subst h2; rfl
  by_cases h3 : L = 108
  · subst h3; rfl
  by_cases h4 : L = 114
  · subst h4; rfl
  by_cases h5 : L = 119
  · subst h5; rfl
  by_cases h6 : L = 120
  · subst h6; rfl
  unfold pX4_numbersBehind nb
  simp only [if_neg h1, if_neg h2, if_neg h3, if_neg h4, if_neg h5, if_neg h6, ite_self]
theorem m_numbers (L : Int32) (σ : fw_T) : pX8_numbersOf L σ = some ((match nb L with | some q => nI q | none => -1), σ) := by
  by_cases h1 : L = 101
  · subst h1; rfl
  by_cases h2 : L = 102
  · subst h2; rfl
  by_cases h3 : L = 108
  · subst h3; rfl
  by_cases h4 : L = 114
  · subst h4; rfl
  by_cases h5 : L = 119
  · subst h5; rfl
  by_cases h6 : L = 120
  · subst h6; rfl
  unfold pX8_numbersOf nb
  simp only [if_neg h1, if_neg h2, if_neg h3, if_neg h4, if_neg h5, if_neg h6, ite_self]
def CM (σ τ : fw_T) (i : Nat) : Prop := fw_g σ 5 i = fw_g τ 6 (5 * i) ∧ ∃ q, nb (fw_g σ 5 i) = some q ∧ ∀ j, j < q → fw_g σ 6 (4 * i + j) = fw_g τ 6 (5 * i + 1 + j)
theorem CM.cong {σ τ σ' τ' : fw_T} {i : Nat} (h : CM σ τ i) (h1 : fw_g σ' 5 i = fw_g σ 5 i) (h2 : ∀ l, l < 4 * i + 4 → fw_g σ' 6 l = fw_g σ 6 l) (h3 : ∀ l, l < 5 * i + 5 → fw_g τ' 6 l = fw_g τ 6 l) : CM σ' τ' i := by
  obtain ⟨a, q, b, c⟩ := h
  have hq := (nb_le b).1
  refine ⟨by rw [h1, h3 _ (by omega)]; exact a, q, by rw [h1]; exact b, fun j hj => ?_⟩
  rw [h2 _ (by omega), h3 _ (by omega)]
  exact c j hj
def PFr (σ0 τ0 σ τ : fw_T) : Prop := (∀ j, j ≠ 4 → j ≠ 5 → j ≠ 6 → fw_g σ j = fw_g σ0 j) ∧ (∀ j, j ≠ 0 → j ≠ 6 → fw_g τ j = fw_g τ0 j) ∧ ∀ l, l ≠ 10 → l ≠ 11 → l ≠ 12 → fw_g τ 0 l = fw_g τ0 0 l
def PV (σ0 τ0 : fw_T) (t : Nat) (σ τ : fw_T) (p k : Nat) : Prop := p ≤ t ∧ 2 * k ≤ p ∧ fw_g σ 4 4 = nI p ∧ fw_g τ 0 11 = nI p ∧ fw_g σ 4 3 = nI k ∧ fw_g τ 0 10 = nI k ∧ (∀ i, i < k → CM σ τ i) ∧ PFr σ0 τ0 σ τ
def PX (σ0 τ0 σ τ : fw_T) (p : Nat) : Prop := fw_g σ 4 4 = nI p ∧ fw_g τ 0 11 = nI p ∧ fw_g τ 0 12 = 1 ∧ PFr σ0 τ0 σ τ
section
variable {σ0 τ0 σ τ : fw_T} {t p k : Nat}
theorem PFr.c (h : PFr σ0 τ0 σ τ) {i l : Nat} {v : Int32} (hi : i = 4 ∨ i = 5 ∨ i = 6) : PFr σ0 τ0 (fw_u σ i l v) τ := ⟨fun j h1 h2 h3 => by rw [fw_gn _ (by omega)]; exact h.1 j h1 h2 h3, h.2⟩
theorem PFr.m0 (h : PFr σ0 τ0 σ τ) {l : Nat} {v : Int32} (hi : l = 10 ∨ l = 11 ∨ l = 12) : PFr σ0 τ0 σ (fw_u τ 0 l v) := ⟨h.1, fun j h1 h2 => by rw [fw_gn _ h1]; exact h.2.1 j h1 h2, fun j h1 h2 h3 => by rw [fw_uo _ _ _ _ _ (by omega)]; exact h.2.2 j h1 h2 h3⟩
theorem PFr.m6 (h : PFr σ0 τ0 σ τ) {l : Nat} {v : Int32} : PFr σ0 τ0 σ (fw_u τ 6 l v) := ⟨h.1, fun j h1 h2 => by rw [fw_gn _ h2]; exact h.2.1 j h1 h2, fun j h1 h2 h3 => by rw [fw_gn _ (by decide)]; exact h.2.2 j h1 h2 h3⟩
theorem PV.pos (h : PV σ0 τ0 t σ τ p k) {p' : Nat} (h1 : p ≤ p') (h2 : p' ≤ t) : PV σ0 τ0 t (fw_u σ 4 4 (nI p')) (fw_u τ 0 11 (nI p')) p' k := by
  obtain ⟨a1, a2, a3, a4, a5, a6, a7, a8⟩ := h
  exact ⟨h2, by omega, fw_us _ _ _ _, fw_us _ _ _ _, by rw [fw_uo _ _ _ _ _ (by decide)]; exact a5, by rw [fw_uo _ _ _ _ _ (by decide)]; exact a6, fun i hi => (a7 i hi).cong (by rw [fw_gn _ (by decide)]) (fun l _ => by rw [fw_gn _ (by decide)]) (fun l _ => by rw [fw_gn _ (by decide)]), (a8.c (by omega)).m0 (by omega)⟩
theorem c_byte (hT : rTx σ0 τ0 t) (hf : PFr σ0 τ0 σ τ) (hp : fw_g σ 4 4 = nI p) (hp2 : p < 1000) : pX6_byteAt (fw_g σ 4 4) σ = some (hr σ0 t p, σ) := by
  have ht := hT.1
  unfold pX6_byteAt hr
  rw [hp, if_neg (nI_pos (by omega)), hf.1 7 (by omega) (by omega) (by omega), hT.2.1]
  by_cases hc : p < t
  · rw [if_neg (by rw [leI (by omega) (by omega)]; omega), rdI (by omega) (by omega), sbd, if_pos hc, hf.1 8 (by omega) (by omega) (by omega)]
  · rw [if_pos (by rw [leI (by omega) (by omega)]; omega), if_neg hc]
theorem m_here (hT : rTx σ0 τ0 t) (hf : PFr σ0 τ0 σ τ) (hp : fw_g τ 0 11 = nI p) (hp2 : p < 1000) : pX8_here τ = some (hr σ0 t p, τ) := by
  have ht := hT.1
  unfold pX8_here hr
  rw [hp, hf.2.2 7 (by omega) (by omega) (by omega), hT.2.2.1]
  by_cases hc : p < t
  · obtain ⟨b, b1, b2, b3⟩ := hT.2.2.2 p hc
    rw [if_neg (by rw [leI (by omega) (by omega)]; omega), rdI (by omega) (by omega), sbd, if_pos hc, hf.2.1 5 (by omega) (by omega), b2, b3]
  · rw [if_pos (by rw [leI (by omega) (by omega)]; omega), if_neg hc]
theorem hr_lt {v : Int32} (h : hr σ0 t p = v) (hv : v ≠ -1) : p < t := by
  unfold hr at h
  split at h
  · assumption
  · exact absurd h.symm hv
theorem skip2 (hT : rTx σ0 τ0 t) : ∀ (n p : Nat) (σ τ : fw_T), t - p < n → p ≤ t → PFr σ0 τ0 σ τ → fw_g σ 4 4 = nI p → fw_g τ 0 11 = nI p → ∃ p', p ≤ p' ∧ p' ≤ t ∧ hr σ0 t p' ≠ 32 ∧ pX4_skipSpaces_0 n σ = some (fw_u σ 4 4 (nI p')) ∧ pX8_skip_0 n τ = some (fw_u τ 0 11 (nI p')) := by
  have ht := hT.1
  intro n
  induction n with
  | zero => intro p σ τ h; omega
  | succ n ih =>
    intro p σ τ hn hp hf h1 h2
    by_cases hs : hr σ0 t p = 32
    · have hlt : p < t := hr_lt hs (by decide)
      obtain ⟨p', a1, a2, a3, a4, a5⟩ := ih (p + 1) (fw_u σ 4 4 (nI (p + 1))) (fw_u τ 0 11 (nI (p + 1))) (by omega) (by omega) ((hf.c (by omega)).m0 (by omega)) (fw_us _ _ _ _) (fw_us _ _ _ _)
      refine ⟨p', by omega, a2, a3, ?_, ?_⟩
      · rw [pX4_skipSpaces_0, if_neg (by rw [hf.1 7 (by omega) (by omega) (by omega), hT.2.1, h1, leI (by omega) (by omega)]; omega), c_byte hT hf h1 (by omega), sb2, if_pos hs, h1, nI_1, a4, fw_uu]
      · rw [pX8_skip_0, m_here hT hf h2 (by omega), sb2, if_pos hs, h2, nI_1, a5, fw_uu]
    · refine ⟨p, Nat.le_refl _, hp, hs, ?_, ?_⟩
      · rw [pX4_skipSpaces_0, c_byte hT hf h1 (by omega), sb2, if_neg hs, fw_same h1]
        split <;> rfl
      · rw [pX8_skip_0, m_here hT hf h2 (by omega), sb2, if_neg hs, fw_same h2]
theorem skips (hT : rTx σ0 τ0 t) (h : PV σ0 τ0 t σ τ p k) : ∃ p', p ≤ p' ∧ p' ≤ t ∧ hr σ0 t p' ≠ 32 ∧ pX4_skipSpaces σ = some (fw_u σ 4 4 (nI p')) ∧ pX8_skip τ = some (fw_u τ 0 11 (nI p')) ∧ PV σ0 τ0 t (fw_u σ 4 4 (nI p')) (fw_u τ 0 11 (nI p')) p' k := by
  have ht := hT.1
  obtain ⟨a1, a2, a3, a4, a5, a6, a7, a8⟩ := id h
  obtain ⟨p', b1, b2, b3, b4, b5⟩ := skip2 hT 400 p σ τ (by omega) a1 a8 a3 a4
  exact ⟨p', b1, b2, b3, b4, b5, h.pos b1 b2⟩
theorem skip_nop (hT : rTx σ0 τ0 t) (hf : PFr σ0 τ0 σ τ) (h2 : fw_g τ 0 11 = nI p) (hp : p < 1000) (hs : hr σ0 t p ≠ 32) : pX8_skip τ = some τ := by
  show pX8_skip_0 (399 + 1) τ = some τ
  rw [pX8_skip_0, m_here hT hf h2 hp, sb2, if_neg hs]
theorem c_isDigit (x : Int32) (σ : fw_T) : pX4_isDigit x σ = some (bI (inB 48 57 x), σ) := by
  unfold pX4_isDigit
  rw [cmpB]
  cases inB 48 57 x <;> rfl
theorem z10 (w : Int32) : (((10 : Int32) * 0) + w) - (48 : Int32) = w - 48 := by
  rw [show (10 : Int32) * 0 = 0 from rfl, Int32.zero_add]
def sgn (s : Bool) (v : Int32) : Int32 := if s then -v else v
theorem c_134 (hT : rTx σ0 τ0 t) {ix : Nat} (hix : ix < 240) (s : Bool) (v : Int32) (hf : PFr σ0 τ0 σ τ) (h1 : fw_g σ 4 4 = nI p) (hp : p < 1000) : pX4_readNumber_134 (nI ix) (bI s) v σ = some (bI (!inB 48 57 (hr σ0 t p)), fw_u σ 6 ix (sgn s v)) := by
  have tail : ∀ w, pX4_readNumber_165 (fw_u σ 6 ix w) = some (bI (!inB 48 57 (hr σ0 t p)), fw_u σ 6 ix w) := fun w => by
    unfold pX4_readNumber_165
    rw [c_byte hT (hf.c (i := 6) (by omega)) (p := p) (by rw [fw_gn _ (by decide)]; exact h1) hp, sb2, c_isDigit, sb2, ifb]
    cases inB 48 57 (hr σ0 t p) <;> rfl
  unfold pX4_readNumber_134
  rw [if_neg (nI_pos (by omega)), if_neg (by rw [show (240 : Int32) = nI 240 from rfl, leI (by omega) (by omega)]; omega)]
  cases s with
  | false => rw [bIf, if_pos rfl, wrI (by omega) (by omega), sbd, tail]; rfl
  | true => rw [bIt, if_neg (by decide), wrI (by omega) (by omega), sbd, tail]; rfl
theorem m_95 (hT : rTx σ0 τ0 t) (s : Bool) (v : Int32) {x4 : Int32} (hx : x4 ≠ 0) (hf : PFr σ0 τ0 σ τ) (h2 : fw_g τ 0 11 = nI p) (hp : p < 1000) : pX8_readNumber_95 (bI s) v x4 τ = some (sgn s v, fw_u τ 0 12 (bI (inB 48 57 (hr σ0 t p)))) := by
  unfold pX8_readNumber_95
  rw [if_neg hx, m_here hT hf h2 hp, sb2, m_inB, sb2, ifb]
  cases inB 48 57 (hr σ0 t p) with
  | false => cases s <;> rfl
  | true => cases s <;> rfl
/-- a number, behind its sign -/
theorem num_core (hT : rTx σ0 τ0 t) {ix : Nat} (hix : ix < 240) (s : Bool) (hf : PFr σ0 τ0 σ τ) (h1 : fw_g σ 4 4 = nI p) (h2 : fw_g τ 0 11 = nI p) (hp : p ≤ t) :
    (∃ p' v, p < p' ∧ p' ≤ t ∧ pX4_readNumber_40 (nI ix) (bI s) σ = some (1, fw_u (fw_u σ 4 4 (nI p')) 6 ix v) ∧ pX8_readNumber_46 400 (bI s) 0 0 τ = some (v, fw_u (fw_u τ 0 11 (nI p')) 0 12 0)) ∨
    (∃ p' v σ', p ≤ p' ∧ p' ≤ t ∧ pX4_readNumber_40 (nI ix) (bI s) σ = some (0, σ') ∧ fw_g σ' 4 4 = nI p' ∧ (∀ τ', PFr σ0 τ0 σ τ' → PFr σ0 τ0 σ' τ') ∧ pX8_readNumber_46 400 (bI s) 0 0 τ = some (v, fw_u (fw_u τ 0 11 (nI p')) 0 12 1)) := by
  have ht := hT.1
  have dlt : ∀ q, inB 48 57 (hr σ0 t q) = true → q < t := fun q h => by
    unfold hr at h
    split at h
    · assumption
    · exact absurd h (by decide)
  unfold pX4_readNumber_40
  rw [show (400 : Nat) = 397 + 1 + 1 + 1 from rfl, pX8_readNumber_46, c_byte hT hf h1 (by omega), sb2, c_isDigit, sb2, m_here hT hf h2 (by omega), sb2, m_inB, sb2, ifb, ifb]
  cases d1 : inB 48 57 (hr σ0 t p) with
  | false =>
    right
    refine ⟨p, sgn s 0, σ, Nat.le_refl _, hp, ?_, h1, fun τ' h => h, ?_⟩
    · rw [if_neg (by decide), rz0]
    · rw [if_neg (by decide), fw_same h2]
      cases s <;> rfl
  | true =>
    have l1 := dlt p d1
    have hfc : PFr σ0 τ0 (fw_u σ 4 4 (nI (p + 1))) τ := hf.c (by omega)
    have hf1 : PFr σ0 τ0 (fw_u σ 4 4 (nI (p + 1))) (fw_u τ 0 11 (nI (p + 1))) := hfc.m0 (by omega)
    rw [if_pos rfl, if_pos rfl, if_neg (by decide), c_byte hT hf h1 (by omega), sb2, h1, nI_1, c_byte hT hf1 (p := p + 1) (fw_us _ _ _ _) (by omega), sb2, c_isDigit, sb2, m_here hT hf h2 (by omega), sb2, h2, nI_1, z10, show (0 : Int32) + 1 = 1 from rfl, pX8_readNumber_46, m_here hT hf1 (p := p + 1) (fw_us _ _ _ _) (by omega), sb2, m_inB, sb2, ifb, ifb]
    cases d2 : inB 48 57 (hr σ0 t (p + 1)) with
    | false =>
      left
      refine ⟨p + 1, sgn s (hr σ0 t p - 48), by omega, by omega, ?_, ?_⟩
      · rw [if_neg (by decide), c_134 hT hix s _ hf1 (p := p + 1) (fw_us _ _ _ _) (by omega), d2]; rfl
      · rw [if_neg (by decide), m_95 hT s _ (by decide) hf1 (p := p + 1) (fw_us _ _ _ _) (by omega), d2]; rfl
    | true =>
      have l2 := dlt _ d2
      have hf2 : PFr σ0 τ0 (fw_u σ 4 4 (nI (p + 2))) (fw_u τ 0 11 (nI (p + 2))) := PFr.m0 (PFr.c hf (by omega)) (by omega)
      rw [if_pos rfl, if_pos rfl, if_neg (by decide), c_byte hT hf1 (p := p + 1) (fw_us _ _ _ _) (by omega), sb2, fw_us, nI_1, fw_uu, m_here hT hf1 (p := p + 1) (fw_us _ _ _ _) (by omega), sb2, fw_us, nI_1, fw_uu, show (1 : Int32) + 1 = 2 from rfl, pX8_readNumber_46, m_here hT hf2 (p := p + 2) (fw_us _ _ _ _) (by omega), sb2, m_inB, sb2, ifb, c_134 hT hix s _ hf2 (p := p + 2) (fw_us _ _ _ _) (by omega), if_pos (show (2 : Int32) ≤ 2 by decide), m_95 hT s _ (by decide) hf2 (p := p + 2) (fw_us _ _ _ _) (by omega), ite_self]
      cases d3 : inB 48 57 (hr σ0 t (p + 2)) with
      | false => left; exact ⟨p + 2, _, by omega, by omega, rfl, rfl⟩
      | true => right; exact ⟨p + 2, _, _, by omega, by omega, rfl, by rw [fw_gn _ (by decide)]; exact fw_us _ _ _ _, fun τ' h => PFr.c (PFr.c h (by omega)) (by omega), rfl⟩
end
