/-! ===== the nearest constant ===== -/
def f_set (f : Ft) (i : Nat) (k : Int32) : Ft := (f.1, fun j => if j = i then e_set (f.2 i) k else f.2 j)
def s_f (S : St) (f : Ft) : St := (S.1, S.2.1, f, S.2.2.2)
def vI (t : Nat) : Int32 := nI t - 9
theorem vI_toInt : ∀ t, t < 29 → (vI t).toInt = (t : Int) - 9 := by decide +kernel
theorem vI_of {x : Int32} (h1 : (-9 : Int32) ≤ x) (h2 : x ≤ 18) : ∃ t, t < 28 ∧ x = vI t := by
  rw [Int32.le_iff_toInt_le, show (-9 : Int32).toInt = -9 from by decide] at h1
  rw [Int32.le_iff_toInt_le, show (18 : Int32).toInt = 18 from by decide] at h2
  refine ⟨(x.toInt + 9).toNat, by omega, Int32.toInt_inj.mp ?_⟩
  rw [vI_toInt _ (by omega)]
  omega
theorem kOK_vI {s : Nat} {k : Int32} (h : kOK s k = true) : ∃ t, t < 28 ∧ k = vI t := by
  unfold kOK at h
  split at h
  · simp only [Bool.and_eq_true, decide_eq_true_eq] at h
    exact vI_of h.1 h.2
  · obtain ⟨a, ha, rfl⟩ := isV_of h
    have : ∀ a, a < 10 → nI a = vI (a + 9) := by decide +kernel
    exact ⟨a + 9, by omega, this a ha⟩
theorem vI_sub : ∀ t0, t0 < 28 → ∀ d, d < 28 → if d ≤ t0 then vI t0 - nI d = vI (t0 - d) else (isV (vI t0 - nI d) = false ∧ ¬ (-9 : Int32) ≤ vI t0 - nI d) := by decide +kernel
theorem vI_add : ∀ t0, t0 < 28 → ∀ d, d < 28 → if t0 + d < 28 then vI t0 + nI d = vI (t0 + d) else (isV (vI t0 + nI d) = false ∧ ¬ vI t0 + nI d ≤ 18) := by decide +kernel
theorem vI_far : ∀ t0, t0 < 28 → ∀ t, t < 28 → (vI t0 ≤ vI t ↔ t0 ≤ t) ∧ (if t0 ≤ t then vI t - vI t0 = nI (t - t0) else vI t0 - vI t = nI (t0 - t)) := by decide +kernel
theorem vI_1 : ∀ t, t < 28 → vI t + 1 = vI (t + 1) ∧ ¬ (18 : Int32) < vI t := by decide +kernel
def dst (t0 t : Nat) : Nat := if t0 ≤ t then t - t0 else t0 - t
def ky2 (t0 t : Nat) : Nat := 64 * dst t0 t + t
def vv (u : Nat) : Int32 := if u = 64 then -10001 else vI u
theorem vv_ne {u : Nat} (h : u < 28) : vv u = vI u := by unfold vv; rw [if_neg (by omega)]
def rpg (S : St) (i a c : Nat) (k : Int32) : Bool := kOK (S.2.2.1.2 i).1 k && decide (0 < MC (s_f S (f_set S.2.2.1 i k)) 0 a c)
def rpu (S : St) (i a c t0 : Nat) : Nat → Nat := uf (ky2 t0) (fun t => rpg S i a c (vI t))
theorem rp_iff (S : St) {i : Nat} (hi : i < S.2.2.1.1) (hs : S.2.2.1.1 ≤ 6) (a c : Nat) (k : Int32) : decide (0 < MC (s_f S (f_set S.2.2.1 i k)) 0 a c) = true ↔ ∃ b, b < 10 ∧ (J S a c b && sb (rj S a b c) (2 ^ i)) = true ∧ e_acc (e_set (S.2.2.1.2 i) k) a b c = true := by
  rw [MC_good]
  refine exists_congr fun b => and_congr_right fun hb => ?_
  rw [Bool.and_eq_true, and_assoc]
  refine and_congr_right fun hj => ?_
  rw [sb0, beq_iff_eq]
  have e1 : rj (s_f S (f_set S.2.2.1 i k)) a b c = 0 ↔ ∀ j, j < S.2.2.1.1 → (!e_acc ((f_set S.2.2.1 i k).2 j) a b c) = false := mk_zero
  have e2 : sb (rj S a b c) (2 ^ i) = true ↔ ∀ j, j < S.2.2.1.1 → (rj S a b c).testBit j = true → (2 ^ i).testBit j = true := sb_iff (rj_lt S a b c)
  have e3 : ∀ j, (rj S a b c).testBit j = (decide (j < S.2.2.1.1) && !e_acc (S.2.2.1.2 j) a b c) := fun j => mk_bit _ _ j
  rw [e1, e2]
  constructor
  · intro h
    refine ⟨fun j hj hb => ?_, ?_⟩
    · by_cases hji : j = i
      · rw [hji, Nat.testBit_two_pow_self]
      · have := h j hj
        simp only [f_set, if_neg hji] at this
        rw [e3, this] at hb
        simp at hb
    · have := h i hi
      simpa [f_set] using this
  · rintro ⟨h1, h2⟩ j hj
    by_cases hji : j = i
    · simp [f_set, hji, h2]
    · simp only [f_set, if_neg hji]
      cases hc : (!e_acc (S.2.2.1.2 j) a b c) with
      | false => rfl
      | true =>
        have := h1 j hj (by rw [e3, hc]; simp [hj])
        rw [Nat.testBit_two_pow] at this
        simp at this
        exact absurd this.symm hji
section
variable {σ τ : fw_T} {S : St}
theorem c_isConstant {s : Nat} (hs : s ≤ 2) (k : Int32) (σ : fw_T) : pX0_isConstant (nI s) k σ = some (bI (kOK s k), σ) := by
  unfold pX0_isConstant kOK
  by_cases h2 : s = 2
  · rw [if_pos (by rw [h2]; rfl), if_pos h2]
    by_cases h3 : k < -9
    · have : ¬ (-9 : Int32) ≤ k := nle.mpr h3
      rw [if_pos h3]; simp [this, bI, rz0]
    · have h3' := nlt.mp h3
      rw [if_neg h3]
      by_cases h4 : (18 : Int32) < k
      · have : ¬ k ≤ 18 := nle.mpr h4
        rw [if_pos h4]; simp [this, bI, rz0]
      · have := nlt.mp h4
        rw [if_neg h4]; simp [this, h3', bI, rz1]
  · rw [if_neg (by rw [show (2 : Int32) = nI 2 from rfl, eqI (by omega) (by omega)]; exact h2), if_neg h2, c_isValue, sb2, rzb]
theorem m_isConstant {s : Nat} (hs : s ≤ 2) (k : Int32) (σ : fw_T) : pX8_isConstant (nI s) k σ = some (bI (kOK s k), σ) := by
  unfold pX8_isConstant kOK
  by_cases h2 : s = 2
  · rw [if_pos (by rw [h2]; rfl), if_pos h2, m_in, sb2, rzb]
  · rw [if_neg (by rw [show (2 : Int32) = nI 2 from rfl, eqI (by omega) (by omega)]; exact h2), if_neg h2, m_in9, sb2, rzb]
theorem c_others (hc : CS σ 12 S) (hS : OKS S) {i a c : Nat} (hi : i < S.2.2.1.1) (ha : a < 10) (hc10 : c < 10) : pX3_bsAcceptedByOthers (nI a) (nI c) (nI i) σ = some (nI (mk (fun b => J S a c b && sb (rj S a b c) (2 ^ i)) 10), σ) := by
  have hs := hS.2.2.1.1
  unfold pX3_bsAcceptedByOthers
  rw [c_joinedBs hc hS ha hc10, sb2]
  refine lp_all (fun n b => pX3_bsAcceptedByOthers_14 n (nI a) (nI c) (nI i) (nI (mk (J S a c) 10)) (nI (mk (fun b => J S a c b && sb (rj S a b c) (2 ^ i)) b)) (nI b) σ) (N := 10) ?_ ?_ 400 0 (Nat.zero_le _) (by omega)
  · intro n
    rw [pX3_bsAcceptedByOthers_14, if_pos (by decide)]
  · intro n b hb
    have hle := rej_lt hs a b c
    rw [pX3_bsAcceptedByOthers_14, if_neg (by rw [show (10 : Int32) = nI 10 from rfl, leI (by omega) (by omega)]; omega), c_isIn hb, sb2, ifb, ← orI (fun b => J S a c b && sb (rj S a b c) (2 ^ i)) (show b < 31 by omega)]
    cases hj : J S a c b with
    | false => rw [if_neg (by decide), nI_1]; simp
    | true =>
      have h2i : 2 ^ i < 64 := by
        have : 2 ^ i ≤ 2 ^ 5 := Nat.pow_le_pow_right (by decide) (by omega)
        omega
      rw [if_pos rfl, c_rejecters hc.2.2.1 hS.2.2.1, sb2, shI i (by omega), nI_1]
      have e := notI _ hle _ h2i
      by_cases hz : sb (rej S.2.2.1 a b c) (2 ^ i) = true
      · have hz' : sb (rj S a b c) (2 ^ i) = true := hz
        rw [if_pos (e.mpr hz)]
        simp [hz']
      · have hz' : ¬ sb (rj S a b c) (2 ^ i) = true := hz
        rw [if_neg (fun h => hz (e.mp h))]
        simp [hz']
theorem c_mayHave (hc : CS σ 12 S) (hS : OKS S) {i : Nat} (hi : i < S.2.2.1.1) (k : Int32) : pX0_mayHaveConstant 17 (nI i) k σ = some (bI (kOK (S.2.2.1.2 i).1 k), σ) := by
  have hs := hS.2.2.1.1
  have h1 := (hS.2.2.1.2 i hi).1
  have e1 := (hc.2.2.1.2 i hi).1
  unfold pX0_mayHaveConstant
  rw [c_fholds hc.2.2.1 hs hi, sb2, if_neg (by decide), rdI (by omega) (by omega), sbd, e1, c_isConstant h1, sb2, ifb]
  cases kOK (S.2.2.1.2 i).1 k <;> rfl
theorem c_isRepair (hc : CS σ 12 S) (hS : OKS S) {i a c : Nat} (hi : i < S.2.2.1.1) (k : Int32) : pX3_isRepair k (nI i) (nI (mk (fun b => J S a c b && sb (rj S a b c) (2 ^ i)) 10)) (nI a) (nI c) σ = some (bI (rpg S i a c k), σ) := by
  have hs := hS.2.2.1.1
  unfold pX3_isRepair rpg
  rw [c_mayHave hc hS hi, sb2, ifb]
  cases hk : kOK (S.2.2.1.2 i).1 k with
  | false => rfl
  | true =>
    rw [if_pos rfl, Bool.true_and]
    refine lp_up (fun n b => pX3_isRepair_20 n k (nI i) (nI (mk (fun b => J S a c b && sb (rj S a b c) (2 ^ i)) 10)) (nI a) (nI c) (nI b) σ) (fun b => ∀ b', b' < b → ¬ ((J S a c b' && sb (rj S a b' c) (2 ^ i)) = true ∧ e_acc (e_set (S.2.2.1.2 i) k) a b' c = true)) (N := 10) ?_ ?_ 400 0 (Nat.zero_le _) (fun b' h => by omega) (by omega)
    · intro n hP
      rw [pX3_isRepair_20, if_pos (by decide)]
      have : decide (0 < MC (s_f S (f_set S.2.2.1 i k)) 0 a c) = false := by
        rw [← Bool.not_eq_true, rp_iff S hi hs a c k]
        rintro ⟨b, hb, h1, h2⟩
        exact hP b hb ⟨h1, h2⟩
      rw [this]
      rfl
    · intro n b hb hP
      rw [pX3_isRepair_20, if_neg (by rw [show (10 : Int32) = nI 10 from rfl, leI (by omega) (by omega)]; omega), c_isIn hb, sb2, ifb]
      cases hj : (J S a c b && sb (rj S a b c) (2 ^ i)) with
      | false =>
        right
        rw [if_neg (by decide), nI_1]
        refine ⟨rfl, fun b' hb' => ?_⟩
        by_cases he : b' = b
        · rw [he, hj]; simp
        · exact hP b' (by omega)
      | true =>
        rw [if_pos rfl, c_acceptsWith hc.2.2.1 hS.2.2.1 hi, sb2, ifb]
        cases ha : e_acc (e_set (S.2.2.1.2 i) k) a b c with
        | false =>
          right
          rw [if_neg (by decide), nI_1]
          refine ⟨rfl, fun b' hb' => ?_⟩
          by_cases he : b' = b
          · rw [he, ha]; simp
          · exact hP b' (by omega)
        | true =>
          left
          have : decide (0 < MC (s_f S (f_set S.2.2.1 i k)) 0 a c) = true := (rp_iff S hi hs a c k).mpr ⟨b, hb, hj, ha⟩
          rw [this]
          rfl
theorem ky2_inj {t0 x y : Nat} (hx : x < 28) (hy : y < 28) (h : ky2 t0 x = ky2 t0 y) : x = y := by unfold ky2 at h; omega
theorem rpu_eq (S : St) (i a c t0 : Nat) {v : Nat} (h : isMin 28 (ky2 t0) (fun t => rpg S i a c (vI t)) v) : rpu S i a c t0 28 = v :=
  isMin.one (by decide) (fun x y hx hy h => ky2_inj hx hy h) (fun _ _ => rfl) (uf_ok _ _ 28 (by decide)) h
theorem rpg_lo (S : St) (i a c : Nat) {t0 d : Nat} (ht : t0 < 28) (hd : d < 28) (h : ¬ d ≤ t0) : rpg S i a c (vI t0 - nI d) = false := by
  have := vI_sub t0 ht d hd
  rw [if_neg h] at this
  unfold rpg kOK
  split
  · simp [this.2]
  · simp [this.1]
theorem rpg_hi (S : St) (i a c : Nat) {t0 d : Nat} (ht : t0 < 28) (hd : d < 28) (h : ¬ t0 + d < 28) : rpg S i a c (vI t0 + nI d) = false := by
  have := vI_add t0 ht d hd
  rw [if_neg h] at this
  unfold rpg kOK
  split
  · simp [this.2]
  · simp [this.1]
theorem c_nearest (hc : CS σ 12 S) (hS : OKS S) {i a c t0 : Nat} (hi : i < S.2.2.1.1) (ha : a < 10) (hc10 : c < 10) (ht : t0 < 28) (hk : (S.2.2.1.2 i).2.2.2 = vI t0) : pX3_nearestConstant (nI a) (nI c) (nI i) σ = some (vv (rpu S i a c t0 28), σ) := by
  have hs := hS.2.2.1.1
  have e4 := (hc.2.2.1.2 i hi).2.2.2
  unfold pX3_nearestConstant pX0_constantAt
  rw [c_fholds hc.2.2.1 hs hi, sb2, if_neg (by decide), rdI (by omega) (by omega), sbd, sb2, e4, hk, c_others hc hS hi ha hc10, sb2]
  refine lp_up (fun n d => pX3_nearestConstant_29 n (nI a) (nI c) (nI i) (vI t0) (nI (mk (fun b => J S a c b && sb (rj S a b c) (2 ^ i)) 10)) 27 (nI d) σ) (fun d => ∀ t, t < 28 → dst t0 t < d → rpg S i a c (vI t) = false) (N := 28) ?_ ?_ 400 0 (Nat.zero_le _) (fun t _ h => by omega) (by omega)
  · intro n hP
    rw [pX3_nearestConstant_29, if_pos (by decide)]
    rw [rpu_eq S i a c t0 (v := 64) (Or.inl ⟨rfl, fun t h => hP t h (by unfold dst; split <;> omega)⟩)]
    rfl
  · intro n d hd hP
    rw [pX3_nearestConstant_29, if_neg (by rw [show (27 : Int32) = nI 27 from rfl, ltI (by omega) (by omega)]; omega), c_isRepair hc hS hi, sb2, ifb]
    cases h1 : rpg S i a c (vI t0 - nI d) with
    | true =>
      left
      rw [if_pos rfl]
      have hdt : d ≤ t0 := by
        rcases Nat.lt_or_ge t0 d with h | h
        · rw [rpg_lo S i a c ht hd (by omega)] at h1; cases h1
        · exact h
      have e := vI_sub t0 ht d hd
      rw [if_pos hdt] at e
      rw [e] at h1 ⊢
      rw [rpu_eq S i a c t0 (v := t0 - d) (Or.inr ⟨by omega, h1, fun t h2 h3 => ?_⟩), vv_ne (by omega)]
      have h4 : ¬ dst t0 t < d := fun h => by have h9 : rpg S i a c (vI t) = true := h3; rw [hP t h2 h] at h9; cases h9
      unfold ky2 dst at *
      split at h4 <;> split <;> omega
    | false =>
      rw [if_neg (by decide), c_isRepair hc hS hi, sb2, ifb]
      cases h5 : rpg S i a c (vI t0 + nI d) with
      | true =>
        left
        rw [if_pos rfl]
        have hdt : t0 + d < 28 := by
          rcases Nat.lt_or_ge (t0 + d) 28 with h | h
          · exact h
          · rw [rpg_hi S i a c ht hd (by omega)] at h5; cases h5
        have e := vI_add t0 ht d hd
        rw [if_pos hdt] at e
        rw [e] at h5 ⊢
        rw [rpu_eq S i a c t0 (v := t0 + d) (Or.inr ⟨by omega, h5, fun t h2 h3 => ?_⟩), vv_ne (by omega)]
        have h4 : ¬ dst t0 t < d := fun h => by have h9 : rpg S i a c (vI t) = true := h3; rw [hP t h2 h] at h9; cases h9
        have h6 : t ≠ t0 - d ∨ ¬ d ≤ t0 := by
          by_cases hdt : d ≤ t0
          · left
            rintro rfl
            have e := vI_sub t0 ht d hd
            rw [if_pos hdt] at e
            have h3' : rpg S i a c (vI (t0 - d)) = true := h3
            rw [e, h3'] at h1
            cases h1
          · exact Or.inr hdt
        unfold ky2 dst at *
        split at h4 <;> split <;> (try split) <;> omega
      | false =>
        right
        rw [if_neg (by decide), nI_1]
        refine ⟨rfl, fun t h2 h3 => ?_⟩
        by_cases h4 : dst t0 t < d
        · exact hP t h2 h4
        · have h6 : dst t0 t = d := by omega
          by_cases h7 : t0 ≤ t
          · have e := vI_add t0 ht d hd
            have h8 : t0 + d = t := by unfold dst at h6; rw [if_pos h7] at h6; omega
            rw [h8, if_pos h2] at e
            rw [← e]; exact h5
          · have e := vI_sub t0 ht d hd
            have h8 : t0 - d = t ∧ d ≤ t0 := by unfold dst at h6; rw [if_neg h7] at h6; omega
            rw [h8.1, if_pos h8.2] at e
            rw [← e]; exact h1
-- the reference
theorem FOK.set {f : Ft} (h : FOK f) {i : Nat} (hi : i < f.1) {k : Int32} (hk : kOK (f.2 i).1 k = true) : FOK (f_set f i k) := by
  refine ⟨h.1, fun j hj => ?_⟩
  simp only [f_set] at hj ⊢
  split
  · obtain ⟨h1, h2, h3, h4⟩ := h.2 i hi
    exact ⟨h1, h2, h3, hk⟩
  · exact h.2 j hj
theorem OKS.set (h : OKS S) {i : Nat} (hi : i < S.2.2.1.1) {k : Int32} (hk : kOK (S.2.2.1.2 i).1 k = true) : OKS (s_f S (f_set S.2.2.1 i k)) := ⟨h.1, h.2.1, h.2.2.1.set hi hk, h.2.2.2⟩
theorem MS.set (h : MS τ 1 0 S) (hS : OKS S) {i : Nat} (hi : i < S.2.2.1.1) (k : Int32) : MS (fw_u τ 1 (26 + 4 * i) k) 1 0 (s_f S (f_set S.2.2.1 i k)) := by
  obtain ⟨h1, h2, h3, h4⟩ := h
  obtain ⟨k1, k2, k3, k4⟩ := hS
  have l1 := k1.1
  have l2 := k2.1
  have l3 := k3.1
  have l4 := k4.1
  refine ⟨h1.cong (fw_uo _ _ _ _ _ (by omega)) (fun j hj => fw_uo _ _ _ _ _ (by omega)), h2.cong (fw_uo _ _ _ _ _ (by omega)) (fun j hj => fw_uo _ _ _ _ _ (by omega)), ⟨(fw_uo _ _ _ _ _ (by omega)).trans h3.1, fun j hj => ?_⟩, h4.cong (fw_uo _ _ _ _ _ (by omega)) (fun j hj => fw_uo _ _ _ _ _ (by omega))⟩
  obtain ⟨e1, e2, e3, e4⟩ := h3.2 j hj
  by_cases hji : j = i
  · subst hji
    have ef : (s_f S (f_set S.2.2.1 j k)).2.2.1.2 j = e_set (S.2.2.1.2 j) k := by simp [s_f, f_set]
    rw [ef]
    refine ⟨(fw_uo _ _ _ _ _ (by omega)).trans e1, (fw_uo _ _ _ _ _ (by omega)).trans e2, (fw_uo _ _ _ _ _ (by omega)).trans e3, ?_⟩
    rw [show 0 + 22 + 1 + 4 * j + 3 = 26 + 4 * j by omega]
    exact fw_us _ _ _ _
  · have ef : (s_f S (f_set S.2.2.1 i k)).2.2.1.2 j = S.2.2.1.2 j := by simp [s_f, f_set, hji]
    rw [ef]
    exact ⟨(fw_uo _ _ _ _ _ (by omega)).trans e1, (fw_uo _ _ _ _ _ (by omega)).trans e2, (fw_uo _ _ _ _ _ (by omega)).trans e3, (fw_uo _ _ _ _ _ (by omega)).trans e4⟩
theorem fw_back (τ : fw_T) (id k : Nat) (v w : Int32) (h : fw_g τ id k = w) : fw_u (fw_u τ id k v) id k w = τ := by
  unfold fw_u
  refine Prod.ext (funext fun a => funext fun l => ?_) rfl
  simp only
  split
  · rename_i hc
    rw [hc.1, hc.2]
    exact h.symm
  · rfl
theorem m_repaired (hm : MS τ 1 0 S) (hS : OKS S) {i a c t0 : Nat} (hi : i < S.2.2.1.1) (ha : a < 10) (hc10 : c < 10) (ht : t0 < 28) (hk : (S.2.2.1.2 i).2.2.2 = vI t0) : pX8_repairedConstant_56 400 (nI a) (nI c) (nI i) (nI (26 + 4 * i)) (vI t0) (-10001 : Int32) (100 : Int32) (-9 : Int32) τ = some (vv (rpu S i a c t0 28), τ) := by
  have hs := hS.2.2.1.1
  have h1 := (hS.2.2.1.2 i hi).1
  have e1 := (hm.2.2.1.2 i hi).1
  have e4 := (hm.2.2.1.2 i hi).2.2.2
  have e4' : fw_g τ 1 (26 + 4 * i) = vI t0 := by rw [← hk, ← e4]; congr 1; omega
  refine lp_all (fun n t => pX8_repairedConstant_56 n (nI a) (nI c) (nI i) (nI (26 + 4 * i)) (vI t0) (vv (rpu S i a c t0 t)) (if rpu S i a c t0 t = 64 then 100 else nI (dst t0 (rpu S i a c t0 t))) (vI t) τ) (N := 28) ?_ ?_ 400 0 (Nat.zero_le _) (by omega)
  · intro n
    rw [pX8_repairedConstant_56, if_pos (by decide)]
  · intro n t htt
    have hst := vI_1 t htt
    obtain ⟨hf1, hf2⟩ := vI_far t0 ht t htt
    have hmin := uf_ok (ky2 t0) (fun t => rpg S i a c (vI t)) t (by omega)
    have e : rpu S i a c t0 (t + 1) = if (rpu S i a c t0 t = 64 ∨ ky2 t0 t < ky2 t0 (rpu S i a c t0 t)) ∧ rpg S i a c (vI t) = true then t else rpu S i a c t0 t := rfl
    have hub : rpu S i a c t0 t = 64 ∨ rpu S i a c t0 t < t := by
      rcases hmin with h | h
      · exact Or.inl h.1
      · exact Or.inr h.1
    have hdd : ∀ x, x < 28 → dst t0 x < 28 := by intro x hx; unfold dst; split <;> omega
    have hdec : (if rpu S i a c t0 t = 64 then (100 : Int32) else nI (dst t0 (rpu S i a c t0 t))) ≤ nI (dst t0 t) ↔ ¬ (rpu S i a c t0 t = 64 ∨ ky2 t0 t < ky2 t0 (rpu S i a c t0 t)) := by
      have := hdd t htt
      rcases hub with h | h
      · rw [if_pos h, show (100 : Int32) = nI 100 from rfl, leI (by omega) (by omega)]
        simp [h]; omega
      · have h7 := hdd _ (show rpu S i a c t0 t < 28 by omega)
        rw [if_neg (by omega), leI (by omega) (by omega)]
        unfold ky2
        omega
    have key : pX8_repairedConstant_83 (fun a0 a1 a2 a3 a4 a5 a6 a7 σ => pX8_repairedConstant_56 n a0 a1 a2 a3 a4 a5 a6 a7 σ) (nI a) (nI c) (nI i) (nI (26 + 4 * i)) (vI t0) (vv (rpu S i a c t0 t)) (if rpu S i a c t0 t = 64 then 100 else nI (dst t0 (rpu S i a c t0 t))) (vI t) (nI (dst t0 t)) τ = pX8_repairedConstant_56 n (nI a) (nI c) (nI i) (nI (26 + 4 * i)) (vI t0) (vv (rpu S i a c t0 (t + 1))) (if rpu S i a c t0 (t + 1) = 64 then 100 else nI (dst t0 (rpu S i a c t0 (t + 1)))) (vI (t + 1)) τ := by
      unfold pX8_repairedConstant_83
      rw [show (0 : Int32) = nI 0 from rfl, m_of (by omega) (by omega), sb2, show 23 + 4 * i + 0 = 0 + 22 + 1 + 4 * i by omega, e1, m_isConstant h1, sb2, show nI 0 = (0 : Int32) from rfl, ifb, hst.1]
      cases hkk : kOK (S.2.2.1.2 i).1 (vI t) with
      | false =>
        have hr : rpg S i a c (vI t) = false := by unfold rpg; rw [hkk]; rfl
        rw [hr, if_neg (by simp)] at e
        rw [if_neg (by decide), e]
      | true =>
        rw [if_pos rfl]
        by_cases hle : (if rpu S i a c t0 t = 64 then (100 : Int32) else nI (dst t0 (rpu S i a c t0 t))) ≤ nI (dst t0 t)
        · rw [if_pos hle]
          rw [if_neg (fun h => (hdec.mp hle) h.1)] at e
          rw [e]
        · have hlt : rpu S i a c t0 t = 64 ∨ ky2 t0 t < ky2 t0 (rpu S i a c t0 t) := Classical.byContradiction fun h => hle (hdec.mpr h)
          rw [if_neg hle, wrI (by omega) (by omega), sbd, m_isAnswer (hm.set hS hi (vI t)) (hS.set hi hkk) ha hc10, sb2, ifb]
          have hr : rpg S i a c (vI t) = decide (0 < MC (s_f S (f_set S.2.2.1 i (vI t))) 0 a c) := by unfold rpg; rw [hkk, Bool.true_and]
          rw [← hr]
          cases hg : rpg S i a c (vI t) with
          | false =>
            rw [hg, if_neg (by simp)] at e
            rw [if_neg (by decide)]
            unfold pX8_repairedConstant_135
            rw [bIf, if_pos rfl, wrI (by omega) (by omega), sbd, fw_back _ _ _ _ _ e4', hst.1, e]
          | true =>
            rw [if_pos ⟨hlt, hg⟩] at e
            rw [if_pos rfl]
            unfold pX8_repairedConstant_135
            rw [if_neg (by decide), wrI (by omega) (by omega), sbd, fw_back _ _ _ _ _ e4', hst.1, e, vv_ne htt, if_neg (by omega)]
    rw [pX8_repairedConstant_56, if_neg hst.2]
    by_cases hc : t0 ≤ t
    · rw [if_pos hc] at hf2
      rw [if_pos (hf1.mpr hc), hf2, show t - t0 = dst t0 t by unfold dst; rw [if_pos hc]]
      exact key
    · rw [if_neg hc] at hf2
      rw [if_neg (fun h => hc (hf1.mp h)), hf2, show t0 - t = dst t0 t by unfold dst; rw [if_neg hc]]
      exact key
end
