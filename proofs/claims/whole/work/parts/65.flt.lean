/-! ===== filters put in, taken out, changed ===== -/
def f_push (f : Ft) (e : Fe) : Ft := (f.1 + 1, fun i => if i = f.1 then e else f.2 i)
def f_del (f : Ft) (k : Nat) : Ft := (f.1 - 1, fun i => if i < k then f.2 i else f.2 (i + 1))
theorem FOK.push {f : Ft} {e : Fe} (h : FOK f) (he : eOK e) (hs : f.1 < 6) : FOK (f_push f e) := by
  refine ⟨hs, fun i hi => ?_⟩
  simp only [f_push] at hi ⊢
  split
  · exact he
  · exact h.2 i (by omega)
theorem FOK.del {f : Ft} {k : Nat} (h : FOK f) (hk : k < f.1) : FOK (f_del f k) := by
  refine ⟨by have := h.1; simp only [f_del]; omega, fun i hi => ?_⟩
  simp only [f_del] at hi ⊢
  split
  · exact h.2 i (by omega)
  · exact h.2 (i + 1) (by omega)
theorem CS.tf {σ σ' : fw_T} {S : St} {f : Ft} (h : CS σ 12 S) (hp : FC σ' 17 f) (hf : ∀ j, (j < 17 ∨ 22 ≤ j) → fw_g σ' j = fw_g σ j) : CS σ' 12 (s_f S f) :=
  ⟨h.1.cong (by rw [hf 13 (by omega)]) (hf 14 (by omega)), h.2.1.cong (by rw [hf 15 (by omega)]) (hf 16 (by omega)), hp, h.2.2.2.cong (by rw [hf 22 (by omega)]) (hf 23 (by omega))⟩
theorem MS.tf {τ τ' : fw_T} {S : St} {f : Ft} (h : MS τ 1 0 S) (hS : OKS S) (hp : FM τ' 1 22 f) (hf : ∀ l, (l < 22 ∨ 47 ≤ l) → fw_g τ' 1 l = fw_g τ 1 l) : MS τ' 1 0 (s_f S f) := by
  have l1 := hS.1.1
  have l2 := hS.2.1.1
  have l4 := hS.2.2.2.1
  exact ⟨h.1.cong (hf _ (by omega)) (fun i hi => hf _ (by omega)), h.2.1.cong (hf _ (by omega)) (fun i hi => hf _ (by omega)), hp, h.2.2.2.cong (hf _ (by omega)) (fun i hi => hf _ (by omega))⟩
theorem rLm.tf {σ σ' : fw_T} (h : rLm σ) (hf : ∀ j, (j < 17 ∨ 22 ≤ j) → fw_g σ' j = fw_g σ j) : rLm σ' := ⟨by rw [hf 13 (by omega)]; exact h.1, by rw [hf 15 (by omega)]; exact h.2.1, by rw [hf 22 (by omega)]; exact h.2.2⟩
theorem OKS.tf {S : St} {f : Ft} (h : OKS S) (hf : FOK f) : OKS (s_f S f) := ⟨h.1, h.2.1, hf, h.2.2.2⟩
def inB (lo hi x : Int32) : Bool := decide (lo ≤ x) && decide (x ≤ hi)
theorem inB_of {m : Nat} (hm : m < 1000) {x : Int32} (h : inB 0 (nI m) x = true) : ∃ a, a ≤ m ∧ x = nI a := by
  simp only [inB, Bool.and_eq_true, decide_eq_true_eq] at h
  obtain ⟨j, hj, rfl⟩ := nI_of (x := x) (fun hc => by
    have h1 := Int32.le_iff_toInt_le.mp h.1
    have h2 := Int32.lt_iff_toInt_lt.mp hc
    omega)
  have h2 := h.2
  rw [nI_leI hj (by omega)] at h2
  exact ⟨j, h2, rfl⟩
theorem m_inB (x lo hi : Int32) (σ : fw_T) : pX8_in x lo hi σ = some (bI (inB lo hi x), σ) := m_in x lo hi σ
theorem cmpB (lo hi x : Int32) {α : Type} (p q : α) : (if x < lo then p else if hi < x then p else q) = if inB lo hi x = true then q else p := by
  unfold inB
  by_cases h1 : x < lo
  · have : ¬ lo ≤ x := nle.mpr h1
    simp [h1, this]
  · have h1' := nlt.mp h1
    by_cases h2 : hi < x
    · have : ¬ x ≤ hi := nle.mpr h2
      simp [h1, h2, this]
    · have := nlt.mp h2
      simp [h1, h1', h2, this]
def colB (x y : Int32) : Bool := inB 0 2 x && inB 0 (if x = 2 then 2 else 1) y
theorem c_isColumn (x y : Int32) (σ : fw_T) : pX0_isColumn x y σ = some (bI (colB x y), σ) := by
  unfold pX0_isColumn colB inB
  by_cases h1 : x < 0
  · have : ¬ (0 : Int32) ≤ x := nle.mpr h1
    rw [if_pos h1]
    simp [this, bI, rz0]
  · have h1' := nlt.mp h1
    rw [if_neg h1]
    by_cases h2 : x ≤ 2
    · rw [if_pos h2]
      by_cases h3 : y < 0
      · have : ¬ (0 : Int32) ≤ y := nle.mpr h3
        rw [if_pos h3]
        simp [this, bI, rz0]
      · have h3' := nlt.mp h3
        rw [if_neg h3]
        by_cases h4 : x = 2
        · rw [if_pos h4, if_pos h4]
          by_cases h5 : (2 : Int32) < y
          · have : ¬ y ≤ 2 := nle.mpr h5
            rw [if_pos h5]
            simp [this, bI, rz0]
          · have h5' := nlt.mp h5
            rw [if_neg h5]
            simp [h1', h2, h3', h5', bI, rz1]
        · rw [if_neg h4, if_neg h4]
          by_cases h5 : (1 : Int32) < y
          · have : ¬ y ≤ 1 := nle.mpr h5
            rw [if_pos h5]
            simp [this, bI, rz0]
          · have h5' := nlt.mp h5
            rw [if_neg h5]
            simp [h1', h2, h3', h5', bI, rz1]
    · rw [if_neg h2]
      simp [h2, bI, rz0]
theorem FC.push {σ : fw_T} {f : Ft} (hf : FC σ 17 f) (e : Fe) : FC (fw_u (fw_u (fw_u (fw_u (fw_u σ 18 f.1 (nI e.1)) 19 f.1 (nI e.2.1)) 20 f.1 (nI e.2.2.1)) 21 f.1 e.2.2.2) 17 4 (nI (f.1 + 1))) 17 (f_push f e) := by
  refine ⟨fw_us _ _ _ _, fun i hi => ?_⟩
  simp only [f_push] at hi ⊢
  have e1 : fw_g (fw_u (fw_u (fw_u (fw_u (fw_u σ 18 f.1 (nI e.1)) 19 f.1 (nI e.2.1)) 20 f.1 (nI e.2.2.1)) 21 f.1 e.2.2.2) 17 4 (nI (f.1 + 1))) 18 = upd (fw_g σ 18) f.1 (nI e.1) := by
    rw [fw_gn _ (by decide), fw_gn _ (by decide), fw_gn _ (by decide), fw_gn _ (by decide), fw_gu]
  have e2 : fw_g (fw_u (fw_u (fw_u (fw_u (fw_u σ 18 f.1 (nI e.1)) 19 f.1 (nI e.2.1)) 20 f.1 (nI e.2.2.1)) 21 f.1 e.2.2.2) 17 4 (nI (f.1 + 1))) 19 = upd (fw_g σ 19) f.1 (nI e.2.1) := by
    rw [fw_gn _ (by decide), fw_gn _ (by decide), fw_gn _ (by decide), fw_gu, fw_gn _ (by decide)]
  have e3 : fw_g (fw_u (fw_u (fw_u (fw_u (fw_u σ 18 f.1 (nI e.1)) 19 f.1 (nI e.2.1)) 20 f.1 (nI e.2.2.1)) 21 f.1 e.2.2.2) 17 4 (nI (f.1 + 1))) 20 = upd (fw_g σ 20) f.1 (nI e.2.2.1) := by
    rw [fw_gn _ (by decide), fw_gn _ (by decide), fw_gu, fw_gn _ (by decide), fw_gn _ (by decide)]
  have e4 : fw_g (fw_u (fw_u (fw_u (fw_u (fw_u σ 18 f.1 (nI e.1)) 19 f.1 (nI e.2.1)) 20 f.1 (nI e.2.2.1)) 21 f.1 e.2.2.2) 17 4 (nI (f.1 + 1))) 21 = upd (fw_g σ 21) f.1 e.2.2.2 := by
    rw [fw_gn _ (by decide), fw_gu, fw_gn _ (by decide), fw_gn _ (by decide), fw_gn _ (by decide)]
  rw [show 17 + 1 = 18 from rfl, show 17 + 2 = 19 from rfl, show 17 + 3 = 20 from rfl, show 17 + 4 = 21 from rfl, e1, e2, e3, e4]
  simp only [upd]
  by_cases hc : i = f.1
  · simp [hc]
  · simp only [if_neg hc]
    exact hf.2 i (by omega)
theorem FM.push {τ : fw_T} {f : Ft} (hf : FM τ 1 22 f) (hs : f.1 < 6) (e : Fe) : FM (fw_u (fw_u (fw_u (fw_u (fw_u τ 1 (23 + 4 * f.1) (nI e.1)) 1 (23 + 4 * f.1 + 1) (nI e.2.1)) 1 (23 + 4 * f.1 + 2) (nI e.2.2.1)) 1 (23 + 4 * f.1 + 3) e.2.2.2) 1 22 (nI (f.1 + 1))) 1 22 (f_push f e) := by
  refine ⟨fw_us _ _ _ _, fun i hi => ?_⟩
  simp only [f_push] at hi ⊢
  by_cases hc : i = f.1
  · subst hc
    rw [if_pos rfl]
    refine ⟨?_, ?_, ?_, ?_⟩
    · rw [fw_uo _ _ _ _ _ (by omega), fw_uo _ _ _ _ _ (by omega), fw_uo _ _ _ _ _ (by omega), fw_uo _ _ _ _ _ (by omega), show 22 + 1 + 4 * f.1 = 23 + 4 * f.1 by omega, fw_us]
    · rw [fw_uo _ _ _ _ _ (by omega), fw_uo _ _ _ _ _ (by omega), fw_uo _ _ _ _ _ (by omega), show 22 + 1 + 4 * f.1 + 1 = 23 + 4 * f.1 + 1 by omega, fw_us]
    · rw [fw_uo _ _ _ _ _ (by omega), fw_uo _ _ _ _ _ (by omega), show 22 + 1 + 4 * f.1 + 2 = 23 + 4 * f.1 + 2 by omega, fw_us]
    · rw [fw_uo _ _ _ _ _ (by omega), show 22 + 1 + 4 * f.1 + 3 = 23 + 4 * f.1 + 3 by omega, fw_us]
  · obtain ⟨e1, e2, e3, e4⟩ := hf.2 i (by omega)
    have fr : ∀ l, (l < 22 ∨ 22 < l) → l < 23 + 4 * f.1 → fw_g (fw_u (fw_u (fw_u (fw_u (fw_u τ 1 (23 + 4 * f.1) (nI e.1)) 1 (23 + 4 * f.1 + 1) (nI e.2.1)) 1 (23 + 4 * f.1 + 2) (nI e.2.2.1)) 1 (23 + 4 * f.1 + 3) e.2.2.2) 1 22 (nI (f.1 + 1))) 1 l = fw_g τ 1 l := fun l h1 h2 => by
      rw [fw_uo _ _ _ _ _ (by omega), fw_uo _ _ _ _ _ (by omega), fw_uo _ _ _ _ _ (by omega), fw_uo _ _ _ _ _ (by omega), fw_uo _ _ _ _ _ (by omega)]
    rw [if_neg hc]
    exact ⟨(fr _ (by omega) (by omega)).trans e1, (fr _ (by omega) (by omega)).trans e2, (fr _ (by omega) (by omega)).trans e3, (fr _ (by omega) (by omega)).trans e4⟩
theorem c_fins {S : St} {σ : fw_T} (hc : CS σ 12 S) (hS : OKS S) (x y z k : Int32) : pX0_insert 17 x y z k σ = if colB x y = true then (if inB 0 3 z = true then fw_b2 (pX0_isConstant x k σ) fun w6 τ5 => if w6 = 0 then some ((-10002 : Int32), τ5) else if nI S.2.2.1.1 < (6 : Int32) then some (nI S.2.2.1.1, fw_u (fw_u (fw_u (fw_u (fw_u σ 18 S.2.2.1.1 x) 19 S.2.2.1.1 y) 20 S.2.2.1.1 z) 21 S.2.2.1.1 k) 17 4 (nI (S.2.2.1.1 + 1))) else some ((-10004 : Int32), τ5) else some (-10002, σ)) else some (-10002, σ) := by
  have hs := hS.2.2.1.1
  have h4 : fw_g σ 17 4 = nI S.2.2.1.1 := hc.2.2.1.1
  have hcon : ∀ x k, ∃ w, pX0_isConstant x k σ = some (w, σ) := by
    intro x k
    unfold pX0_isConstant
    split
    · split
      · exact ⟨_, rz0 σ⟩
      · split
        · exact ⟨_, rz0 σ⟩
        · exact ⟨_, rz1 σ⟩
    · rw [c_isValue, sb2, rzb]
      exact ⟨_, rfl⟩
  unfold pX0_insert
  rw [c_isColumn, sb2, ifb]
  cases colB x y with
  | false => rw [if_neg (by decide), if_neg (by decide)]
  | true =>
    rw [if_pos rfl, if_pos rfl]
    rw [cmpB]
    cases inB 0 3 z with
    | false => rw [if_neg (by decide), if_neg (by decide)]
    | true =>
      rw [if_pos rfl, if_pos rfl]
      obtain ⟨w, ew⟩ := hcon x k
      rw [ew, sb2, sb2]
      by_cases hw : w = 0
      · rw [if_pos hw, if_pos hw]
      · rw [if_neg hw, if_neg hw, h4]
        by_cases hlt : nI S.2.2.1.1 < (6 : Int32)
        · rw [if_pos hlt, if_pos hlt]
          have hlt' : S.2.2.1.1 < 6 := by rwa [show (6 : Int32) = nI 6 from rfl, ltI (by omega) (by omega)] at hlt
          rw [wrI (by omega) (by omega), sbd, fw_gn _ (by decide), h4, wrI (by omega) (by omega), sbd, fw_gn _ (by decide), fw_gn _ (by decide), h4, wrI (by omega) (by omega), sbd, fw_gn _ (by decide), fw_gn _ (by decide), fw_gn _ (by decide), h4, wrI (by omega) (by omega), sbd, fw_us, fw_gn _ (by decide), fw_gn _ (by decide), fw_gn _ (by decide), fw_gn _ (by decide), h4, nI_1, show (1 : Int32) = nI 1 from rfl, subI (by omega), Nat.add_sub_cancel]
        · rw [if_neg hlt, if_neg hlt]
theorem m_fins (x y z k : Int32) (τ : fw_T) : pX8_addFilter x y z k τ = if colB x y = true then (if inB 0 3 z = true then fw_b2 (pX8_isConstant x k τ) fun w21 τ20 =>
      if w21 = 0 then
        pX8_fail (-10002 : Int32) τ20
      else
        (fw_rd τ20 1 52 (22 : Int32)).bind fun w22 =>
        if w22 = (6 : Int32) then
          pX8_fail (-10004 : Int32) τ20
        else
          (pX8_note τ20).bind fun τ25 =>
          (fw_rd τ25 1 52 (22 : Int32)).bind fun w26 =>
          (fw_wr τ25 1 52 ((23 : Int32) + ((4 : Int32) * w26)) x).bind fun τ28 =>
          (fw_wr τ28 1 52 (((23 : Int32) + ((4 : Int32) * w26)) + (1 : Int32)) y).bind fun τ30 =>
          (fw_wr τ30 1 52 (((23 : Int32) + ((4 : Int32) * w26)) + (2 : Int32)) z).bind fun τ32 =>
          (fw_wr τ32 1 52 (((23 : Int32) + ((4 : Int32) * w26)) + (3 : Int32)) k).bind fun τ34 =>
          (fw_rd τ34 1 52 (22 : Int32)).bind fun w36 =>
          (fw_wr τ34 1 52 (22 : Int32) (w36 + (1 : Int32))).bind fun τ38 =>
          (fw_rd τ38 1 52 (22 : Int32)).bind fun w40 =>
          some ((w40 - (1 : Int32)), τ38) else pX8_fail (-10002) τ) else pX8_fail (-10002) τ := by
  unfold pX8_addFilter pX8_addFilter_21 colB
  simp only [b2_id]
  rw [m_inB, sb2, ifb]
  cases inB 0 2 x with
  | false => rfl
  | true =>
    rw [if_pos rfl, Bool.true_and]
    by_cases h2 : x = 2
    · rw [if_pos h2, if_pos h2, m_inB, sb2, ifb]
      cases inB 0 2 y with
      | false => rfl
      | true =>
        rw [if_pos rfl, if_pos rfl, m_inB, sb2, ifb]
    · rw [if_neg h2, if_neg h2, m_inB, sb2, ifb]
      cases inB 0 1 y with
      | false => rfl
      | true =>
        rw [if_pos rfl, if_pos rfl, m_inB, sb2, ifb]
theorem op_fins {S : St} (hS : OKS S) (x y z k : Int32) : OpN (pX0_insert 17 x y z k) (pX8_addFilter x y z k) S := by
  have hs := hS.2.2.1.1
  cases h1 : colB x y with
  | false => exact op_sameN hS (r := -10002) (by decide) (fun σ hc _ => by rw [c_fins hc hS, h1]; rfl) (fun τ _ => by rw [m_fins, h1]; rfl)
  | true =>
    cases h2 : inB 0 3 z with
    | false => exact op_sameN hS (r := -10002) (by decide) (fun σ hc _ => by rw [c_fins hc hS, h1, h2]; rfl) (fun τ _ => by rw [m_fins, h1, h2]; rfl)
    | true =>
      have h1' := h1
      unfold colB at h1'
      rw [Bool.and_eq_true] at h1'
      obtain ⟨s, hss, rfl⟩ := inB_of (m := 2) (by omega) h1'.1
      obtain ⟨o, ho, rfl⟩ := inB_of (m := 3) (by omega) h2
      have hcol : ∃ c, y = nI c ∧ (if s = 2 then c ≤ 2 else c ≤ 1) := by
        by_cases h5 : s = 2
        · rw [h5] at h1'
          obtain ⟨c, hc, e⟩ := inB_of (m := 2) (by omega) h1'.2
          exact ⟨c, e, by rw [if_pos h5]; exact hc⟩
        · have h6 := h1'.2
          rw [if_neg (by rw [show (2 : Int32) = nI 2 from rfl, eqI (by omega) (by omega)]; exact h5)] at h6
          obtain ⟨c, hc, e⟩ := inB_of (m := 1) (by omega) h6
          exact ⟨c, e, by rw [if_neg h5]; exact hc⟩
      obtain ⟨c, rfl, hc⟩ := hcol
      have ec : ∀ σ, CS σ 12 S → pX0_insert 17 (nI s) (nI c) (nI o) k σ = if kOK s k = true then (if nI S.2.2.1.1 < (6 : Int32) then some (nI S.2.2.1.1, fw_u (fw_u (fw_u (fw_u (fw_u σ 18 S.2.2.1.1 (nI s)) 19 S.2.2.1.1 (nI c)) 20 S.2.2.1.1 (nI o)) 21 S.2.2.1.1 k) 17 4 (nI (S.2.2.1.1 + 1))) else some ((-10004 : Int32), σ)) else some (-10002, σ) := fun σ hcs => by
        rw [c_fins hcs hS, h1, h2, if_pos rfl, if_pos rfl, c_isConstant hss, sb2, ifb]
      cases h3 : kOK s k with
      | false =>
        refine op_sameN hS (r := -10002) (by decide) (fun σ hcs _ => by rw [ec σ hcs, h3]; rfl) (fun τ _ => ?_)
        rw [m_fins, h1, h2, if_pos rfl, if_pos rfl, m_isConstant hss, sb2, h3, bIf, if_pos rfl]
      | true =>
        have em : ∀ τ, MS τ 1 0 S → fw_g τ 1 22 = nI S.2.2.1.1 := fun τ hm => hm.2.2.1.1
        by_cases h4 : S.2.2.1.1 = 6
        · refine op_sameN hS (r := -10004) (by decide) (fun σ hcs _ => by rw [ec σ hcs, h3, if_pos rfl, if_neg (by rw [show (6 : Int32) = nI 6 from rfl, ltI (by omega) (by omega)]; omega)]) (fun τ hm => ?_)
          rw [m_fins, h1, h2, if_pos rfl, if_pos rfl, m_isConstant hss, sb2, h3, bIt, if_neg (by decide), show (22 : Int32) = nI 22 from rfl, rdI (by omega) (by omega), sbd, em τ hm, if_pos (by rw [h4]; rfl)]
        · have eok : eOK (s, c, o, k) := ⟨hss, hc, ho, h3⟩
          refine ⟨nI S.2.2.1.1, s_f S (f_push S.2.2.1 (s, c, o, k)), hS.tf (hS.2.2.1.push eok (by omega)), (fun h => noE (by omega) h), fun σ hcs hl => ?_, fun τ hm => ⟨fun h => noE (by omega) h, fun _ τ1 n1 hm1 => ?_⟩, fun _ => nI_pos (by omega)⟩
          · have fr : ∀ j, (j < 17 ∨ 22 ≤ j) → fw_g (fw_u (fw_u (fw_u (fw_u (fw_u σ 18 S.2.2.1.1 (nI s)) 19 S.2.2.1.1 (nI c)) 20 S.2.2.1.1 (nI o)) 21 S.2.2.1.1 k) 17 4 (nI (S.2.2.1.1 + 1))) j = fw_g σ j := fun j hj => by
              rw [fw_gn _ (by omega), fw_gn _ (by omega), fw_gn _ (by omega), fw_gn _ (by omega), fw_gn _ (by omega)]
            exact ⟨_, by rw [ec σ hcs, h3, if_pos rfl, if_pos (by rw [show (6 : Int32) = nI 6 from rfl, ltI (by omega) (by omega)]; omega)], hcs.tf (FC.push (show FC σ 17 S.2.2.1 from hcs.2.2.1) (s, c, o, k)) fr, hl.tf fr, fun j hj => fr j (by omega)⟩
          · have fm : FM τ1 1 22 S.2.2.1 := hm1.2.2.1
            refine ⟨_, ?_, hm1.tf hS (fm.push (by omega) (s, c, o, k)) (fun l hl => by rw [fw_uo _ _ _ _ _ (by omega), fw_uo _ _ _ _ _ (by omega), fw_uo _ _ _ _ _ (by omega), fw_uo _ _ _ _ _ (by omega), fw_uo _ _ _ _ _ (by omega)]), fun j hj => by rw [fw_gn _ hj, fw_gn _ hj, fw_gn _ hj, fw_gn _ hj, fw_gn _ hj]⟩
            rw [m_fins, h1, h2, if_pos rfl, if_pos rfl, m_isConstant hss, sb2, h3, bIt, if_neg (by decide), show (22 : Int32) = nI 22 from rfl, rdI (by omega) (by omega), sbd, em τ hm, if_neg (by rw [show (6 : Int32) = nI 6 from rfl, eqI (by omega) (by omega)]; exact h4), n1, sbd, rdI (by omega) (by omega), sbd, fm.1, show (4 : Int32) = nI 4 from rfl, show (23 : Int32) = nI 23 from rfl, show (1 : Int32) = nI 1 from rfl, show (2 : Int32) = nI 2 from rfl, show (3 : Int32) = nI 3 from rfl, mulI, nI_add, nI_add, nI_add, nI_add, wrI (by omega) (by omega), sbd, wrI (by omega) (by omega), sbd, wrI (by omega) (by omega), sbd, wrI (by omega) (by omega), sbd, rdI (by omega) (by omega), sbd, fw_uo _ _ _ _ _ (by omega), fw_uo _ _ _ _ _ (by omega), fw_uo _ _ _ _ _ (by omega), fw_uo _ _ _ _ _ (by omega), fm.1, nI_add, wrI (by omega) (by omega), sbd, rdI (by omega) (by omega), sbd, fw_us, subI (by omega), Nat.add_sub_cancel]
theorem sim_addFilter : sm4 sim_Rel pX7_addFilter pX8_addFilter := fun x y z k σ τ h => sim_edit (f := pX0_insert 17 x y z k) (g := pX8_addFilter x y z k) h (fun S hS => (op_fins hS x y z k).op)
