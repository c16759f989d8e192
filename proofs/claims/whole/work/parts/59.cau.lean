/-! ===== the reference's cause ===== -/
set_option maxRecDepth 100000 in
theorem clrI : ∀ m, m < 1024 → ∀ b, b < 10 → nI m &&& ((1 : Int32) <<< (nI b &&& 31) ^^^ (-1 : Int32)) = nI (m &&& (1023 ^^^ 2 ^ b)) := by decide +kernel
theorem andm1 : ∀ m, m < 1024 → nI m &&& (-1 : Int32) = nI m := by decide +kernel
theorem clr_mk (q : Nat → Bool) {b : Nat} : mk q 10 &&& (1023 ^^^ 2 ^ b) = mk (fun i => q i && decide (i ≠ b)) 10 := by
  apply Nat.eq_of_testBit_eq
  intro i
  rw [Nat.testBit_and, Nat.testBit_xor, mk_bit, mk_bit, Nat.testBit_two_pow]
  have e : (1023 : Nat) = 2 ^ 10 - 1 := by decide
  rw [e, Nat.testBit_two_pow_sub_one]
  by_cases hi : i < 10
  · by_cases hb : b = i
    · subst hb; simp [hi]
    · have : i ≠ b := fun h => hb h.symm
      simp [hi, hb, this]
  · simp [hi]
section
variable {τ : fw_T} {S : St}
def stp (S : St) (a c f : Nat) (p : Nat → Bool) (b : Nat) : Nat → Bool := fun i => p i && (decide (b ≤ i) || e_acc (S.2.2.1.2 f) a i c)
theorem m_drop_in (hm : MS τ 1 0 S) (hS : OKS S) {a c f st : Nat} (hf : f < S.2.2.1.1) (p : Nat → Bool) (K : Int32 → Int32 → Int32 → Int32 → fw_T → Option (Int32 × fw_T)) : pX8_dropper_29 K 400 (nI st) (nI a) (nI c) (nI f) 0 (rmn τ (mk p 10)) = (if mk (fun b => p b && e_acc (S.2.2.1.2 f) a b c) 10 = 0 then some (nI (10 + f), rmn τ 0) else K (nI st) (nI a) (nI c) (nI (f + 1)) (rmn τ (mk (fun b => p b && e_acc (S.2.2.1.2 f) a b c) 10))) := by
  have e0 : mk p 10 = mk (stp S a c f p 0) 10 := mk_cong (fun i _ => by simp [stp])
  have e10 : mk (stp S a c f p 10) 10 = mk (fun b => p b && e_acc (S.2.2.1.2 f) a b c) 10 := mk_cong (fun i hi => by
    have : ¬ 10 ≤ i := by omega
    simp [stp, this])
  rw [e0, ← e10]
  refine lp_all (fun n b => pX8_dropper_29 K n (nI st) (nI a) (nI c) (nI f) (nI b) (rmn τ (mk (stp S a c f p b) 10))) (N := 10) ?_ ?_ 400 0 (Nat.zero_le _) (by omega)
  · intro n
    have hl := mk10 (stp S a c f p 10)
    rw [pX8_dropper_29, if_pos (by decide), rmn_g, nI_1]
    by_cases h1 : mk (stp S a c f p 10) 10 = 0
    · rw [if_pos (by rw [h1]; rfl), if_pos h1, h1, show (10 : Int32) = nI 10 from rfl, nI_add]
    · rw [if_neg (by rw [nI00 (by omega)]; exact h1), if_neg h1]
  · intro n b hb
    have hl := mk10 (stp S a c f p b)
    have hbit : (mk (stp S a c f p b) 10).testBit b = p b := by
      rw [mk_bit]
      simp [hb, stp]
    rw [pX8_dropper_29, if_neg (by rw [show (10 : Int32) = nI 10 from rfl, leI (by omega) (by omega)]; omega), rmn_g, nI_1]
    by_cases hp : p b = true
    · rw [if_pos ((shr1b _ hl b hb).mpr (by rw [hbit]; exact hp)), m_accepts (hm.rmn hS _).2.2.1 hS.2.2.1 hf, sb2, ifb]
      cases ha : e_acc (S.2.2.1.2 f) a b c with
      | true =>
        rw [if_pos rfl, andm1 _ hl, rmn_u]
        have e : mk (stp S a c f p (b + 1)) 10 = mk (stp S a c f p b) 10 := mk_cong (fun i _ => by
          unfold stp
          by_cases hi : i = b
          · subst hi; simp [ha]
          · have : b + 1 ≤ i ↔ b ≤ i := by omega
            simp [this])
        rw [e]
      | false =>
        rw [if_neg (by decide), clrI _ hl b hb, clr_mk, rmn_u]
        have e : mk (stp S a c f p (b + 1)) 10 = mk (fun i => stp S a c f p b i && decide (i ≠ b)) 10 := mk_cong (fun i _ => by
          unfold stp
          by_cases hi : i = b
          · subst hi
            have : ¬ i + 1 ≤ i := by omega
            simp [ha]
          · have : b + 1 ≤ i ↔ b ≤ i := by omega
            simp [this, hi])
        rw [e]
    · have hp' : p b = false := by simpa using hp
      rw [if_neg (fun h => hp (by rw [← hbit]; exact (shr1b _ hl b hb).mp h)), clrI _ hl b hb, clr_mk, rmn_u]
      have e : mk (stp S a c f p (b + 1)) 10 = mk (fun i => stp S a c f p b i && decide (i ≠ b)) 10 := mk_cong (fun i _ => by
        unfold stp
        by_cases hi : i = b
        · subst hi; simp [hp']
        · have : b + 1 ≤ i ↔ b ≤ i := by omega
          simp [this, hi])
      rw [e]
def drv (τ : fw_T) (S : St) (a c st : Nat) (p : Nat → Bool) : Option (Int32 × fw_T) := match efx S a c st p with
  | some f => some (nI (10 + f), rmn τ 0)
  | none => some (-10001, rmn τ (mk (fsx S a c st p S.2.2.1.1) 10))
theorem m_dropper (hm : MS τ 1 0 S) (hS : OKS S) {a c st : Nat} (hst : st ≤ 2) (p : Nat → Bool) : pX8_dropper (nI st) (nI a) (nI c) (rmn τ (mk p 10)) = drv τ S a c st p := by
  have hs := hS.2.2.1.1
  unfold pX8_dropper
  refine lp_up (fun n f => pX8_dropper_3 n (nI st) (nI a) (nI c) (nI f) (rmn τ (mk (fsx S a c st p f) 10))) (fun f => ∀ g, g < f → emp S a c st p g = false) (N := S.2.2.1.1) ?_ ?_ 400 0 (Nat.zero_le _) (fun g h => by omega) (by omega)
  · intro n hP
    have hm2 := hm.rmn hS (mk (fsx S a c st p S.2.2.1.1) 10)
    have e22 : fw_g (rmn τ (mk (fsx S a c st p S.2.2.1.1) 10)) 1 22 = nI S.2.2.1.1 := hm2.2.2.1.1
    rw [pX8_dropper_3, show (22 : Int32) = nI 22 from rfl, rdI (by omega) (by omega), sbd, e22, if_pos (by rw [leI (by omega) (by omega)]; omega)]
    unfold drv
    rw [efx_no hP]
  · intro n f hf hP
    have hm2 := hm.rmn hS (mk (fsx S a c st p f) 10)
    have e22 : fw_g (rmn τ (mk (fsx S a c st p f) 10)) 1 22 = nI S.2.2.1.1 := hm2.2.2.1.1
    have e1 := (hm2.2.2.1.2 f hf).1
    have hst1 := (hS.2.2.1.2 f hf).1
    have e : fsx S a c st p (f + 1) = if (S.2.2.1.2 f).1 = st then (fun b => fsx S a c st p f b && e_acc (S.2.2.1.2 f) a b c) else fsx S a c st p f := rfl
    rw [pX8_dropper_3, show (22 : Int32) = nI 22 from rfl, rdI (by omega) (by omega), sbd, e22, if_neg (by rw [leI (by omega) (by omega)]; omega), show (0 : Int32) = nI 0 from rfl, m_of (by omega) (by omega), sb2, show 23 + 4 * f + 0 = 0 + 22 + 1 + 4 * f by omega, e1]
    by_cases h1 : (S.2.2.1.2 f).1 = st
    · rw [if_pos h1] at e
      rw [if_pos (by rw [h1]), show nI 0 = (0 : Int32) from rfl, m_drop_in hm hS hf, ← e]
      by_cases h2 : mk (fsx S a c st p (f + 1)) 10 = 0
      · left
        rw [if_pos h2]
        unfold drv
        rw [efx_at hf (by simp [emp, h1, h2]) hP]
      · right
        rw [if_neg h2]
        refine ⟨rfl, fun g hg => ?_⟩
        by_cases he : g = f
        · subst he; simp [emp, h2]
        · exact hP g (by omega)
    · right
      rw [if_neg h1] at e
      rw [if_neg (by rw [eqI (by omega) (by omega)]; exact h1), nI_1, e]
      refine ⟨rfl, fun g hg => ?_⟩
      by_cases he : g = f
      · subst he; simp [emp, h1]
      · exact hP g (by omega)
theorem m_cause (hm : MS τ 1 0 S) (hS : OKS S) {a c : Nat} (ha : a < 10) (hc10 : c < 10) : ∃ m, pX8_cause (nI a) (nI c) τ = some (fcz S a c, rmn τ m) := by
  have l1 := mk10 (pL S a)
  have l2 := mk10 (pR S c)
  have l3 := mk10 (pJ S a c)
  -- the right half, from its loop on
  have right : ∀ x, x < 1024 → ∃ m, pX8_cause_84 400 (nI a) (nI c) (nI (mk (fsx S a c 0 (pL S a) S.2.2.1.1) 10)) 0 (rmn τ 0) = some ((if mk (pR S c) 10 = 0 then 1 else match efx S a c 1 (pR S c) with
    | some f => nI (10 + f)
    | none => if mk (pJ S a c) 10 = 0 then 2 else match efx S a c 2 (pJ S a c) with
      | some f => nI (10 + f)
      | none => 9), rmn τ m) := by
    intro x _
    have hfin : ∀ n, ∃ m, pX8_cause_84 (n + 1) (nI a) (nI c) (nI (mk (fsx S a c 0 (pL S a) S.2.2.1.1) 10)) (nI 10) (rmn τ (mk (pR S c) 10)) = some ((if mk (pR S c) 10 = 0 then 1 else match efx S a c 1 (pR S c) with
      | some f => nI (10 + f)
      | none => if mk (pJ S a c) 10 = 0 then 2 else match efx S a c 2 (pJ S a c) with
        | some f => nI (10 + f)
        | none => 9), rmn τ m) := by
      intro n
      rw [pX8_cause_84, if_pos (by decide), rmn_g]
      by_cases h2 : mk (pR S c) 10 = 0
      · rw [if_pos (by rw [h2]; rfl), if_pos h2]
        exact ⟨_, rfl⟩
      · rw [if_neg (by rw [nI00 (by omega)]; exact h2), if_neg h2, show (1 : Int32) = nI 1 from rfl, m_dropper hm hS (by omega)]
        unfold drv
        cases he2 : efx S a c 1 (pR S c) with
        | some f =>
          have := efx_lt he2
          have hs := hS.2.2.1.1
          try dsimp only
          rw [sb2, if_neg (nI_no (by omega))]
          exact ⟨_, rfl⟩
        | none =>
          try dsimp only
          rw [sb2, if_pos rfl, rmn_g, fa_and, mk_and, rmn_u, rmn_g]
          have ej : mk (fun i => fsx S a c 1 (pR S c) S.2.2.1.1 i && fsx S a c 0 (pL S a) S.2.2.1.1 i) 10 = mk (pJ S a c) 10 := mk_cong (fun i _ => Bool.and_comm _ _)
          rw [ej]
          by_cases h3 : mk (pJ S a c) 10 = 0
          · rw [if_pos (by rw [h3]; rfl), if_pos h3]
            exact ⟨_, rfl⟩
          · rw [if_neg (by rw [nI00 (by omega)]; exact h3), if_neg h3, show (2 : Int32) = nI 2 from rfl, m_dropper hm hS (by omega)]
            unfold drv
            cases he3 : efx S a c 2 (pJ S a c) with
            | some f =>
              have := efx_lt he3
              have hs := hS.2.2.1.1
              try dsimp only
              rw [sb2, if_neg (nI_no (by omega))]
              exact ⟨_, rfl⟩
            | none =>
              try dsimp only
              rw [sb2, if_pos rfl]
              exact ⟨_, rfl⟩
    obtain ⟨m, hm0⟩ := hfin 389
    refine ⟨m, ?_⟩
    rw [← hm0]
    have hfu : ∀ n n', pX8_cause_84 (n + 1) (nI a) (nI c) (nI (mk (fsx S a c 0 (pL S a) S.2.2.1.1) 10)) (nI 10) (rmn τ (mk (pR S c) 10)) = pX8_cause_84 (n' + 1) (nI a) (nI c) (nI (mk (fsx S a c 0 (pL S a) S.2.2.1.1) 10)) (nI 10) (rmn τ (mk (pR S c) 10)) := by
      intro n n'
      rw [pX8_cause_84, pX8_cause_84, if_pos (show (10 : Int32) ≤ nI 10 by decide), if_pos (show (10 : Int32) ≤ nI 10 by decide)]
    refine lp_all (fun n b => pX8_cause_84 n (nI a) (nI c) (nI (mk (fsx S a c 0 (pL S a) S.2.2.1.1) 10)) (nI b) (rmn τ (mk (pR S c) b))) (N := 10) ?_ ?_ 400 0 (Nat.zero_le _) (by omega)
    · intro n
      exact hfu n 389
    · intro n b hb
      rw [pX8_cause_84, if_neg (by rw [show (10 : Int32) = nI 10 from rfl, leI (by omega) (by omega)]; omega), m_has11 (hm.rmn hS _).2.1 hS.2.1 hb hc10, sb2, ifb, rmn_g, nI_1]
      have eo := orI (pR S c) (show b < 31 by omega)
      unfold pR at eo ⊢
      cases hx : t_in S.2.1 (10 * b + c) with
      | true =>
        rw [hx, if_pos rfl] at eo
        rw [if_pos rfl, eo, rmn_u]
      | false =>
        rw [hx, if_neg (by decide)] at eo
        rw [if_neg (by decide), show (0 : Int32) = nI 0 from rfl, fa_or, Nat.or_zero, eo, rmn_u]
  have left : ∀ n, ∃ m, pX8_cause_7 (n + 1) (nI a) (nI c) (nI 10) (rmn τ (mk (pL S a) 10)) = some (fcz S a c, rmn τ m) := by
    intro n
    rw [pX8_cause_7, if_pos (by decide), rmn_g]
    unfold fcz
    by_cases h1 : mk (pL S a) 10 = 0
    · rw [if_pos (by rw [h1]; rfl), if_pos h1]
      exact ⟨_, rfl⟩
    · rw [if_neg (by rw [nI00 (by omega)]; exact h1), if_neg h1, show (0 : Int32) = nI 0 from rfl, m_dropper hm hS (by omega)]
      unfold drv
      cases he1 : efx S a c 0 (pL S a) with
      | some f =>
        have := efx_lt he1
        have hs := hS.2.2.1.1
        try dsimp only
        rw [sb2, if_neg (nI_no (by omega))]
        exact ⟨_, rfl⟩
      | none =>
        try dsimp only
        rw [sb2, if_pos rfl, rmn_g, rmn_u]
        exact right 0 (by omega)
  obtain ⟨m, hm0⟩ := left 389
  refine ⟨m, ?_⟩
  rw [← hm0]
  have hfu : ∀ n n', pX8_cause_7 (n + 1) (nI a) (nI c) (nI 10) (rmn τ (mk (pL S a) 10)) = pX8_cause_7 (n' + 1) (nI a) (nI c) (nI 10) (rmn τ (mk (pL S a) 10)) := by
    intro n n'
    rw [pX8_cause_7, pX8_cause_7, if_pos (show (10 : Int32) ≤ nI 10 by decide), if_pos (show (10 : Int32) ≤ nI 10 by decide)]
  unfold pX8_cause
  refine lp_all (fun n b => pX8_cause_7 n (nI a) (nI c) (nI b) (rmn τ (mk (pL S a) b))) (N := 10) ?_ ?_ 400 0 (Nat.zero_le _) (by omega)
  · intro n
    exact hfu n 389
  · intro n b hb
    rw [pX8_cause_7, if_neg (by rw [show (10 : Int32) = nI 10 from rfl, leI (by omega) (by omega)]; omega), m_has0 (hm.rmn hS _).1 hS.1 ha hb, sb2, ifb, rmn_g, nI_1]
    have eo := orI (pL S a) (show b < 31 by omega)
    unfold pL at eo ⊢
    cases hx : t_in S.1 (10 * a + b) with
    | true =>
      rw [hx, if_pos rfl] at eo
      rw [if_pos rfl, eo, rmn_u]
    | false =>
      rw [hx, if_neg (by decide)] at eo
      rw [if_neg (by decide), show (0 : Int32) = nI 0 from rfl, fa_or, Nat.or_zero, eo, rmn_u]
end
