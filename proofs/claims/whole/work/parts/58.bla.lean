/-! ===== the first cause ===== -/
def fsx (S : St) (a c st : Nat) (p : Nat → Bool) : Nat → Nat → Bool
  | 0 => p
  | f + 1 => if (S.2.2.1.2 f).1 = st then (fun b => fsx S a c st p f b && e_acc (S.2.2.1.2 f) a b c) else fsx S a c st p f
def emp (S : St) (a c st : Nat) (p : Nat → Bool) (f : Nat) : Bool := decide ((S.2.2.1.2 f).1 = st) && mk (fsx S a c st p (f + 1)) 10 == 0
def efx (S : St) (a c st : Nat) (p : Nat → Bool) : Option Nat := (List.range S.2.2.1.1).find? (emp S a c st p)
theorem efx_at {S : St} {a c st : Nat} {p : Nat → Bool} {f : Nat} (hf : f < S.2.2.1.1) (he : emp S a c st p f = true) (hn : ∀ g, g < f → emp S a c st p g = false) : efx S a c st p = some f := by
  unfold efx
  rw [List.find?_range_eq_some]
  exact ⟨he, by simpa using hf, fun j hj => by rw [hn j hj]; rfl⟩
theorem efx_no {S : St} {a c st : Nat} {p : Nat → Bool} (hn : ∀ g, g < S.2.2.1.1 → emp S a c st p g = false) : efx S a c st p = none := by
  unfold efx
  rw [List.find?_range_eq_none]
  exact fun j hj => by rw [hn j hj]; rfl
theorem efx_lt {S : St} {a c st : Nat} {p : Nat → Bool} {f : Nat} (h : efx S a c st p = some f) : f < S.2.2.1.1 := by
  have := List.mem_of_find?_eq_some h
  simpa using this
theorem mk10 (p : Nat → Bool) : mk p 10 < 1024 := mk_lt p 10
def efv (o : Option Nat) : Int32 := match o with
  | some f => nI f
  | none => -10001
section
variable {σ τ : fw_T} {S : St}
theorem c_acceptedBs (hc : CS σ 12 S) (hS : OKS S) {f : Nat} (hf : f < S.2.2.1.1) (p : Nat → Bool) {a c : Nat} : pX3_acceptedBs (nI f) (nI (mk p 10)) (nI a) (nI c) σ = some (nI (mk (fun b => p b && e_acc (S.2.2.1.2 f) a b c) 10), σ) := by
  unfold pX3_acceptedBs
  refine lp_all (fun n b => pX3_acceptedBs_6 n (nI f) (nI (mk p 10)) (nI a) (nI c) (nI (mk (fun b => p b && e_acc (S.2.2.1.2 f) a b c) b)) (nI b) σ) (N := 10) ?_ ?_ 400 0 (Nat.zero_le _) (by omega)
  · intro n
    rw [pX3_acceptedBs_6, if_pos (by decide)]
  · intro n b hb
    rw [pX3_acceptedBs_6, if_neg (by rw [show (10 : Int32) = nI 10 from rfl, leI (by omega) (by omega)]; omega), c_isIn hb, sb2, ifb, ← orI _ (show b < 31 by omega)]
    cases hp : p b with
    | false =>
      rw [if_neg (by decide), nI_1]
      simp
    | true =>
      rw [if_pos rfl, c_accepts hc.2.2.1 hS.2.2.1 hf, sb2, ifb, nI_1]
      cases e_acc (S.2.2.1.2 f) a b c <;> simp
theorem c_emptying (hc : CS σ 12 S) (hS : OKS S) {st : Nat} (hst : st ≤ 2) (p : Nat → Bool) {a c : Nat} : pX3_emptyingFilter (nI st) (nI (mk p 10)) (nI a) (nI c) σ = some (efv (efx S a c st p), σ) := by
  have hs := hS.2.2.1.1
  unfold pX3_emptyingFilter
  refine lp_up (fun n f => pX3_emptyingFilter_6 n (nI st) (nI a) (nI c) (nI (mk (fsx S a c st p f) 10)) (nI f) σ) (fun f => ∀ g, g < f → emp S a c st p g = false) (N := S.2.2.1.1) ?_ ?_ 400 0 (Nat.zero_le _) (fun g h => by omega) (by omega)
  · intro n hP
    rw [pX3_emptyingFilter_6, hc.2.2.1.1, if_pos (by rw [leI (by omega) (by omega)]; omega), efx_no hP]
    rfl
  · intro n f hf hP
    have e : fsx S a c st p (f + 1) = if (S.2.2.1.2 f).1 = st then (fun b => fsx S a c st p f b && e_acc (S.2.2.1.2 f) a b c) else fsx S a c st p f := rfl
    rw [pX3_emptyingFilter_6, hc.2.2.1.1, if_neg (by rw [leI (by omega) (by omega)]; omega), c_isAtStage hc.2.2.1 hS.2.2.1 hf hst, sb2, ifb]
    by_cases h1 : (S.2.2.1.2 f).1 = st
    · rw [if_pos h1] at e
      rw [if_pos (by simpa using h1), c_acceptedBs hc hS hf, sb2, ← e]
      have hl := mk10 (fsx S a c st p (f + 1))
      by_cases h2 : mk (fsx S a c st p (f + 1)) 10 = 0
      · left
        rw [if_pos (by rw [h2]; rfl), efx_at hf (by simp [emp, h1, h2]) hP]
        rfl
      · right
        rw [if_neg (by rw [nI00 (by omega)]; exact h2), nI_1]
        refine ⟨rfl, fun g hg => ?_⟩
        by_cases he : g = f
        · subst he; simp [emp, h2]
        · exact hP g (by omega)
    · right
      rw [if_neg h1] at e
      rw [if_neg (by simpa using h1), nI_1, e]
      refine ⟨rfl, fun g hg => ?_⟩
      by_cases he : g = f
      · subst he; simp [emp, h1]
      · exact hP g (by omega)
theorem c_survivors (hc : CS σ 12 S) (hS : OKS S) {st : Nat} (hst : st ≤ 2) (p : Nat → Bool) {a c : Nat} : pX3_survivors (nI st) (nI (mk p 10)) (nI a) (nI c) σ = some (nI (mk (fsx S a c st p S.2.2.1.1) 10), σ) := by
  have hs := hS.2.2.1.1
  unfold pX3_survivors
  refine lp_all (fun n f => pX3_survivors_6 n (nI st) (nI a) (nI c) (nI (mk (fsx S a c st p f) 10)) (nI f) σ) (N := S.2.2.1.1) ?_ ?_ 400 0 (Nat.zero_le _) (by omega)
  · intro n
    rw [pX3_survivors_6, hc.2.2.1.1, if_pos (by rw [leI (by omega) (by omega)]; omega)]
  · intro n f hf
    have e : fsx S a c st p (f + 1) = if (S.2.2.1.2 f).1 = st then (fun b => fsx S a c st p f b && e_acc (S.2.2.1.2 f) a b c) else fsx S a c st p f := rfl
    rw [pX3_survivors_6, hc.2.2.1.1, if_neg (by rw [leI (by omega) (by omega)]; omega), c_isAtStage hc.2.2.1 hS.2.2.1 hf hst, sb2, ifb]
    by_cases h1 : (S.2.2.1.2 f).1 = st
    · rw [if_pos h1] at e
      rw [if_pos (by simpa using h1), c_acceptedBs hc hS hf, sb2, ← e, nI_1]
    · rw [if_neg h1] at e
      rw [if_neg (by simpa using h1), nI_1, e]
def pL (S : St) (a b : Nat) : Bool := t_in S.1 (10 * a + b)
def pR (S : St) (c b : Nat) : Bool := t_in S.2.1 (10 * b + c)
def pJ (S : St) (a c b : Nat) : Bool := fsx S a c 0 (pL S a) S.2.2.1.1 b && fsx S a c 1 (pR S c) S.2.2.1.1 b
def fcz (S : St) (a c : Nat) : Int32 :=
  if mk (pL S a) 10 = 0 then 0 else match efx S a c 0 (pL S a) with
  | some f => nI (10 + f)
  | none => if mk (pR S c) 10 = 0 then 1 else match efx S a c 1 (pR S c) with
    | some f => nI (10 + f)
    | none => if mk (pJ S a c) 10 = 0 then 2 else match efx S a c 2 (pJ S a c) with
      | some f => nI (10 + f)
      | none => 9
theorem c_firstCause (hc : CS σ 12 S) (hS : OKS S) {a c : Nat} (ha : a < 10) (hc10 : c < 10) : pX3_firstCause (nI a) (nI c) σ = some (fcz S a c, σ) := by
  have hs := hS.2.2.1.1
  unfold pX3_firstCause fcz
  have l1 := mk10 (pL S a)
  have l2 := mk10 (pR S c)
  have l3 := mk10 (pJ S a c)
  have eL : pX2_secondsOf 13 (nI a) σ = some (nI (mk (pL S a) 10), σ) := c_secondsOf hc.1 hS.1 ha
  have eR : pX2_firstsOf 15 (nI c) σ = some (nI (mk (pR S c) 10), σ) := c_firstsOf hc.2.1 hS.2.1 hc10
  rw [eL, sb2]
  by_cases h1 : mk (pL S a) 10 = 0
  · rw [if_pos (by rw [h1]; rfl), if_pos h1]
  · rw [if_neg (by rw [nI00 (by omega)]; exact h1), if_neg h1, show (0 : Int32) = nI 0 from rfl, c_emptying hc hS (by omega), sb2]
    cases he1 : efx S a c 0 (pL S a) with
    | some f =>
      have := efx_lt he1
      try dsimp only
      rw [show efv (some f) = nI f from rfl, if_neg (nI_no (by omega)), show (10 : Int32) = nI 10 from rfl, nI_add]
    | none =>
      try dsimp only
      rw [show efv none = -10001 from rfl, if_pos rfl, eR, sb2, show nI 0 = (0 : Int32) from rfl]
      by_cases h2 : mk (pR S c) 10 = 0
      · rw [if_pos (by rw [h2]; rfl), if_pos h2]
      · rw [if_neg (by rw [nI00 (by omega)]; exact h2), if_neg h2, show (1 : Int32) = nI 1 from rfl, c_emptying hc hS (by omega), sb2]
        cases he2 : efx S a c 1 (pR S c) with
        | some f =>
          have := efx_lt he2
          try dsimp only
          rw [show efv (some f) = nI f from rfl, if_neg (nI_no (by omega)), show (10 : Int32) = nI 10 from rfl, nI_add]
        | none =>
          try dsimp only
          rw [show efv none = -10001 from rfl, if_pos rfl, show (0 : Int32) = nI 0 from rfl, c_survivors hc hS (by omega), sb2, c_survivors hc hS (by omega), sb2, fa_and, mk_and, show nI 0 = (0 : Int32) from rfl]
          have ej : (fun i => fsx S a c 0 (pL S a) S.2.2.1.1 i && fsx S a c 1 (pR S c) S.2.2.1.1 i) = pJ S a c := rfl
          rw [ej]
          by_cases h3 : mk (pJ S a c) 10 = 0
          · rw [if_pos (by rw [h3]; rfl), if_pos h3]
          · rw [if_neg (by rw [nI00 (by omega)]; exact h3), if_neg h3, show (2 : Int32) = nI 2 from rfl, c_emptying hc hS (by omega), sb2]
            cases he3 : efx S a c 2 (pJ S a c) with
            | some f =>
              have := efx_lt he3
              try dsimp only
              rw [show efv (some f) = nI f from rfl, if_neg (nI_no (by omega)), show (10 : Int32) = nI 10 from rfl, nI_add]
            | none =>
              try dsimp only
              rw [show efv none = -10001 from rfl, if_pos rfl]
-- the reference, which keeps the set in a field
def rmn (τ : fw_T) (m : Nat) : fw_T := fw_u τ 0 8 (nI m)
theorem rmn_g (τ : fw_T) (m : Nat) : fw_g (rmn τ m) 0 8 = nI m := fw_us _ _ _ _
theorem rmn_u (τ : fw_T) (m k : Nat) : fw_u (rmn τ m) 0 8 (nI k) = rmn τ k := by
  unfold rmn fw_u
  refine Prod.ext (funext fun a => funext fun l => ?_) rfl
  by_cases h : a = 0 ∧ l = 8 <;> simp [h]
theorem MS.rmn (hm : MS τ 1 0 S) (hS : OKS S) (m : Nat) : MS (rmn τ m) 1 0 S := hm.frame hS (fun j _ => by show fw_g (fw_u τ 0 8 (nI m)) 1 (0 + j) = _; rw [fw_gn _ (by omega)])
end
