/-! ===== missing rows put in; filters loosened ===== -/
def insF (x y : Int32) (σ : fw_T) : Option (Int32 × fw_T) := if (isV x && isV y) = true then pX7_insertRowsOf x y σ else some (-10002, σ)
theorem insF_eq (x y : Int32) (σ : fw_T) : pX7_insertMissing x y σ = ((pX1_draft 12 σ).bind fun τ2 => fw_b2 (insF x y τ2) fun w5 τ4 => fw_b2 (pX7_settle w5 τ4) fun w8 τ7 => some (w8, τ7)) := by
  unfold pX7_insertMissing insF
  cases pX1_draft 12 σ with
  | none => rfl
  | some σ1 =>
    rw [sbd, sbd, c_isPair, sb2, ifb]
    cases isV x && isV y with
    | false => rw [if_neg (by decide), if_neg (by decide), sb2]
    | true => rw [if_pos rfl, if_pos rfl]
def pit (b : Bool) (t : Tb) (x : Nat) : Tb := if b then t else t_push t x
theorem full0 {L : Nat} {t : Tb} {σ : fw_T} {h : Nat} (hp : PC σ h t) (hl : fw_g σ h 1 = nI L) (hL : L ≤ 10) (ht : TOK L t) : pX2_isFull h σ = some (bI (decide (t.1 = L)), σ) := c_isFull hp hl hL ht
theorem op_insm {S : St} (hS : OKS S) (x y : Int32) : Op (insF x y) (pX8_insertMissing x y) S := by
  have s1 := hS.1.1
  have s2 := hS.2.1.1
  cases hv : (isV x && isV y) with
  | false =>
    refine op_same hS (r := -10002) (by decide) (fun σ _ _ => by unfold insF; rw [hv, if_neg (by decide)]) (fun τ _ => ?_)
    unfold pX8_insertMissing
    rw [m_isDigitPair, sb2, hv, bIf, if_pos rfl, b2_id]
  | true =>
    have hv' := hv
    rw [Bool.and_eq_true] at hv
    obtain ⟨a, ha, rfl⟩ := isV_of hv.1
    obtain ⟨c, hc10, rfl⟩ := isV_of hv.2
    rcases bb_ok S a c 10 (Nat.le_refl _) with ⟨hb, -⟩ | ⟨hb, -, -⟩
    · refine op_same hS (r := -10003) (by decide) (fun σ hc _ => ?_) (fun τ hm => ?_)
      · unfold insF pX7_insertRowsOf
        rw [hv', if_pos rfl, c_cheapestB hc hS ha hc10, sb2, hb, if_pos (show bv 10 = -10001 from rfl)]
      · unfold pX8_insertMissing
        rw [m_isDigitPair, sb2, hv', bIt, if_neg (by decide), m_bestB hm hS ha hc10, sb2, hb, if_pos (show bv 10 = -10001 from rfl), b2_id]
    · generalize hbe : (bb S a c 10).1 = b at hb
      have ec : ∀ σ, CS σ 12 S → insF (nI a) (nI c) σ = if t_in S.1 (10 * a + b) = true then (if t_in S.2.1 (10 * b + c) = true then pX7_insertRowsOf_63 (nI a) (nI c) (nI b) 0 0 σ else pX7_insertRowsOf_63 (nI a) (nI c) (nI b) 0 1 σ) else (if t_in S.2.1 (10 * b + c) = true then pX7_insertRowsOf_63 (nI a) (nI c) (nI b) 1 0 σ else pX7_insertRowsOf_63 (nI a) (nI c) (nI b) 1 1 σ) := fun σ hc => by
        unfold insF pX7_insertRowsOf pX7_insertRowsOf_41
        rw [hv', if_pos rfl, c_cheapestB hc hS ha hc10, sb2, hbe, bv_ne hb, if_neg (nI_no (by omega)), c_holds hc.1 hS.1 ha hb, sb2, ifb]
        cases t_in S.1 (10 * a + b) with
        | false => rw [if_neg (by decide), if_neg (by decide), c_holds hc.2.1 hS.2.1 hb hc10, sb2, ifb]
        | true => rw [if_pos rfl, if_pos rfl, c_holds hc.2.1 hS.2.1 hb hc10, sb2, ifb]
      have em : ∀ τ, MS τ 1 0 S → pX8_insertMissing (nI a) (nI c) τ = if t_in S.1 (10 * a + b) = true then (if t_in S.2.1 (10 * b + c) = true then pX8_insertMissing_68 (nI a) (nI c) (nI b) 0 0 τ else pX8_insertMissing_68 (nI a) (nI c) (nI b) 0 1 τ) else (if t_in S.2.1 (10 * b + c) = true then pX8_insertMissing_68 (nI a) (nI c) (nI b) 1 0 τ else pX8_insertMissing_68 (nI a) (nI c) (nI b) 1 1 τ) := fun τ hm => by
        unfold pX8_insertMissing
        rw [m_isDigitPair, sb2, hv', bIt, if_neg (by decide), m_bestB hm hS ha hc10, sb2, hbe, bv_ne hb, if_neg (nI_no (by omega)), m_has0 hm.1 hS.1 ha hb, sb2, ifb]
        cases t_in S.1 (10 * a + b) with
        | false => rw [if_neg (by decide), if_neg (by decide), m_has11 hm.2.1 hS.2.1 hb hc10, sb2, ifb]
        | true => rw [if_pos rfl, if_pos rfl, m_has11 hm.2.1 hS.2.1 hb hc10, sb2, ifb]
      have m0 : ∀ τ, MS τ 1 0 S → fw_rd τ 1 52 (0 : Int32) = some (nI S.1.1) := fun τ hm => by rw [show (0 : Int32) = nI 0 from rfl, rdI (by omega) (by omega), hm.1.1]
      have m11 : ∀ τ, MS τ 1 0 S → fw_rd τ 1 52 (11 : Int32) = some (nI S.2.1.1) := fun τ hm => by
        have : fw_g τ 1 11 = nI S.2.1.1 := hm.2.1.1
        rw [show (11 : Int32) = nI 11 from rfl, rdI (by omega) (by omega), this]
      have f13 : ∀ σ, CS σ 12 S → rLm σ → pX2_isFull 13 σ = some (bI (decide (S.1.1 = 10)), σ) := fun σ hc hl => c_isFull hc.1 hl.1 (by omega) hS.1
      have f15 : ∀ σ, CS σ 12 S → rLm σ → pX2_isFull 15 σ = some (bI (decide (S.2.1.1 = 10)), σ) := fun σ hc hl => c_isFull hc.2.1 hl.2.1 (by omega) hS.2.1
      have t10 : (10 : Int32) = nI 10 := rfl
      cases h1 : t_in S.1 (10 * a + b) with
      | true =>
        cases h2 : t_in S.2.1 (10 * b + c) with
        | true =>
          refine ⟨nI 0, S, hS, fun _ => rfl, fun σ hc hl => ⟨σ, ?_, hc, hl, fun _ _ => rfl⟩, fun τ hm => ⟨fun h => noE (by omega) h, fun _ τ1 n1 hm1 => ⟨τ1, ?_, hm1, fun _ _ => rfl⟩⟩⟩
          · rw [ec σ hc, h1, h2, if_pos rfl, if_pos rfl]; rfl
          · rw [em τ hm, h1, h2, if_pos rfl, if_pos rfl]
            unfold pX8_insertMissing_68 pX8_insertMissing_86 pX8_insertMissing_111 pX8_insertMissing_131 pX8_insertMissing_148
            rw [if_pos rfl, if_pos rfl, n1, sbd, if_pos rfl, if_pos rfl, if_pos rfl, if_pos rfl]; rfl
        | false =>
          by_cases hf : S.2.1.1 = 10
          · refine op_same hS (r := -10004) (by decide) (fun σ hc hl => ?_) (fun τ hm => ?_)
            · rw [ec σ hc, h1, h2, if_pos rfl, if_neg (by decide)]
              unfold pX7_insertRowsOf_63
              rw [if_pos rfl, if_neg (by decide), f15 σ hc hl, sb2, decide_eq_true hf, bIt, if_neg (by decide)]
            · rw [em τ hm, h1, h2, if_pos rfl, if_neg (by decide)]
              unfold pX8_insertMissing_68 pX8_insertMissing_86
              rw [if_pos rfl, if_neg (by decide), m11 τ hm, sbd, if_pos (by rw [hf]; rfl), b2_id]
          · refine ⟨nI 1, s_2 S (t_push S.2.1 (10 * b + c)), (slot2 hS).2.2.1 _ (hS.2.1.push (by omega) (by omega)), (fun h => noE (by omega) h), fun σ hc hl => ?_, fun τ hm => ⟨fun h => noE (by omega) h, fun _ τ1 n1 hm1 => ?_⟩⟩
            · obtain ⟨σ1, p1, p2, p3, p4⟩ := (slot2 hS).c_put hc hl hb hc10 h2 (by omega)
              refine ⟨σ1, ?_, p2, p3, p4⟩
              rw [ec σ hc, h1, h2, if_pos rfl, if_neg (by decide)]
              unfold pX7_insertRowsOf_63 pX7_insertRowsOf_105 pX7_insertRowsOf_129
              rw [if_pos rfl, if_neg (by decide), f15 σ hc hl, sb2, decide_eq_false hf, bIf, if_pos rfl, if_pos rfl, if_neg (by decide), p1, sb2]; rfl
            · obtain ⟨τ2, p1, p2, p3, p4⟩ := (slot2 hS).m_put hm1 (x := 10 * b + c) (by omega) (by omega)
              refine ⟨τ2, ?_, p2, p4⟩
              rw [em τ hm, h1, h2, if_pos rfl, if_neg (by decide)]
              unfold pX8_insertMissing_68 pX8_insertMissing_86 pX8_insertMissing_111 pX8_insertMissing_131 pX8_insertMissing_148
              rw [if_pos rfl, if_neg (by decide), m11 τ hm, sbd, if_neg (by rw [t10, eqI (by omega) (by omega)]; exact hf), n1, sbd, if_pos rfl, if_neg (by decide), row10, show (11 : Int32) = nI 11 from rfl, p1, sbd, if_pos rfl, if_neg (by decide)]; rfl
      | false =>
        by_cases hf1 : S.1.1 = 10
        · cases h2 : t_in S.2.1 (10 * b + c) with
          | true =>
            refine op_same hS (r := -10004) (by decide) (fun σ hc hl => ?_) (fun τ hm => ?_)
            · rw [ec σ hc, h1, h2, if_neg (by decide), if_pos rfl]
              unfold pX7_insertRowsOf_63
              rw [if_neg (by decide), f13 σ hc hl, sb2, decide_eq_true hf1, bIt, if_neg (by decide)]
            · rw [em τ hm, h1, h2, if_neg (by decide), if_pos rfl]
              unfold pX8_insertMissing_68
              rw [if_neg (by decide), m0 τ hm, sbd, if_pos (by rw [hf1]; rfl), b2_id]
          | false =>
            refine op_same hS (r := -10004) (by decide) (fun σ hc hl => ?_) (fun τ hm => ?_)
            · rw [ec σ hc, h1, h2, if_neg (by decide), if_neg (by decide)]
              unfold pX7_insertRowsOf_63
              rw [if_neg (by decide), f13 σ hc hl, sb2, decide_eq_true hf1, bIt, if_neg (by decide)]
            · rw [em τ hm, h1, h2, if_neg (by decide), if_neg (by decide)]
              unfold pX8_insertMissing_68
              rw [if_neg (by decide), m0 τ hm, sbd, if_pos (by rw [hf1]; rfl), b2_id]
        · cases h2 : t_in S.2.1 (10 * b + c) with
          | true =>
            refine ⟨nI 1, s_1 S (t_push S.1 (10 * a + b)), (slot1 hS).2.2.1 _ (hS.1.push (by omega) (by omega)), (fun h => noE (by omega) h), fun σ hc hl => ?_, fun τ hm => ⟨fun h => noE (by omega) h, fun _ τ1 n1 hm1 => ?_⟩⟩
            · obtain ⟨σ1, p1, p2, p3, p4⟩ := (slot1 hS).c_put hc hl ha hb h1 (by omega)
              refine ⟨σ1, ?_, p2, p3, p4⟩
              rw [ec σ hc, h1, h2, if_neg (by decide), if_pos rfl]
              unfold pX7_insertRowsOf_63 pX7_insertRowsOf_105 pX7_insertRowsOf_129
              rw [if_neg (by decide), f13 σ hc hl, sb2, decide_eq_false hf1, bIf, if_pos rfl, if_pos rfl, if_neg (by decide), p1, sb2, if_pos rfl]; rfl
            · obtain ⟨τ2, p1, p2, p3, p4⟩ := (slot1 hS).m_put hm1 (x := 10 * a + b) (by omega) (by omega)
              refine ⟨τ2, ?_, p2, p4⟩
              rw [em τ hm, h1, h2, if_neg (by decide), if_pos rfl]
              unfold pX8_insertMissing_68 pX8_insertMissing_86 pX8_insertMissing_111 pX8_insertMissing_131 pX8_insertMissing_148
              rw [if_neg (by decide), m0 τ hm, sbd, if_neg (by rw [t10, eqI (by omega) (by omega)]; exact hf1), if_pos rfl, n1, sbd, if_neg (by decide), row10, show (0 : Int32) = nI 0 from rfl, p1, sbd, if_pos rfl, if_neg (by decide), if_pos rfl]; rfl
          | false =>
            by_cases hf2 : S.2.1.1 = 10
            · refine op_same hS (r := -10004) (by decide) (fun σ hc hl => ?_) (fun τ hm => ?_)
              · rw [ec σ hc, h1, h2, if_neg (by decide), if_neg (by decide)]
                unfold pX7_insertRowsOf_63
                rw [if_neg (by decide), f13 σ hc hl, sb2, decide_eq_false hf1, bIf, if_pos rfl, if_neg (by decide), f15 σ hc hl, sb2, decide_eq_true hf2, bIt, if_neg (by decide)]
              · rw [em τ hm, h1, h2, if_neg (by decide), if_neg (by decide)]
                unfold pX8_insertMissing_68 pX8_insertMissing_86
                rw [if_neg (by decide), m0 τ hm, sbd, if_neg (by rw [t10, eqI (by omega) (by omega)]; exact hf1), if_neg (by decide), m11 τ hm, sbd, if_pos (by rw [hf2]; rfl), b2_id]
            · have hS1 : OKS (s_1 S (t_push S.1 (10 * a + b))) := (slot1 hS).2.2.1 _ (hS.1.push (by omega) (by omega))
              refine ⟨nI 2, s_2 (s_1 S (t_push S.1 (10 * a + b))) (t_push S.2.1 (10 * b + c)), (slot2 hS1).2.2.1 _ (hS.2.1.push (by omega) (by omega)), (fun h => noE (by omega) h), fun σ hc hl => ?_, fun τ hm => ⟨fun h => noE (by omega) h, fun _ τ1 n1 hm1 => ?_⟩⟩
              · obtain ⟨σ1, p1, p2, p3, p4⟩ := (slot1 hS).c_put hc hl ha hb h1 (by omega)
                obtain ⟨σ2, r1, r2, r3, r4⟩ := (slot2 hS1).c_put p2 p3 hb hc10 h2 (show S.2.1.1 < 10 by omega)
                refine ⟨σ2, ?_, r2, r3, fun j hj => by rw [r4 j hj, p4 j hj]⟩
                rw [ec σ hc, h1, h2, if_neg (by decide), if_neg (by decide)]
                unfold pX7_insertRowsOf_63 pX7_insertRowsOf_105 pX7_insertRowsOf_129
                rw [if_neg (by decide), f13 σ hc hl, sb2, decide_eq_false hf1, bIf, if_pos rfl, if_neg (by decide), f15 σ hc hl, sb2, decide_eq_false hf2, bIf, if_pos rfl, if_neg (by decide), p1, sb2, if_neg (by decide), r1, sb2]; rfl
              · obtain ⟨τ2, p1, p2, p3, p4⟩ := (slot1 hS).m_put hm1 (x := 10 * a + b) (by omega) (by omega)
                obtain ⟨τ3, r1, r2, r3, r4⟩ := (slot2 hS1).m_put p2 (x := 10 * b + c) (by omega) (show S.2.1.1 < 10 by omega)
                refine ⟨τ3, ?_, r2, fun j hj => by rw [r4 j hj, p4 j hj]⟩
                rw [em τ hm, h1, h2, if_neg (by decide), if_neg (by decide)]
                unfold pX8_insertMissing_68 pX8_insertMissing_86 pX8_insertMissing_111 pX8_insertMissing_131 pX8_insertMissing_148
                rw [if_neg (by decide), m0 τ hm, sbd, if_neg (by rw [t10, eqI (by omega) (by omega)]; exact hf1), if_neg (by decide), m11 τ hm, sbd, if_neg (by rw [t10, eqI (by omega) (by omega)]; exact hf2), n1, sbd, if_neg (by decide), row10, show (0 : Int32) = nI 0 from rfl, p1, sbd, if_neg (by decide), row10, show (11 : Int32) = nI 11 from rfl, r1, sbd, if_neg (by decide), if_neg (by decide)]; rfl
theorem sim_insertMissing : sm2 sim_Rel pX7_insertMissing pX8_insertMissing := fun x y σ τ h => by
  rw [insF_eq]
  exact sim_edit (f := insF x y) (g := pX8_insertMissing x y) h (fun S hS => op_insm hS x y)
-- loosening
def looF (x y : Int32) (σ : fw_T) : Option (Int32 × fw_T) := if (isV x && isV y) = true then pX7_dropFiltersAgainst x y σ else some (-10002, σ)
theorem looF_eq (x y : Int32) (σ : fw_T) : pX7_loosen x y σ = ((pX1_draft 12 σ).bind fun τ2 => fw_b2 (looF x y τ2) fun w5 τ4 => fw_b2 (pX7_settle w5 τ4) fun w8 τ7 => some (w8, τ7)) := by
  unfold pX7_loosen looF
  cases pX1_draft 12 σ with
  | none => rfl
  | some σ1 =>
    rw [sbd, sbd, c_isPair, sb2, ifb]
    cases isV x && isV y with
    | false => rw [if_neg (by decide), if_neg (by decide), sb2]
    | true => rw [if_pos rfl, if_pos rfl]
/-- filters of mask m at 5, 4, .. taken out, k places looked at -/
def fdl (f : Ft) (m : Nat) : Nat → Ft
  | 0 => f
  | k + 1 => if m.testBit (5 - k) = true then f_del (fdl f m k) (5 - k) else fdl f m k
theorem fdl_ok {f : Ft} (hf : FOK f) {m : Nat} (hm : m < 2 ^ f.1) : ∀ k, k ≤ 6 → FOK (fdl f m k) ∧ min f.1 (6 - k) ≤ (fdl f m k).1 ∧ ∀ i, i < 6 → m.testBit i = true → i < f.1 := by
  have hb : ∀ i, i < 6 → m.testBit i = true → i < f.1 := fun i _ h => by
    rcases Nat.lt_or_ge i f.1 with h1 | h1
    · exact h1
    · have : 2 ^ f.1 ≤ 2 ^ i := Nat.pow_le_pow_right (by decide) h1
      rw [Nat.testBit_lt_two_pow (by omega)] at h
      cases h
  intro k
  induction k with
  | zero => exact fun _ => ⟨hf, Nat.min_le_left _ _, hb⟩
  | succ k ih =>
    intro hk
    obtain ⟨h1, h2, -⟩ := ih (by omega)
    have e : fdl f m (k + 1) = if m.testBit (5 - k) = true then f_del (fdl f m k) (5 - k) else fdl f m k := rfl
    rw [e]
    cases hc : m.testBit (5 - k) with
    | false => rw [if_neg (by decide)]; exact ⟨h1, by omega, hb⟩
    | true =>
      have := hb (5 - k) (by omega) hc
      rw [if_pos rfl]
      refine ⟨h1.del (by omega), ?_, hb⟩
      show min f.1 (6 - (k + 1)) ≤ (fdl f m k).1 - 1
      omega
theorem xd6 {k : Nat} (hk : k < 6) : xd 6 k = nI (5 - k) := by
  unfold xd
  rw [if_pos hk]
theorem xd_nx {k : Nat} (hk : k < 6) : nI (5 - k) + (-1 : Int32) = xd 6 (k + 1) := by
  have := xd_next (M := 6) hk
  rwa [show 6 - 1 - k = 5 - k by omega] at this
theorem c_loo {S : St} {σ : fw_T} (hS : OKS S) (hc : CS σ 12 S) (hl : rLm σ) {m : Nat} (hm : m < 2 ^ S.2.2.1.1) : ∃ σ', pX7_dropFiltersAgainst_24 400 (nI m) 5 σ = some (nI (pc m), σ') ∧ CS σ' 12 (s_f S (fdl S.2.2.1 m 6)) ∧ rLm σ' ∧ ∀ j, (j < 12 ∨ 24 ≤ j) → fw_g σ' j = fw_g σ j := by
  have h64 : m < 64 := Nat.lt_of_lt_of_le hm (two_le hS.2.2.1.1)
  have main : ∀ n k (σ' : fw_T), k ≤ 6 → 6 - k < n → CS σ' 12 (s_f S (fdl S.2.2.1 m k)) → rLm σ' → (∀ j, (j < 12 ∨ 24 ≤ j) → fw_g σ' j = fw_g σ j) → ∃ σ'', pX7_dropFiltersAgainst_24 n (nI m) (xd 6 k) σ' = some (nI (pc m), σ'') ∧ CS σ'' 12 (s_f S (fdl S.2.2.1 m 6)) ∧ rLm σ'' ∧ ∀ j, (j < 12 ∨ 24 ≤ j) → fw_g σ'' j = fw_g σ j := by
    intro n
    induction n with
    | zero => intro k σ' _ h; omega
    | succ n ih =>
      intro k σ' hk hn c1 l1 f1
      by_cases h6 : k = 6
      · subst h6
        refine ⟨σ', ?_, c1, l1, f1⟩
        rw [pX7_dropFiltersAgainst_24, if_pos (by decide), c_bitCount h64, sb2]
      · have hk6 : k < 6 := by omega
        obtain ⟨o1, o2, o3⟩ := fdl_ok hS.2.2.1 hm k (by omega)
        have e : fdl S.2.2.1 m (k + 1) = if m.testBit (5 - k) = true then f_del (fdl S.2.2.1 m k) (5 - k) else fdl S.2.2.1 m k := rfl
        rw [pX7_dropFiltersAgainst_24, xd6 hk6, if_neg (nI_pos (by omega)), xd_nx hk6]
        cases hb : m.testBit (5 - k) with
        | false =>
          rw [if_pos ((isIn0 (by omega)).mpr hb)]
          rw [hb, if_neg (by decide)] at e
          exact ih (k + 1) σ' (by omega) (by omega) (by rw [e]; exact c1) l1 f1
        | true =>
          rw [if_neg (fun h => by rw [(isIn0 (by omega)).mp h] at hb; cases hb)]
          rw [hb, if_pos rfl] at e
          have h7 := o3 (5 - k) (by omega) hb
          obtain ⟨σ2, p1, p2, p3, p4⟩ := c_fdrop c1 (hS.tf o1) l1 (k := 5 - k) (show 5 - k < (fdl S.2.2.1 m k).1 by omega)
          rw [p1, sb2]
          exact ih (k + 1) σ2 (by omega) (by omega) (by rw [e]; exact p2) p3 (fun j hj => by rw [p4 j hj, f1 j hj])
  exact main 400 0 σ (by omega) (by omega) hc hl (fun _ _ => rfl)
theorem m_loo {S : St} {τ : fw_T} (hS : OKS S) (hc : MS τ 1 0 S) {m : Nat} (hm : m < 2 ^ S.2.2.1.1) : ∃ τ', pX8_loosen_45 400 (nI m) 5 τ = some (nI (pc m), τ') ∧ MS τ' 1 0 (s_f S (fdl S.2.2.1 m 6)) ∧ ∀ j, j ≠ 1 → fw_g τ' j = fw_g τ j := by
  have h64 : m < 64 := Nat.lt_of_lt_of_le hm (two_le hS.2.2.1.1)
  have main : ∀ n k (σ' : fw_T), k ≤ 6 → 6 - k < n → MS σ' 1 0 (s_f S (fdl S.2.2.1 m k)) → (∀ j, j ≠ 1 → fw_g σ' j = fw_g τ j) → ∃ σ'', pX8_loosen_45 n (nI m) (xd 6 k) σ' = some (nI (pc m), σ'') ∧ MS σ'' 1 0 (s_f S (fdl S.2.2.1 m 6)) ∧ ∀ j, j ≠ 1 → fw_g σ'' j = fw_g τ j := by
    intro n
    induction n with
    | zero => intro k σ' _ h; omega
    | succ n ih =>
      intro k σ' hk hn c1 f1
      by_cases h6 : k = 6
      · subst h6
        refine ⟨σ', ?_, c1, f1⟩
        rw [pX8_loosen_45, if_pos (by decide), m_ones h64, sb2]
      · have hk6 : k < 6 := by omega
        obtain ⟨o1, o2, o3⟩ := fdl_ok hS.2.2.1 hm k (by omega)
        have e : fdl S.2.2.1 m (k + 1) = if m.testBit (5 - k) = true then f_del (fdl S.2.2.1 m k) (5 - k) else fdl S.2.2.1 m k := rfl
        rw [pX8_loosen_45, xd6 hk6, if_neg (nI_pos (by omega)), xd_nx hk6]
        cases hb : m.testBit (5 - k) with
        | false =>
          rw [if_neg (fun h => by rw [(shr1 m h64 (5 - k) (by omega)).mp h] at hb; cases hb)]
          rw [hb, if_neg (by decide)] at e
          exact ih (k + 1) σ' (by omega) (by omega) (by rw [e]; exact c1) f1
        | true =>
          rw [if_pos ((shr1 m h64 (5 - k) (by omega)).mpr hb)]
          rw [hb, if_pos rfl] at e
          have h7 := o3 (5 - k) (by omega) hb
          obtain ⟨σ2, p1, p2, p4⟩ := m_fdrop c1 (hS.tf o1) (k := 5 - k) (show 5 - k < (fdl S.2.2.1 m k).1 by omega)
          rw [p1, sbd]
          exact ih (k + 1) σ2 (by omega) (by omega) (by rw [e]; exact p2) (fun j hj => by rw [p4 j hj, f1 j hj])
  exact main 400 0 τ (by omega) (by omega) hc (fun _ _ => rfl)
theorem op_loo {S : St} (hS : OKS S) (x y : Int32) : Op (looF x y) (pX8_loosen x y) S := by
  have hs := hS.2.2.1.1
  cases hv : (isV x && isV y) with
  | false =>
    refine op_same hS (r := -10002) (by decide) (fun σ _ _ => by unfold looF; rw [hv, if_neg (by decide)]) (fun τ _ => ?_)
    unfold pX8_loosen
    rw [m_isDigitPair, sb2, hv, bIf, if_pos rfl, b2_id]
  | true =>
    have hv' := hv
    rw [Bool.and_eq_true] at hv
    obtain ⟨a, ha, rfl⟩ := isV_of hv.1
    obtain ⟨c, hc10, rfl⟩ := isV_of hv.2
    have ec : ∀ σ, CS σ 12 S → looF (nI a) (nI c) σ = if rv (br S a c 10) = -10001 then some (-10003, σ) else pX7_dropFiltersAgainst_24 400 (rv (br S a c 10)) 5 σ := fun σ hc => by
      unfold looF pX7_dropFiltersAgainst
      rw [hv', if_pos rfl, c_smallestRemoval hc hS ha hc10, sb2]
    have em : ∀ τ, MS τ 1 0 S → pX8_loosen (nI a) (nI c) τ = if rv (br S a c 10) = -10001 then pX8_fail (-10003) τ else (pX8_note τ).bind fun τ8 => pX8_loosen_45 400 (rv (br S a c 10)) 5 τ8 := fun τ hm => by
      unfold pX8_loosen
      rw [m_isDigitPair, sb2, hv', bIt, if_neg (by decide), m_removal hm hS ha hc10, sb2, b2_id]
    rcases br_min S a c hs with ⟨h1, -⟩ | ⟨h1, -, -⟩
    · exact op_same hS (r := -10003) (by decide) (fun σ hc _ => by rw [ec σ hc, h1, if_pos rv_64]) (fun τ hm => by rw [em τ hm, h1, if_pos rv_64])
    · have h64 : br S a c 10 < 64 := Nat.lt_of_lt_of_le h1 (two_le hs)
      have hp := pc_le (br S a c 10)
      refine ⟨nI (pc (br S a c 10)), s_f S (fdl S.2.2.1 (br S a c 10) 6), hS.tf (fdl_ok hS.2.2.1 h1 6 (by omega)).1, (fun h => noE (by omega) h), fun σ hc hl => ?_, fun τ hm => ⟨fun h => noE (by omega) h, fun _ τ1 n1 hm1 => ?_⟩⟩
      · obtain ⟨σ1, p1, p2, p3, p4⟩ := c_loo hS hc hl h1
        exact ⟨σ1, by rw [ec σ hc, rv_ne h64, if_neg (nI_no (by omega)), p1], p2, p3, p4⟩
      · obtain ⟨τ2, p1, p2, p4⟩ := m_loo hS hm1 h1
        exact ⟨τ2, by rw [em τ hm, rv_ne h64, if_neg (nI_no (by omega)), n1, sbd, p1], p2, p4⟩
theorem sim_loosen : sm2 sim_Rel pX7_loosen pX8_loosen := fun x y σ τ h => by
  rw [looF_eq]
  exact sim_edit (f := looF x y) (g := pX8_loosen x y) h (fun S hS => op_loo hS x y)
