/-! ===== rows put in and taken out ===== -/
theorem b2_id (m : Option (Int32 × fw_T)) : (fw_b2 m fun w τ => some (w, τ)) = m := by
  cases m <;> rfl
theorem noE {n : Nat} {P : Prop} (h : n < 100000) (hE : isE (nI n) = true) : P := by
  rw [isE_nI h] at hE
  cases hE
def s_1 (S : St) (t : Tb) : St := (t, S.2.1, S.2.2.1, S.2.2.2)
def s_2 (S : St) (t : Tb) : St := (S.1, t, S.2.2.1, S.2.2.2)
def s_4 (S : St) (t : Tb) : St := (S.1, S.2.1, S.2.2.1, t)
def Slot (h k L : Nat) (S : St) (t : Tb) (put : Tb → St) : Prop :=
  (12 < h ∧ h + 1 < 24 ∧ L ≤ 10 ∧ k + 1 + L ≤ 52 ∧ k ≤ 47) ∧ TOK L t ∧ (∀ t', TOK L t' → OKS (put t')) ∧
  (∀ σ, CS σ 12 S → PC σ h t) ∧ (∀ σ σ' t', CS σ 12 S → PC σ' h t' → (∀ j, j ≠ h → j ≠ h + 1 → fw_g σ' j = fw_g σ j) → CS σ' 12 (put t')) ∧
  (∀ σ, rLm σ → fw_g σ h 1 = nI L) ∧ (∀ σ σ', rLm σ → (∀ j, j ≠ h → j ≠ h + 1 → fw_g σ' j = fw_g σ j) → fw_g σ' h 1 = fw_g σ h 1 → rLm σ') ∧
  (∀ τ, MS τ 1 0 S → PM τ 1 k t) ∧ (∀ τ τ' t', MS τ 1 0 S → PM τ' 1 k t' → TOK L t' → (∀ l, (l < k ∨ k + 1 + L ≤ l) → fw_g τ' 1 l = fw_g τ 1 l) → MS τ' 1 0 (put t'))
theorem slot1 {S : St} (hS : OKS S) : Slot 13 0 10 S S.1 (s_1 S) := by
  have l2 := hS.2.1.1
  have l3 := hS.2.2.1.1
  have l4 := hS.2.2.2.1
  refine ⟨by decide, hS.1, fun t' h => ⟨h, hS.2⟩, fun σ h => h.1, fun σ σ' t' h hp hf => ⟨hp, h.2.1.cong (by rw [hf 15 (by omega) (by omega)]) (hf 16 (by omega) (by omega)), h.2.2.1.cong (by rw [hf 17 (by omega) (by omega)]) (hf 18 (by omega) (by omega)) (hf 19 (by omega) (by omega)) (hf 20 (by omega) (by omega)) (hf 21 (by omega) (by omega)), h.2.2.2.cong (by rw [hf 22 (by omega) (by omega)]) (hf 23 (by omega) (by omega))⟩, fun σ h => h.1, fun σ σ' h hf h1 => ⟨h1.trans h.1, by rw [hf 15 (by omega) (by omega)]; exact h.2.1, by rw [hf 22 (by omega) (by omega)]; exact h.2.2⟩, fun τ h => h.1, fun τ τ' t' h hp _ hf => ⟨hp, h.2.1.cong (hf _ (by omega)) (fun i hi => hf _ (by omega)), h.2.2.1.cong (hf _ (by omega)) (fun i hi => hf _ (by omega)), h.2.2.2.cong (hf _ (by omega)) (fun i hi => hf _ (by omega))⟩⟩
theorem slot2 {S : St} (hS : OKS S) : Slot 15 11 10 S S.2.1 (s_2 S) := by
  have l2 := hS.1.1
  have l3 := hS.2.2.1.1
  have l4 := hS.2.2.2.1
  refine ⟨by decide, hS.2.1, fun t' h => ⟨hS.1, h, hS.2.2⟩, fun σ h => h.2.1, fun σ σ' t' h hp hf => ⟨h.1.cong (by rw [hf 13 (by omega) (by omega)]) (hf 14 (by omega) (by omega)), hp, h.2.2.1.cong (by rw [hf 17 (by omega) (by omega)]) (hf 18 (by omega) (by omega)) (hf 19 (by omega) (by omega)) (hf 20 (by omega) (by omega)) (hf 21 (by omega) (by omega)), h.2.2.2.cong (by rw [hf 22 (by omega) (by omega)]) (hf 23 (by omega) (by omega))⟩, fun σ h => h.2.1, fun σ σ' h hf h1 => ⟨by rw [hf 13 (by omega) (by omega)]; exact h.1, h1.trans h.2.1, by rw [hf 22 (by omega) (by omega)]; exact h.2.2⟩, fun τ h => h.2.1, fun τ τ' t' h hp _ hf => ⟨h.1.cong (hf _ (by omega)) (fun i hi => hf _ (by omega)), hp, h.2.2.1.cong (hf _ (by omega)) (fun i hi => hf _ (by omega)), h.2.2.2.cong (hf _ (by omega)) (fun i hi => hf _ (by omega))⟩⟩
theorem slot4 {S : St} (hS : OKS S) : Slot 22 47 4 S S.2.2.2 (s_4 S) := by
  have l1 := hS.1.1
  have l2 := hS.2.1.1
  have l3 := hS.2.2.1.1
  refine ⟨by decide, hS.2.2.2, fun t' h => ⟨hS.1, hS.2.1, hS.2.2.1, h⟩, fun σ h => h.2.2.2, fun σ σ' t' h hp hf => ⟨h.1.cong (by rw [hf 13 (by omega) (by omega)]) (hf 14 (by omega) (by omega)), h.2.1.cong (by rw [hf 15 (by omega) (by omega)]) (hf 16 (by omega) (by omega)), h.2.2.1.cong (by rw [hf 17 (by omega) (by omega)]) (hf 18 (by omega) (by omega)) (hf 19 (by omega) (by omega)) (hf 20 (by omega) (by omega)) (hf 21 (by omega) (by omega)), hp⟩, fun σ h => h.2.2, fun σ σ' h hf h1 => ⟨by rw [hf 13 (by omega) (by omega)]; exact h.1, by rw [hf 15 (by omega) (by omega)]; exact h.2.1, h1.trans h.2.2⟩, fun τ h => h.2.2.2, fun τ τ' t' h hp _ hf => ⟨h.1.cong (hf _ (by omega)) (fun i hi => hf _ (by omega)), h.2.1.cong (hf _ (by omega)) (fun i hi => hf _ (by omega)), h.2.2.1.cong (hf _ (by omega)) (fun i hi => hf _ (by omega)), hp⟩⟩
section
variable {h k L : Nat} {S : St} {t : Tb} {put : Tb → St}
/-- the class puts a row in -/
theorem Slot.c_put (s : Slot h k L S t put) {σ : fw_T} (hc : CS σ 12 S) (hl : rLm σ) {a b : Nat} (ha : a < 10) (hb : b < 10) (hin : t_in t (10 * a + b) = false) (hf : t.1 < L) : ∃ σ', pX2_insert h (nI a) (nI b) σ = some (nI (t.1 + 1), σ') ∧ CS σ' 12 (put (t_push t (10 * a + b))) ∧ rLm σ' ∧ ∀ j, (j < 12 ∨ 24 ≤ j) → fw_g σ' j = fw_g σ j := by
  obtain ⟨⟨g1, g2, g3, g4, g5⟩, ht, hok, hPC, hCS, hlim, hrl, hPM, hMS⟩ := s
  have hfr : ∀ j, j ≠ h → j ≠ h + 1 → fw_g (fw_u (fw_u σ (h + 1) t.1 (nI (10 * a + b))) h 2 (nI (t.1 + 1))) j = fw_g σ j := fun j h1 h2 => by rw [fw_gn _ h1, fw_gn _ h2]
  exact ⟨_, c_insert_ok (hPC σ hc) (hlim σ hl) g3 ht ha hb hin hf, hCS σ _ _ hc ((hPC σ hc).push _) hfr, hrl σ _ hl hfr (by rw [fw_uo _ _ _ _ _ (by decide), fw_gn _ (by omega)]), fun j hj => hfr j (by omega) (by omega)⟩
/-- the reference puts a row in -/
theorem Slot.m_put (s : Slot h k L S t put) {τ : fw_T} (hm : MS τ 1 0 S) {x : Nat} (hx : x < 100) (hf : t.1 < L) : ∃ τ', pX8_putBehind (nI k) (nI x) τ = some τ' ∧ MS τ' 1 0 (put (t_push t x)) ∧ fw_g τ' 1 k = nI (t.1 + 1) ∧ ∀ j, j ≠ 1 → fw_g τ' j = fw_g τ j := by
  obtain ⟨⟨g1, g2, g3, g4, g5⟩, ht, hok, hPC, hCS, hlim, hrl, hPM, hMS⟩ := s
  exact ⟨_, m_putBehind (hPM τ hm) (by omega) _, hMS τ _ _ hm ((hPM τ hm).push x) (ht.push hx hf) (fun l hl => by rw [fw_uo _ _ _ _ _ (by omega), fw_uo _ _ _ _ _ (by omega)]), fw_us _ _ _ _, fun j hj => by rw [fw_gn _ hj, fw_gn _ hj]⟩
theorem op_same {f g : fw_T → Option (Int32 × fw_T)} {S : St} (hS : OKS S) {r : Int32} (hr : isE r = true) (hf : ∀ σ, CS σ 12 S → rLm σ → f σ = some (r, σ)) (hg : ∀ τ, MS τ 1 0 S → g τ = pX8_fail r τ) : Op f g S :=
  ⟨r, S, hS, fun _ => rfl, fun σ hc hl => ⟨σ, hf σ hc hl, hc, hl, fun _ _ => rfl⟩, fun τ hm => ⟨fun _ => hg τ hm, fun h => by rw [hr] at h; cases h⟩⟩
theorem op_sameN {f g : fw_T → Option (Int32 × fw_T)} {S : St} (hS : OKS S) {r : Int32} (hr : isE r = true) (hf : ∀ σ, CS σ 12 S → rLm σ → f σ = some (r, σ)) (hg : ∀ τ, MS τ 1 0 S → g τ = pX8_fail r τ) : OpN f g S :=
  ⟨r, S, hS, fun _ => rfl, fun σ hc hl => ⟨σ, hf σ hc hl, hc, hl, fun _ _ => rfl⟩, fun τ hm => ⟨fun _ => hg τ hm, fun h => by rw [hr] at h; cases h⟩, fun h => by rw [hr] at h; cases h⟩
theorem fb_fail (r : Int32) (τ : fw_T) : (fw_b2 (pX8_fail r τ) fun w τ => some (w, τ)) = pX8_fail r τ := b2_id _
def insBody (k L : Nat) (x y : Int32) (σ : fw_T) : Option (Int32 × fw_T) :=
  fw_b2 (pX8_isDigitPair x y σ) fun w3 τ2 =>
  if w3 = 0 then
    fw_b2 (pX8_fail (-10002 : Int32) τ2) fun w23 τ22 =>
    some (w23, τ22)
  else
    fw_b2 (pX8_placeOf (nI k) (((10 : Int32) * x) + y) τ2) fun w6 τ5 =>
    if w6 = (-10001 : Int32) then
      (fw_rd τ5 1 52 (nI k)).bind fun w7 =>
      if w7 = (nI L) then
        fw_b2 (pX8_fail (-10004 : Int32) τ5) fun w17 τ16 =>
        some (w17, τ16)
      else
        (pX8_note τ5).bind fun τ10 =>
        (pX8_putBehind (nI k) (((10 : Int32) * x) + y) τ10).bind fun τ12 =>
        (fw_rd τ12 1 52 (nI k)).bind fun w13 =>
        some (w13, τ12)
    else
      fw_b2 (pX8_fail (-10003 : Int32) τ5) fun w20 τ19 =>
      some (w20, τ19)
theorem op_ins (s : Slot h k L S t put) (hS : OKS S) (x y : Int32) : OpN (pX2_insert h x y) (insBody k L x y) S := by
  obtain ⟨⟨g1, g2, g3, g4, g5⟩, ht, hok, hPC, hCS, hlim, hrl, hPM, hMS⟩ := id s
  have hts := ht.1
  cases hv : (isV x && isV y) with
  | false =>
    refine op_sameN hS (r := -10002) (by decide) (fun σ _ _ => c_insert_bad hv) (fun τ hm => ?_)
    unfold insBody
    rw [m_isDigitPair, sb2, hv, bIf, if_pos rfl, fb_fail]
  | true =>
    rw [Bool.and_eq_true] at hv
    obtain ⟨a, ha, rfl⟩ := isV_of hv.1
    obtain ⟨b, hb, rfl⟩ := isV_of hv.2
    have pl : ∀ τ, MS τ 1 0 S → ∃ r, pX8_placeOf (nI k) (nI (10 * a + b)) τ = some (r, τ) ∧ (t_in t (10 * a + b) = true → r ≠ -10001) ∧ (t_in t (10 * a + b) = false → r = -10001) := fun τ hm => m_placeOf (by omega) (hPM τ hm) (ht.ten g3) (by omega) (by omega)
    cases hin : t_in t (10 * a + b) with
    | true =>
      refine op_sameN hS (r := -10003) (by decide) (fun σ hc _ => c_insert_has (hPC σ hc) g3 ht ha hb hin) (fun τ hm => ?_)
      unfold insBody
      obtain ⟨r, p1, p2, p3⟩ := pl τ hm
      rw [m_isDigitPair, sb2, isVV ha hb, bIt, if_neg (by decide), row10, p1, sb2, if_neg (p2 hin), fb_fail]
    | false =>
      by_cases hf : t.1 = L
      · refine op_sameN hS (r := -10004) (by decide) (fun σ hc hl => c_insert_full (hPC σ hc) (hlim σ hl) g3 ht ha hb hin hf) (fun τ hm => ?_)
        unfold insBody
        obtain ⟨r, p1, p2, p3⟩ := pl τ hm
        rw [m_isDigitPair, sb2, isVV ha hb, bIt, if_neg (by decide), row10, p1, sb2, if_pos (p3 hin), rdI (by omega) (by omega), sbd, (hPM τ hm).1, if_pos (by rw [hf]), fb_fail]
      · refine ⟨nI (t.1 + 1), put (t_push t (10 * a + b)), hok _ (ht.push (by omega) (by omega)), (fun h => noE (by omega) h), fun σ hc hl => s.c_put hc hl ha hb hin (by omega), fun τ hm => ⟨fun h => noE (by omega) h, fun _ τ1 n1 hm1 => ?_⟩, fun _ => nI_pos (by omega)⟩
        obtain ⟨r, p1, p2, p3⟩ := pl τ hm
        obtain ⟨τ2, q1, q2, q3, q4⟩ := s.m_put hm1 (x := 10 * a + b) (by omega) (by omega)
        refine ⟨τ2, ?_, q2, q4⟩
        unfold insBody
        rw [m_isDigitPair, sb2, isVV ha hb, bIt, if_neg (by decide), row10, p1, sb2, if_pos (p3 hin), rdI (by omega) (by omega), sbd, (hPM τ hm).1, if_neg (by rw [eqI (by omega) (by omega)]; exact hf), n1, sbd, q1, sbd, rdI (by omega) (by omega), sbd, q3]
def delBody (k : Nat) (x : Int32) (σ : fw_T) : Option (Int32 × fw_T) := pX8_removes (nI k) x σ
theorem op_del (s : Slot h k L S t put) (hS : OKS S) (x : Int32) : OpN (pX2_drop h x) (pX8_removes (nI k) x) S := by
  obtain ⟨⟨g1, g2, g3, g4, g5⟩, ht, hok, hPC, hCS, hlim, hrl, hPM, hMS⟩ := id s
  have hts := ht.1
  have hin : ∀ τ, MS τ 1 0 S → pX8_removes (nI k) x τ = if bI (decide (∃ i, i < t.1 ∧ x = nI i)) = 0 then pX8_fail (-10002) τ else (pX8_note τ).bind fun τ7 => pX8_removes_30 400 (nI k) x τ7 := fun τ hm => by
    unfold pX8_removes
    rw [rdI (by omega) (by omega), sbd, (hPM τ hm).1, m_in_idx (by omega), sb2, fb_fail]
  by_cases hx : ∃ i, i < t.1 ∧ x = nI i
  · obtain ⟨i, hi, rfl⟩ := id hx
    refine ⟨nI (t.1 - 1), put (t_del t i), hok _ (ht.del hi), (fun h => noE (by omega) h), fun σ hc hl => ?_, fun τ hm => ⟨fun h => noE (by omega) h, fun _ τ1 n1 hm1 => ?_⟩, fun _ => nI_pos (by omega)⟩
    · have hfr : ∀ j, j ≠ h → j ≠ h + 1 → fw_g (sft (fw_u σ h 2 (nI (t.1 - 1))) (h + 1) i (t.1 - 1) 1) j = fw_g σ j := fun j h1 h2 => by rw [sft_ne h2, fw_gn _ h1]
      exact ⟨_, c_drop_ok (hPC σ hc) (by omega) hi, hCS σ _ _ hc ((hPC σ hc).del hi) hfr, hrl σ _ hl hfr (by rw [sft_ne (by omega), fw_uo _ _ _ _ _ (by decide)]), fun j hj => hfr j (by omega) (by omega)⟩
    · rw [hin τ hm, decide_eq_true hx, bIt, if_neg (by decide), n1, sbd, m_removes_loop (hPM τ1 hm1) (by omega) hi]
      exact ⟨_, rfl, hMS τ1 _ _ hm1 ((hPM τ1 hm1).del hi) (ht.del hi) (fun l hl => by rw [fw_uo _ _ _ _ _ (by omega), sft_at, if_neg (by omega)]), fun j hj => by rw [fw_gn _ hj, sft_ne hj]⟩
  · refine op_sameN hS (r := -10002) (by decide) (fun σ hc _ => c_drop_bad (hPC σ hc) (by omega) (fun i hi he => hx ⟨i, hi, he⟩)) (fun τ hm => ?_)
    rw [hin τ hm, decide_eq_false hx, bIf, if_pos rfl]
theorem op_clear (hS : OKS S) : OpN (pX2_dropAll 22) pX8_clearWishes S := by
  obtain ⟨⟨g1, g2, g3, g4, g5⟩, ht, hok, hPC, hCS, hlim, hrl, hPM, hMS⟩ := slot4 hS
  have hts := ht.1
  refine ⟨nI S.2.2.2.1, s_4 S (0, S.2.2.2.2), hok _ TOK.nil, (fun h => noE (by omega) h), fun σ hc hl => ?_, fun τ hm => ⟨fun h => noE (by omega) h, fun _ τ1 n1 hm1 => ?_⟩, fun _ => nI_pos (by omega)⟩
  · have hfr : ∀ j, j ≠ 22 → j ≠ 22 + 1 → fw_g (fw_u σ 22 2 0) j = fw_g σ j := fun j h1 h2 => fw_gn _ h1
    refine ⟨fw_u σ 22 2 0, ?_, hCS σ _ _ hc ⟨fw_us _ _ _ _, fun i hi => absurd hi (Nat.not_lt_zero i)⟩ hfr, hrl σ _ hl hfr (by rw [fw_uo _ _ _ _ _ (by decide)]), fun j hj => hfr j (by omega) (by omega)⟩
    unfold pX2_dropAll
    rw [(hPC σ hc).1]
  · refine ⟨fw_u τ1 1 47 0, ?_, hMS τ1 _ _ hm1 ⟨fw_us _ _ _ _, fun i hi => absurd hi (Nat.not_lt_zero i)⟩ TOK.nil (fun l hl => by rw [fw_uo _ _ _ _ _ (by omega)]), fun j hj => by rw [fw_gn _ hj]⟩
    unfold pX8_clearWishes
    rw [n1, sbd, show (47 : Int32) = nI 47 from rfl, rdI (by omega) (by omega), sbd, (hPM τ1 hm1).1, wrI (by omega) (by omega), sbd]
end
theorem sim_addLeft : sm2 sim_Rel pX7_addLeft pX8_addLeft := fun x y σ τ h => by
  have := sim_edit (f := pX2_insert 13 x y) (g := insBody 0 10 x y) h (fun S hS => (op_ins (slot1 hS) hS x y).op)
  have e : pX8_addLeft x y τ = insBody 0 10 x y τ := b2_id _
  rw [e]
  exact this
theorem sim_addRight : sm2 sim_Rel pX7_addRight pX8_addRight := fun x y σ τ h => by
  have := sim_edit (f := pX2_insert 15 x y) (g := insBody 11 10 x y) h (fun S hS => (op_ins (slot2 hS) hS x y).op)
  have e : pX8_addRight x y τ = insBody 11 10 x y τ := b2_id _
  rw [e]
  exact this
theorem sim_addWish : sm2 sim_Rel pX7_addWish pX8_addWish := fun x y σ τ h => sim_edit (f := pX2_insert 22 x y) (g := insBody 47 4 x y) h (fun S hS => (op_ins (slot4 hS) hS x y).op)
theorem sim_removeLeft : sm1 sim_Rel pX7_removeLeft pX8_removeLeft := fun x σ τ h => by
  have := sim_edit (f := pX2_drop 13 x) (g := pX8_removes (nI 0) x) h (fun S hS => (op_del (slot1 hS) hS x).op)
  have e : pX8_removeLeft x τ = pX8_removes (nI 0) x τ := b2_id _
  rw [e]
  exact this
theorem sim_removeRight : sm1 sim_Rel pX7_removeRight pX8_removeRight := fun x σ τ h => by
  have := sim_edit (f := pX2_drop 15 x) (g := pX8_removes (nI 11) x) h (fun S hS => (op_del (slot2 hS) hS x).op)
  have e : pX8_removeRight x τ = pX8_removes (nI 11) x τ := b2_id _
  rw [e]
  exact this
theorem sim_clearWishes : sm0 sim_Rel pX7_clearWishes pX8_clearWishes := fun σ τ h => sim_edit (f := pX2_dropAll 22) (g := pX8_clearWishes) h (fun S hS => (op_clear hS).op)
