/-! ===== the script: commands ===== -/
section
variable {σ0 τ0 σ τ : fw_T} {t p k : Nat}
/-- a number; the spaces before it are behind -/
theorem num2 (hT : rTx σ0 τ0 t) {ix : Nat} (hix : ix < 240) (g : Bool) (hf : PFr σ0 τ0 σ τ) (h1 : fw_g σ 4 4 = nI p) (h2 : fw_g τ 0 11 = nI p) (hp : p ≤ t) (hs : hr σ0 t p ≠ 32) :
    (∃ p' v, p < p' ∧ p' ≤ t ∧ pX4_readNumber (nI ix) (bI g) σ = some (1, fw_u (fw_u σ 4 4 (nI p')) 6 ix v) ∧ pX8_readNumber (bI g) τ = some (v, fw_u (fw_u τ 0 11 (nI p')) 0 12 0)) ∨
    (∃ p' v σ', p ≤ p' ∧ p' ≤ t ∧ pX4_readNumber (nI ix) (bI g) σ = some (0, σ') ∧ fw_g σ' 4 4 = nI p' ∧ (∀ τ', PFr σ0 τ0 σ τ' → PFr σ0 τ0 σ' τ') ∧ pX8_readNumber (bI g) τ = some (v, fw_u (fw_u τ 0 11 (nI p')) 0 12 1)) := by
  have ht := hT.1
  have z11 : fw_u τ 0 11 (fw_g τ 0 11 + 0) = τ := fw_same (by rw [h2, z0I])
  unfold pX4_readNumber pX8_readNumber
  rw [skip_nop hT hf h2 (by omega) hs, sbd]
  cases g with
  | false =>
    rw [bIf, if_pos rfl, if_pos rfl]
    unfold pX4_readNumber_24 pX8_readNumber_22
    rw [if_pos rfl, if_pos rfl, z11]
    exact num_core hT hix false hf h1 h2 hp
  | true =>
    rw [bIt, if_neg (by decide), if_neg (by decide), c_byte hT hf h1 (by omega), sb2, m_here hT hf h2 (by omega), sb2]
    by_cases hm : hr σ0 t p = 45
    · have l1 : p < t := hr_lt hm (by decide)
      rw [if_pos hm, if_pos hm, if_neg (by decide)]
      unfold pX8_readNumber_22
      rw [if_neg (by decide), h1, h2, nI_1]
      have hf1 : PFr σ0 τ0 (fw_u σ 4 4 (nI (p + 1))) (fw_u τ 0 11 (nI (p + 1))) := PFr.m0 (PFr.c hf (by omega)) (by omega)
      rcases num_core hT hix true hf1 (p := p + 1) (fw_us _ _ _ _) (fw_us _ _ _ _) (by omega) with ⟨p', v, a1, a2, a3, a4⟩ | ⟨p', v, σ', a1, a2, a3, a4, a5, a6⟩
      · left
        refine ⟨p', v, by omega, a2, ?_, ?_⟩
        · rw [fw_uu] at a3; exact a3
        · rw [fw_uu] at a4; exact a4
      · right
        refine ⟨p', v, σ', by omega, a2, a3, a4, fun τ' h => a5 τ' (PFr.c h (by omega)), ?_⟩
        rw [fw_uu] at a6; exact a6
    · rw [if_neg hm, if_neg hm]
      unfold pX4_readNumber_24 pX8_readNumber_22
      rw [if_pos rfl, if_pos rfl, z11]
      exact num_core hT hix false hf h1 h2 hp
theorem rdn_skip {τ' : fw_T} (h1 : pX8_skip τ = some τ') (h2 : pX8_skip τ' = some τ') (x : Int32) : pX8_readNumber x τ = pX8_readNumber x τ' := by
  unfold pX8_readNumber
  rw [h1, h2]
theorem m_62stop {n : Nat} {L x2 x3 x4 : Int32} (h : fw_g τ 0 12 = 1) : pX8_readCommand_62 (n + 1) L x2 x3 x4 τ = some τ := by
  have e : pX8_readCommand_113 τ = some τ := by
    unfold pX8_readCommand_113
    rw [if_neg (by rw [h]; decide)]
  rw [pX8_readCommand_62, e, if_neg (show ¬ fw_g τ 0 12 = 0 by rw [h]; decide)]
  split <;> rfl
theorem cmd_loop (hT : rTx σ0 τ0 t) {L : Int32} {q : Nat} (hL : nb L = some q) (hk : k < 60) : ∀ (m j n n' p : Nat) (σ τ : fw_T), j + m = q → m < n → m < n' → PV σ0 τ0 t σ τ p k → 2 * k + 1 ≤ p → fw_g τ 0 12 = 0 → fw_g σ 5 k = L → fw_g τ 6 (5 * k) = L → (∀ i, i < j → fw_g σ 6 (4 * k + i) = fw_g τ 6 (5 * k + 1 + i)) →
    (∃ p' σ' τ', pX4_readCommand_57 n L (nI q) (nI j) σ = some (1, σ') ∧ pX8_readCommand_62 n' L (nI q) (nI (5 * k)) (nI j) τ = some τ' ∧ PV σ0 τ0 t σ' τ' p' (k + 1) ∧ p < p' ∧ fw_g τ' 0 12 = 0) ∨
    (∃ p' σ' τ', pX4_readCommand_57 n L (nI q) (nI j) σ = some (0, σ') ∧ pX8_readCommand_62 n' L (nI q) (nI (5 * k)) (nI j) τ = some τ' ∧ PX σ0 τ0 σ' τ' p') := by
  have ht := hT.1
  have hq := (nb_le hL).1
  intro m
  induction m with
  | zero =>
    intro j n n' p σ τ hj hn hn' hV hp hw h5 h6 hnum
    obtain ⟨n, rfl⟩ : ∃ a, n = a + 1 := ⟨n - 1, by omega⟩
    obtain ⟨n', rfl⟩ : ∃ a, n' = a + 1 := ⟨n' - 1, by omega⟩
    have hjq : j = q := by omega
    subst hjq
    obtain ⟨ps, s1, s2, s3, s4, s5, s6⟩ := skips hT hV
    obtain ⟨a1, a2, a3, a4, a5, a6, a7, a8⟩ := id s6
    have e5 : fw_g (fw_u σ 4 4 (nI ps)) 5 k = L := by rw [fw_gn _ (by decide)]; exact h5
    have ec : pX4_readCommand_57 (n + 1) L (nI j) (nI j) σ = if hr σ0 t ps = 59 then some (1, fw_u (fw_u σ 4 4 (nI (ps + 1))) 4 3 (nI (k + 1))) else some (0, fw_u σ 4 4 (nI ps)) := by
      rw [pX4_readCommand_57, if_pos (by rw [leI (by omega) (by omega)]; omega), s4, sbd, c_byte hT a8 a3 (by omega), sb2, rz0, rz1, a3, nI_1, fw_uu, fw_uo _ _ _ _ _ (by decide)]
      have : fw_g σ 4 3 = nI k := by rw [← a5, fw_uo _ _ _ _ _ (by decide)]
      rw [this, nI_1]
    have em : pX8_readCommand_62 (n' + 1) L (nI j) (nI (5 * k)) (nI j) τ = if hr σ0 t ps = 59 then some (fw_u (fw_u (fw_u (fw_u τ 0 11 (nI ps)) 0 12 0) 0 11 (nI (ps + 1))) 0 10 (nI (k + 1))) else some (fw_u (fw_u (fw_u (fw_u τ 0 11 (nI ps)) 0 12 1) 0 11 (nI ps)) 0 10 (nI (k + 1))) := by
      rw [pX8_readCommand_62, if_pos (by rw [leI (by omega) (by omega)]; omega)]
      unfold pX8_readCommand_113
      rw [if_pos hw, s5, sbd, m_here hT a8 a4 (by omega), sb2]
      unfold pX8_readCommand_140
      by_cases hc : hr σ0 t ps = 59
      · rw [if_pos hc, if_pos hc, show fw_z 0 = some 0 from rfl, sbd, fw_us, if_pos rfl, fw_uo _ _ _ _ _ (by decide), a4, nI_1, fw_uo _ _ _ _ _ (by decide), fw_uo _ _ _ _ _ (by decide), a6, nI_1]
      · rw [if_neg hc, if_neg hc, show fw_z 1 = some 1 from rfl, sbd, fw_us, if_neg (by decide), fw_uo _ _ _ _ _ (by decide), a4, z0I, fw_uo _ _ _ _ _ (by decide), fw_uo _ _ _ _ _ (by decide), a6, nI_1]
    by_cases hc : hr σ0 t ps = 59
    · have l1 : ps < t := hr_lt hc (by decide)
      left
      rw [ec, em, if_pos hc, if_pos hc]
      refine ⟨ps + 1, _, _, rfl, rfl, ⟨by omega, by omega, ?_, ?_, fw_us _ _ _ _, fw_us _ _ _ _, fun i hi => ?_, ?_⟩, by omega, ?_⟩
      · rw [fw_uo _ _ _ _ _ (by decide), fw_us]
      · rw [fw_uo _ _ _ _ _ (by decide), fw_us]
      · by_cases hik : i = k
        · subst hik
          refine CM.cong (σ := σ) (τ := τ) ⟨by rw [h5, h6], j, by rw [h5]; exact hL, hnum⟩ ?_ (fun l _ => ?_) (fun l _ => ?_)
          · rw [fw_gn _ (by decide), fw_gn _ (by decide)]
          · rw [fw_gn _ (by decide), fw_gn _ (by decide)]
          · rw [fw_gn _ (by decide), fw_gn _ (by decide), fw_gn _ (by decide), fw_gn _ (by decide)]
        · refine (a7 i (by omega)).cong ?_ (fun l _ => ?_) (fun l _ => ?_)
          · rw [fw_gn _ (by decide), fw_gn _ (by decide), fw_gn _ (by decide)]
          · rw [fw_gn _ (by decide), fw_gn _ (by decide), fw_gn _ (by decide)]
          · rw [fw_gn _ (by decide), fw_gn _ (by decide), fw_gn _ (by decide)]
      · exact PFr.m0 (PFr.m0 (PFr.m0 (PFr.m0 (PFr.c (PFr.c hV.2.2.2.2.2.2.2 (by omega)) (by omega)) (by omega)) (by omega)) (by omega)) (by omega)
      · rw [fw_uo _ _ _ _ _ (by decide), fw_uo _ _ _ _ _ (by decide), fw_us]
    · right
      rw [ec, em, if_neg hc, if_neg hc]
      refine ⟨ps, _, _, rfl, rfl, fw_us _ _ _ _, ?_, ?_, ?_⟩
      · rw [fw_uo _ _ _ _ _ (by decide), fw_us]
      · rw [fw_uo _ _ _ _ _ (by decide), fw_uo _ _ _ _ _ (by decide), fw_us]
      · exact PFr.m0 (PFr.m0 (PFr.m0 a8 (by omega)) (by omega)) (by omega)
  | succ m ih =>
    intro j n n' p σ τ hj hn hn' hV hp hw h5 h6 hnum
    obtain ⟨n, rfl⟩ : ∃ a, n = a + 1 := ⟨n - 1, by omega⟩
    obtain ⟨n', rfl⟩ : ∃ a, n' = a + 1 := ⟨n' - 1, by omega⟩
    obtain ⟨ps, s1, s2, s3, s4, s5, s6⟩ := skips hT hV
    obtain ⟨a1, a2, a3, a4, a5, a6, a7, a8⟩ := id s6
    have hsk := skip_nop hT a8 a4 (by omega) s3
    have ec : pX4_readCommand_57 (n + 1) L (nI q) (nI j) σ = fw_b2 (pX4_readNumber (nI (4 * k + j)) (bI (decide (L = 102) && decide (j = 3))) (fw_u σ 4 4 (nI ps))) fun w18 τ17 => if w18 = 0 then fw_rz (0 : Int32) τ17 else pX4_readCommand_57 n L (nI q) (nI (j + 1)) τ17 := by
      rw [pX4_readCommand_57, if_neg (by rw [leI (by omega) (by omega)]; omega), s4, sbd]
      unfold pX4_readCommand_82
      rw [a5, show (4 : Int32) = nI 4 from rfl, mulI, nI_add, nI_1]
      by_cases h102 : L = 102
      · rw [if_pos h102]
        by_cases h3 : j = 3
        · rw [if_pos (by rw [h3]; rfl), decide_eq_true h102, decide_eq_true h3]; rfl
        · rw [if_neg (by rw [show (3 : Int32) = nI 3 from rfl, eqI (by omega) (by omega)]; exact h3), decide_eq_true h102, decide_eq_false h3]; rfl
      · rw [if_neg h102, decide_eq_false h102]; rfl
    have em : pX8_readCommand_62 (n' + 1) L (nI q) (nI (5 * k)) (nI j) τ = fw_b2 (pX8_readNumber (bI (decide (L = 102) && decide (j = 3))) (fw_u τ 0 11 (nI ps))) fun w32 τ31 => (fw_wr τ31 6 320 (nI (5 * k + 1 + j)) w32).bind fun τ33 => pX8_readCommand_62 n' L (nI q) (nI (5 * k)) (nI (j + 1)) τ33 := by
      rw [pX8_readCommand_62, if_neg (by rw [leI (by omega) (by omega)]; omega), if_pos hw, rdn_skip s5 hsk, rdn_skip s5 hsk, nI_1, nI_add, nI_1]
      by_cases h102 : L = 102
      · rw [if_pos h102]
        by_cases h3 : j = 3
        · rw [if_pos (by rw [h3]; rfl), decide_eq_true h102, decide_eq_true h3]; rfl
        · rw [if_neg (by rw [show (3 : Int32) = nI 3 from rfl, eqI (by omega) (by omega)]; exact h3), decide_eq_true h102, decide_eq_false h3]; rfl
      · rw [if_neg h102, decide_eq_false h102]; rfl
    rw [ec, em]
    rcases num2 hT (ix := 4 * k + j) (by omega) (decide (L = 102) && decide (j = 3)) a8 a3 a4 a1 s3 with ⟨p', v, b1, b2, b3, b4⟩ | ⟨p', v, σ', b1, b2, b3, b4, b5, b6⟩
    · rw [b3, sb2, if_neg (by decide), b4, sb2, wrI (by omega) (by omega), sbd]
      have hV2 : PV σ0 τ0 t (fw_u (fw_u (fw_u σ 4 4 (nI ps)) 4 4 (nI p')) 6 (4 * k + j) v) (fw_u (fw_u (fw_u (fw_u τ 0 11 (nI ps)) 0 11 (nI p')) 0 12 0) 6 (5 * k + 1 + j) v) p' k := by
        obtain ⟨c1, c2, c3, c4, c5, c6, c7, c8⟩ := s6.pos (p' := p') (by omega) b2
        refine ⟨c1, c2, by rw [fw_gn _ (by decide)]; exact c3, by rw [fw_gn _ (by decide), fw_uo _ _ _ _ _ (by decide)]; exact c4, by rw [fw_gn _ (by decide)]; exact c5, by rw [fw_gn _ (by decide), fw_uo _ _ _ _ _ (by decide)]; exact c6, fun i hi => (c7 i hi).cong (by rw [fw_gn _ (by decide)]) (fun l hl => by rw [fw_uo _ _ _ _ _ (by omega)]) (fun l hl => by rw [fw_uo _ _ _ _ _ (by omega), fw_gn _ (by decide)]), PFr.m6 (PFr.m0 (PFr.c c8 (by omega)) (by omega))⟩
      have w1 : fw_g (fw_u (fw_u (fw_u (fw_u τ 0 11 (nI ps)) 0 11 (nI p')) 0 12 0) 6 (5 * k + 1 + j) v) 0 12 = 0 := (congrFun (fw_gn _ (by decide)) _).trans (fw_us _ _ _ _)
      have w2 : fw_g (fw_u (fw_u (fw_u σ 4 4 (nI ps)) 4 4 (nI p')) 6 (4 * k + j) v) 5 k = L := by rw [fw_gn _ (by decide), fw_gn _ (by decide), fw_gn _ (by decide)]; exact h5
      have w3 : fw_g (fw_u (fw_u (fw_u (fw_u τ 0 11 (nI ps)) 0 11 (nI p')) 0 12 0) 6 (5 * k + 1 + j) v) 6 (5 * k) = L := by rw [fw_uo _ _ _ _ _ (by omega), fw_gn _ (by decide), fw_gn _ (by decide), fw_gn _ (by decide)]; exact h6
      have w4 : ∀ i, i < j + 1 → fw_g (fw_u (fw_u (fw_u σ 4 4 (nI ps)) 4 4 (nI p')) 6 (4 * k + j) v) 6 (4 * k + i) = fw_g (fw_u (fw_u (fw_u (fw_u τ 0 11 (nI ps)) 0 11 (nI p')) 0 12 0) 6 (5 * k + 1 + j) v) 6 (5 * k + 1 + i) := by
        intro i hi
        by_cases hij : i = j
        · subst hij; rw [fw_us, fw_us]
        · rw [fw_uo _ _ _ _ _ (by omega), fw_gn _ (by decide), fw_gn _ (by decide), fw_uo _ _ _ _ _ (by omega), fw_gn _ (by decide), fw_gn _ (by decide), fw_gn _ (by decide)]
          exact hnum i (by omega)
      rcases ih (j + 1) n n' p' _ _ (by omega) (by omega) (by omega) hV2 (by omega) w1 w2 w3 w4 with ⟨p2, σ2, τ2, d1, d2, d3, d4, d5⟩ | ⟨p2, σ2, τ2, d1, d2, d3⟩
      · left; exact ⟨p2, σ2, τ2, d1, d2, d3, by omega, d5⟩
      · right; exact ⟨p2, σ2, τ2, d1, d2, d3⟩
    · right
      rw [b3, sb2, if_pos rfl, rz0, b6, sb2, wrI (by omega) (by omega), sbd]
      obtain ⟨n', rfl⟩ : ∃ a, n' = a + 1 := ⟨n' - 1, by omega⟩
      have hw1 : fw_g (fw_u (fw_u (fw_u (fw_u τ 0 11 (nI ps)) 0 11 (nI p')) 0 12 1) 6 (5 * k + 1 + j) v) 0 12 = 1 := by rw [fw_gn _ (by decide), fw_us]
      refine ⟨p', σ', _, rfl, m_62stop hw1, b4, ?_, hw1, ?_⟩
      · rw [fw_gn _ (by decide), fw_uo _ _ _ _ _ (by decide), fw_us]
      · exact b5 _ (PFr.m6 (PFr.m0 (PFr.m0 a8 (by omega)) (by omega)))
/-- a command; the spaces before it are behind -/
theorem cmd2 (hT : rTx σ0 τ0 t) (hV : PV σ0 τ0 t σ τ p k) (hs : hr σ0 t p ≠ 32) (hk : k < 60) :
    (∃ p' σ' τ', pX4_readCommand σ = some (1, σ') ∧ pX8_readCommand τ = some τ' ∧ PV σ0 τ0 t σ' τ' p' (k + 1) ∧ p < p' ∧ fw_g τ' 0 12 = 0) ∨
    (∃ p' σ' τ', pX4_readCommand σ = some (0, σ') ∧ pX8_readCommand τ = some τ' ∧ PX σ0 τ0 σ' τ' p') := by
  have ht := hT.1
  obtain ⟨a1, a2, a3, a4, a5, a6, a7, a8⟩ := id hV
  unfold pX4_readCommand pX8_readCommand
  rw [c_byte hT a8 a3 (by omega), sb2, c_numbers, sb2, skip_nop hT a8 a4 (by omega) hs, sbd, m_here hT a8 a4 (by omega), sb2, m_numbers, sb2]
  unfold pX8_readCommand_24
  cases hL : nb (hr σ0 t p) with
  | none =>
    right
    dsimp only
    rw [if_pos rfl, rz0, if_neg (by decide), show fw_z 1 = some 1 from rfl, sbd, fw_us, if_neg (by decide)]
    exact ⟨p, _, _, rfl, rfl, a3, by rw [fw_uo _ _ _ _ _ (by decide)]; exact a4, fw_us _ _ _ _, a8.m0 (by omega)⟩
  | some q =>
    obtain ⟨hq, hne⟩ := nb_le hL
    have l1 : p < t := hr_lt rfl hne
    dsimp only
    have x10 : fw_g (fw_u (fw_u τ 0 12 0) 0 11 (nI (p + 1))) 0 10 = nI k := by rw [fw_uo _ _ _ _ _ (by decide), fw_uo _ _ _ _ _ (by decide)]; exact a6
    rw [if_neg (nI_no (by omega)), a5, if_pos (by rw [show (60 : Int32) = nI 60 from rfl, ltI (by omega) (by omega)]; exact hk), a3, nI_1, fw_uo _ _ _ _ _ (by decide), a5, wrI (by omega) (by omega), sbd, if_pos (nI_pos' (by omega)), show fw_z 0 = some 0 from rfl, sbd, fw_us, if_pos rfl, fw_uo _ _ _ _ _ (by decide), a4, nI_1, x10, show (5 : Int32) = nI 5 from rfl, mulI, wrI (by omega) (by omega), sbd]
    rcases cmd_loop hT hL hk q 0 400 400 (p + 1) (fw_u (fw_u σ 4 4 (nI (p + 1))) 5 k (hr σ0 t p)) (fw_u (fw_u (fw_u τ 0 12 0) 0 11 (nI (p + 1))) 6 (5 * k) (hr σ0 t p)) (by omega) (by omega) (by omega) ⟨by omega, by omega, by rw [fw_gn _ (by decide), fw_us], by rw [fw_gn _ (by decide), fw_us], by rw [fw_gn _ (by decide), fw_uo _ _ _ _ _ (by decide)]; exact a5, by rw [fw_gn _ (by decide)]; exact x10, fun i hi => (a7 i hi).cong (by rw [fw_uo _ _ _ _ _ (by omega), fw_gn _ (by decide)]) (fun l _ => by rw [fw_gn _ (by decide), fw_gn _ (by decide)]) (fun l hl => by rw [fw_uo _ _ _ _ _ (by omega), fw_gn _ (by decide), fw_gn _ (by decide)]), PFr.m6 (PFr.m0 (PFr.m0 (PFr.c (PFr.c a8 (by omega)) (by omega)) (by omega)) (by omega))⟩ (by omega) (by rw [fw_gn _ (by decide), fw_uo _ _ _ _ _ (by decide), fw_us]) (fw_us _ _ _ _) (fw_us _ _ _ _) (fun i hi => by omega) with ⟨p', σ', τ', d1, d2, d3, d4, d5⟩ | ⟨p', σ', τ', d1, d2, d3⟩
    · left; exact ⟨p', σ', τ', d1, d2, d3, by omega, d5⟩
    · right; exact ⟨p', σ', τ', d1, d2, d3⟩
theorem parse2 (hT : rTx σ0 τ0 t) : ∀ (n p k : Nat) (σ τ : fw_T), PV σ0 τ0 t σ τ p k → hr σ0 t p ≠ 32 → k < 60 → t - p < n →
    (∃ p' k' σ' τ', pX4_parse_16 n (nI k) σ = some (1, σ') ∧ pX8_runScript_10 n τ = pX8_runScript_39 τ' ∧ PV σ0 τ0 t σ' τ' p' k' ∧ fw_g τ' 0 12 = 0) ∨
    (∃ p' σ' τ', pX4_parse_16 n (nI k) σ = some (0, σ') ∧ pX8_runScript_10 n τ = pX8_runScript_39 τ' ∧ PX σ0 τ0 σ' τ' p') := by
  have ht := hT.1
  intro n
  induction n with
  | zero => intro p k σ τ _ _ _ h; omega
  | succ n ih =>
    intro p k σ τ hV hs hk hn
    rw [pX4_parse_16, if_neg (by rw [show (60 : Int32) = nI 60 from rfl, leI (by omega) (by omega)]; omega), pX8_runScript_10]
    rcases cmd2 hT hV hs hk with ⟨p1, σ1, τ1, d1, d2, d3, d4, d5⟩ | ⟨p1, σ1, τ1, d1, d2, d3⟩
    · obtain ⟨ps, s1, s2, s3, s4, s5, s6⟩ := skips hT d3
      obtain ⟨a1, a2, a3, a4, a5, a6, a7, a8⟩ := id s6
      have hw : fw_g (fw_u τ1 0 11 (nI ps)) 0 12 = 0 := by rw [fw_uo _ _ _ _ _ (by decide)]; exact d5
      rw [d1, sb2, if_neg (by decide), s4, sbd, a8.1 7 (by omega) (by omega) (by omega), hT.2.1, a3, d2, sbd, if_pos d5, s5, sbd, if_pos hw, m_here hT a8 a4 (by omega), sb2]
      by_cases hc : ps < t
      · obtain ⟨b, b1, b2, b3⟩ := hT.2.2.2 ps hc
        have hk1 : k + 1 < 60 := by omega
        rw [if_pos (by rw [ltI (by omega) (by omega)]; exact hc), nI_1, if_pos (show 0 ≤ hr σ0 t ps by unfold hr; rw [if_pos hc, b2]; exact nI_pos' (by omega))]
        exact ih ps (k + 1) _ _ s6 s3 hk1 (by omega)
      · left
        refine ⟨ps, k + 1, _, fw_u τ1 0 11 (nI ps), by rw [if_neg (by rw [ltI (by omega) (by omega)]; exact hc), rz1], ?_, s6, hw⟩
        rw [if_neg (by unfold hr; rw [if_neg hc]; decide)]
    · right
      have hw : ¬ fw_g τ1 0 12 = 0 := by rw [d3.2.2.1]; decide
      refine ⟨p1, σ1, τ1, by rw [d1, sb2, if_pos rfl, rz0], ?_, d3⟩
      rw [d2, sbd, if_neg hw, if_neg hw]
end
