/-! ===== the script: run ===== -/
section
variable {σ τ : fw_T} {k i : Nat}
theorem c_number (h3 : fw_g σ 4 3 = nI k) (hk : k ≤ 60) (hi : i < k) {j : Nat} (hj : j < 4) : pX4_number (nI i) (nI j) σ = some (fw_g σ 6 (4 * i + j), σ) := by
  unfold pX4_number
  rw [if_neg (nI_pos (by omega)), h3, if_neg (by rw [leI (by omega) (by omega)]; omega), if_neg (nI_pos (by omega)), show (4 : Int32) = nI 4 from rfl, if_pos (by rw [ltI (by omega) (by omega)]; omega), mulI, nI_add, rdI (by omega) (by omega), sbd]
theorem c_letter (h3 : fw_g σ 4 3 = nI k) (hk : k ≤ 60) (hi : i < k) : pX4_letter (nI i) σ = some (fw_g σ 5 i, σ) := by
  unfold pX4_letter
  rw [if_neg (nI_pos (by omega)), h3, if_neg (by rw [leI (by omega) (by omega)]; omega), rdI (by omega) (by omega), sbd]
theorem m_cmd {j : Nat} (hi : i < 60) (hj : j < 5) : fw_rd τ 6 320 (nI (5 * i + j)) = some (fw_g τ 6 (5 * i + j)) := rdI (by omega) (by omega)
def pf (L a b c d : Int32) (σ : fw_T) : Option (Int32 × fw_T) := if L = 102 then pX0_insert 17 a b c d σ else if L = 108 then pX2_insert 13 a b σ else if L = 114 then pX2_insert 15 a b σ else if L = 119 then pX2_insert 22 a b σ else if L = 120 then pX0_drop 17 a σ else pX2_dropAll 22 σ
def ex (L a b c d : Int32) (σ : fw_T) : Option (Int32 × fw_T) := if L = 102 then pX8_addFilter a b c d σ else if L = 108 then insBody 0 10 a b σ else if L = 114 then insBody 11 10 a b σ else if L = 119 then insBody 47 4 a b σ else if L = 120 then pX8_removeFilter a σ else pX8_clearWishes σ
theorem c_perform (h3 : fw_g σ 4 3 = nI k) (hk : k ≤ 60) (hi : i < k) : pX7_perform (nI i) σ = pf (fw_g σ 5 i) (fw_g σ 6 (4 * i + 0)) (fw_g σ 6 (4 * i + 1)) (fw_g σ 6 (4 * i + 2)) (fw_g σ 6 (4 * i + 3)) σ := by
  unfold pX7_perform pf
  simp only [b2_id]
  rw [show (0 : Int32) = nI 0 from rfl, show (1 : Int32) = nI 1 from rfl, c_number h3 hk hi (by omega), sb2, c_number h3 hk hi (by omega), sb2, c_letter h3 hk hi, sb2, show (2 : Int32) = nI 2 from rfl, show (3 : Int32) = nI 3 from rfl, c_number h3 hk hi (by omega), sb2, c_number h3 hk hi (by omega), sb2]
theorem m_execute (hi : i < 60) : pX8_execute (nI (5 * i)) τ = ex (fw_g τ 6 (5 * i + 0)) (fw_g τ 6 (5 * i + 1)) (fw_g τ 6 (5 * i + 2)) (fw_g τ 6 (5 * i + 3)) (fw_g τ 6 (5 * i + 4)) τ := by
  unfold pX8_execute ex
  simp only [b2_id]
  have e1 : ∀ x y τ, pX8_addLeft x y τ = insBody 0 10 x y τ := fun x y τ => b2_id _
  have e2 : ∀ x y τ, pX8_addRight x y τ = insBody 11 10 x y τ := fun x y τ => b2_id _
  have e3 : ∀ x y τ, pX8_addWish x y τ = insBody 47 4 x y τ := fun x y τ => rfl
  rw [show (1 : Int32) = nI 1 from rfl, nI_add, m_cmd hi (by omega), sbd, show (2 : Int32) = nI 2 from rfl, nI_add, m_cmd hi (by omega), sbd, show nI (5 * i) = nI (5 * i + 0) from rfl, m_cmd hi (by omega), sbd, show nI (5 * i + 0) = nI (5 * i) from rfl, show (3 : Int32) = nI 3 from rfl, show (4 : Int32) = nI 4 from rfl, nI_add, nI_add, m_cmd hi (by omega), sbd, m_cmd hi (by omega), sbd, e1, e2, e3]
theorem cmd_op {S : St} (hS : OKS S) (h3 : fw_g σ 4 3 = nI k) (hk : k ≤ 60) (hi : i < k) (hC : CM σ τ i) : ∃ f g, OpN f g S ∧ pX7_perform (nI i) σ = f σ ∧ pX8_execute (nI (5 * i)) τ = g τ := by
  obtain ⟨c1, q, c2, c3⟩ := hC
  rw [c_perform h3 hk hi, m_execute (by omega), show 5 * i + 0 = 5 * i from rfl, ← c1]
  have n1 : ∀ j, j < q → fw_g τ 6 (5 * i + (1 + j)) = fw_g σ 6 (4 * i + j) := fun j hj => by rw [c3 j hj, Nat.add_assoc]
  generalize fw_g σ 5 i = L at c2 ⊢
  unfold pf ex
  unfold nb at c2
  by_cases h1 : L = 102
  · subst h1
    rw [if_neg (by decide), if_pos rfl] at c2
    injection c2 with c2
    subst c2
    rw [if_pos rfl, if_pos rfl]
    have a0 := n1 0 (by omega)
    have a1 := n1 1 (by omega)
    have a2 := n1 2 (by omega)
    have a3 := n1 3 (by omega)
    rw [show 5 * i + 1 = 5 * i + (1 + 0) from rfl, show 5 * i + 2 = 5 * i + (1 + 1) from rfl, show 5 * i + 3 = 5 * i + (1 + 2) from rfl, show 5 * i + 4 = 5 * i + (1 + 3) from rfl, a0, a1, a2, a3]
    exact ⟨_, _, op_fins hS _ _ _ _, rfl, rfl⟩
  rw [if_neg h1, if_neg h1]
  rw [if_neg h1] at c2
  by_cases h2 : L = 108
  · subst h2
    rw [if_neg (by decide), if_pos rfl] at c2
    injection c2 with c2
    subst c2
    rw [if_pos rfl, if_pos rfl]
    have a0 := n1 0 (by omega)
    have a1 := n1 1 (by omega)
    rw [show 5 * i + 1 = 5 * i + (1 + 0) from rfl, show 5 * i + 2 = 5 * i + (1 + 1) from rfl, a0, a1]
    exact ⟨_, _, op_ins (slot1 hS) hS _ _, rfl, rfl⟩
  rw [if_neg h2, if_neg h2]
  rw [if_neg h2] at c2
  by_cases h4 : L = 114
  · subst h4
    rw [if_neg (by decide), if_pos rfl] at c2
    injection c2 with c2
    subst c2
    rw [if_pos rfl, if_pos rfl]
    have a0 := n1 0 (by omega)
    have a1 := n1 1 (by omega)
    rw [show 5 * i + 1 = 5 * i + (1 + 0) from rfl, show 5 * i + 2 = 5 * i + (1 + 1) from rfl, a0, a1]
    exact ⟨_, _, op_ins (slot2 hS) hS _ _, rfl, rfl⟩
  rw [if_neg h4, if_neg h4]
  rw [if_neg h4] at c2
  by_cases h5 : L = 119
  · subst h5
    rw [if_neg (by decide), if_pos rfl] at c2
    injection c2 with c2
    subst c2
    rw [if_pos rfl, if_pos rfl]
    have a0 := n1 0 (by omega)
    have a1 := n1 1 (by omega)
    rw [show 5 * i + 1 = 5 * i + (1 + 0) from rfl, show 5 * i + 2 = 5 * i + (1 + 1) from rfl, a0, a1]
    exact ⟨_, _, op_ins (slot4 hS) hS _ _, rfl, rfl⟩
  rw [if_neg h5, if_neg h5]
  rw [if_neg h5] at c2
  by_cases h6 : L = 120
  · subst h6
    rw [if_neg (by decide), if_pos rfl] at c2
    injection c2 with c2
    subst c2
    rw [if_pos rfl, if_pos rfl]
    have a0 := n1 0 (by omega)
    rw [show 5 * i + 1 = 5 * i + (1 + 0) from rfl, a0]
    exact ⟨_, _, op_fdel hS _, rfl, rfl⟩
  rw [if_neg h6, if_neg h6]
  exact ⟨_, _, op_clear hS, rfl, rfl⟩
end
theorem run2 {σ1 τ1 : fw_T} {k : Nat} (hk : k ≤ 60) (h3 : fw_g σ1 4 3 = nI k) (h10 : fw_g τ1 0 10 = nI k) (h5 : fw_g τ1 0 5 = 1) (hCM : ∀ i, i < k → CM σ1 τ1 i) : ∀ (n i : Nat) (σ τ : fw_T) (S : St), i ≤ k → k - i < n → OKS S → CS σ 12 S → rLm σ → (∀ j, (j < 12 ∨ 24 ≤ j) → fw_g σ j = fw_g σ1 j) → MS τ 1 0 S → (∀ j, j ≠ 1 → fw_g τ j = fw_g τ1 j) →
    (∃ σ' τ' S', pX7_runScript_34 n (nI i) σ = ((pX1_keepDraft σ').bind fun τ7 => some ((fw_g τ7 4 3), τ7)) ∧ pX8_runScript_87 n (nI i) τ = pX8_ends (nI k) (fw_u τ' 0 5 0) ∧ OKS S' ∧ CS σ' 12 S' ∧ rLm σ' ∧ (∀ j, (j < 12 ∨ 24 ≤ j) → fw_g σ' j = fw_g σ1 j) ∧ MS τ' 1 0 S' ∧ ∀ j, j ≠ 1 → fw_g τ' j = fw_g τ1 j) ∨
    (∃ i' σ' τ', i' < k ∧ pX7_runScript_34 n (nI i) σ = ((pX1_returnToDraft 12 σ').bind fun τ15 => some (((-1000 : Int32) - nI i'), τ15)) ∧ pX8_runScript_87 n (nI i) τ = pX8_ends (nI i') (fw_u τ' 0 5 0) ∧ rLm σ' ∧ (∀ j, (j < 12 ∨ 24 ≤ j) → fw_g σ' j = fw_g σ1 j) ∧ ∀ j, j ≠ 1 → fw_g τ' j = fw_g τ1 j) := by
  intro n
  induction n with
  | zero => intro i σ τ S _ h; omega
  | succ n ih =>
    intro i σ τ S hi hn hS hC hl f1 hM f2
    have g3 : fw_g σ 4 3 = nI k := by rw [f1 4 (by omega)]; exact h3
    have g10 : fw_g τ 0 10 = nI k := by rw [f2 0 (by omega)]; exact h10
    have g5 : fw_g τ 0 5 = 1 := by rw [f2 0 (by omega)]; exact h5
    have z0 : fw_z 0 = some 0 := rfl
    rw [pX7_runScript_34, pX8_runScript_87, g3, g10]
    simp only [b2_id]
    by_cases he : i = k
    · left
      subst he
      exact ⟨σ, τ, S, by rw [if_pos (by rw [leI (by omega) (by omega)]; omega)], by rw [if_pos (by rw [leI (by omega) (by omega)]; omega), z0, sbd], hS, hC, hl, f1, hM, f2⟩
    · have hCi : CM σ τ i := (hCM i (by omega)).cong (by rw [f1 5 (by omega)]) (fun l _ => by rw [f1 6 (by omega)]) (fun l _ => by rw [f2 6 (by omega)])
      obtain ⟨f, g, ⟨r, S', o1, o2, o3, o4, o5⟩, e1, e2⟩ := cmd_op hS g3 hk (show i < k by omega) hCi
      obtain ⟨σ2, c1, c2, c3, c4⟩ := o3 σ hC hl
      have nt : pX8_note τ = some τ := by
        unfold pX8_note
        rw [if_neg (by rw [g5]; decide)]
      rw [if_neg (by rw [leI (by omega) (by omega)]; omega), if_neg (by rw [leI (by omega) (by omega)]; omega), e1, c1, sb2, c_isError, sb2, show (5 : Int32) = nI 5 from rfl, mulI, e2]
      cases hr : isE r with
      | true =>
        right
        have hneg : r < 0 := by
          simp only [isE, Bool.or_eq_true, beq_iff_eq] at hr
          rcases hr with (h | h) | h <;> rw [h] <;> decide
        have fl : pX8_fail r τ = some (r, τ) := by
          unfold pX8_fail
          rw [if_neg (by rw [g5]; decide)]
        refine ⟨i, σ2, τ, by omega, by rw [bIt, if_neg (by decide)], ?_, c3, fun j hj => by rw [c4 j hj, f1 j hj], f2⟩
        rw [(o4 τ hM).1 hr, fl, sb2, if_pos hneg, z0, sbd]
      | false =>
        obtain ⟨τ2, m1, m2, m3⟩ := (o4 τ hM).2 hr τ nt hM
        rw [bIf, if_pos rfl, m1, sb2, if_neg (o5 hr), nI_1]
        exact ih (i + 1) σ2 τ2 S' (by omega) (by omega) o1 c2 c3 (fun j hj => by rw [c4 j hj, f1 j hj]) m2 (fun j hj => by rw [m3 j hj, f2 j hj])
/-! the reference's end of a script -/
def msw (τ : fw_T) (n : Nat) : fw_T := (fun j l => if (j = 1 ∨ j = 2) ∧ l < n then τ.1 (3 - j) l else τ.1 j l, τ.2)
theorem msw0 (τ : fw_T) : msw τ 0 = τ := by
  have : ∀ l : Nat, ¬ l < 0 := fun l => by omega
  simp only [msw, this, and_false, if_false]
theorem msw_ne {τ : fw_T} {n j : Nat} (h1 : j ≠ 1) (h2 : j ≠ 2) : fw_g (msw τ n) j = fw_g τ j := by
  funext l
  simp [fw_g, msw, h1, h2]
theorem msw_1 (τ : fw_T) (n l : Nat) : fw_g (msw τ n) 1 l = if l < n then fw_g τ 2 l else fw_g τ 1 l := by
  simp [fw_g, msw]
theorem msw_2 (τ : fw_T) (n l : Nat) : fw_g (msw τ n) 2 l = if l < n then fw_g τ 1 l else fw_g τ 2 l := by
  simp [fw_g, msw]
theorem msw_step (τ : fw_T) (i : Nat) : fw_u (fw_u (msw τ i) 1 i (fw_g τ 2 i)) 2 i (fw_g τ 1 i) = msw τ (i + 1) := by
  unfold fw_u msw fw_g
  refine Prod.ext (funext fun a => funext fun l => ?_) rfl
  by_cases hl : l = i
  · subst hl
    by_cases h2 : a = 2
    · subst h2; simp
    · by_cases h1 : a = 1
      · subst h1; simp
      · simp [h1, h2]
  · have e : l < i ↔ l < i + 1 := by omega
    simp [hl, e]
theorem ends16 (τ : fw_T) (x1 x2 : Int32) : pX8_ends_16 400 x1 x2 0 τ = if x2 = 0 then ((pX8_note (msw τ 52)).bind fun τ2 => pX8_ends_72 400 (0 : Int32) τ2) else some (((-1000 : Int32) - x1), msw τ 52) := by
  have := lp_all (fun n i => pX8_ends_16 n x1 x2 (nI i) (msw τ i)) (N := 52) (fin := if x2 = 0 then ((pX8_note (msw τ 52)).bind fun τ2 => pX8_ends_72 400 (0 : Int32) τ2) else some (((-1000 : Int32) - x1), msw τ 52)) ?_ ?_ 400 0 (Nat.zero_le _) (by omega)
  · simp only [msw0] at this
    exact this
  · intro n
    rw [pX8_ends_16, if_pos (by decide)]
  · intro n i hi
    rw [pX8_ends_16, if_neg (by rw [show (52 : Int32) = nI 52 from rfl, leI (by omega) (by omega)]; omega), rdI (by omega) (by omega), sbd, rdI (by omega) (by omega), sbd, wrI (by omega) (by omega), sbd, wrI (by omega) (by omega), sbd, nI_1, msw_1, msw_2, if_neg (by omega), if_neg (by omega), msw_step]
theorem ends72 (τ : fw_T) : pX8_ends_72 400 0 τ = some (fw_g τ 0 10, mcp τ 2 0 1 0 52) := by
  have := lp_all (fun n i => pX8_ends_72 n (nI i) (mcp τ 2 0 1 0 i)) (N := 52) (fin := some (fw_g τ 0 10, mcp τ 2 0 1 0 52)) ?_ ?_ 400 0 (Nat.zero_le _) (by omega)
  · simp only [mcp0] at this
    exact this
  · intro n
    rw [pX8_ends_72, if_pos (by decide), mcp_ne (by decide)]
  · intro n i hi
    rw [pX8_ends_72, if_neg (by rw [show (52 : Int32) = nI 52 from rfl, leI (by omega) (by omega)]; omega), rdI (by omega) (by omega), sbd, mcp_ne (by decide), wrI (by omega) (by omega), sbd, nI_1]
    have := mcp_step (τ := τ) (s := 2) (so := 0) (d := 1) (o := 0) (i := i)
    rw [Nat.zero_add] at this
    rw [this]
theorem rs56 (τ : fw_T) : pX8_runScript_56 400 0 τ = pX8_runScript_87 400 0 (fw_u (mcp τ 1 0 2 0 52) 0 5 1) := by
  have := lp_all (fun n i => pX8_runScript_56 n (nI i) (mcp τ 1 0 2 0 i)) (N := 52) (fin := pX8_runScript_87 400 0 (fw_u (mcp τ 1 0 2 0 52) 0 5 1)) ?_ ?_ 400 0 (Nat.zero_le _) (by omega)
  · simp only [mcp0] at this
    exact this
  · intro n
    rw [pX8_runScript_56, if_pos (by decide), show fw_z 1 = some 1 from rfl, sbd]
  · intro n i hi
    rw [pX8_runScript_56, if_neg (by rw [show (52 : Int32) = nI 52 from rfl, leI (by omega) (by omega)]; omega), rdI (by omega) (by omega), sbd, mcp_ne (by decide), wrI (by omega) (by omega), sbd, nI_1]
    have := mcp_step (τ := τ) (s := 1) (so := 0) (d := 2) (o := 0) (i := i)
    rw [Nat.zero_add] at this
    rw [this]
theorem run_tail {σ τ : fw_T} {k : Nat} (h : sim_Rel σ τ) (hk : k ≤ 60) (h3 : fw_g σ 4 3 = nI k) (h10 : fw_g τ 0 10 = nI k) (hCM : ∀ i, i < k → CM σ τ i) : ∃ r σ' τ', ((pX1_draft 12 σ).bind fun τ5 => pX7_runScript_34 400 (0 : Int32) τ5) = some (r, σ') ∧ pX8_runScript_56 400 0 τ = some (r, τ') ∧ sim_Rel σ' τ' := by
  obtain ⟨S, hS, hC, hM, a, hl, hE, ⟨t, t1, t2, t3, t4⟩, d, p, d1, d2, d3, d4, d5, d6⟩ := h
  obtain ⟨σ1, e1, c1, f1⟩ := c_draft σ d1 d3 hC hS
  have hl1 : rLm σ1 := ⟨by rw [f1 _ (by omega)]; exact hl.1, by rw [f1 _ (by omega)]; exact hl.2.1, by rw [f1 _ (by omega)]; exact hl.2.2⟩
  have d6' : rPs σ1 τ d p := d6.draft d2 d1 (σ' := σ1) f1
  rw [e1, sbd, rs56]
  have hne : ∀ j, j ≠ 0 → j ≠ 2 → fw_g (fw_u (mcp τ 1 0 2 0 52) 0 5 1) j = fw_g τ j := fun j h0 h2 => by rw [fw_gn _ h0, mcp_ne h2]
  have h0k : ∀ l, l ≠ 5 → fw_g (fw_u (mcp τ 1 0 2 0 52) 0 5 1) 0 l = fw_g τ 0 l := fun l hl => by rw [fw_uo _ _ _ _ _ hl, mcp_ne (by decide)]
  have h2k : ∀ l, l < 52 → fw_g (fw_u (mcp τ 1 0 2 0 52) 0 5 1) 2 l = fw_g τ 1 l := fun l hl => by
    have := mcp_in τ 1 0 2 0 (n := 52) hl
    rw [Nat.zero_add] at this
    rw [fw_gn _ (by decide), this]
  have hCM1 : ∀ i, i < k → CM σ1 (fw_u (mcp τ 1 0 2 0 52) 0 5 1) i := fun i hi => (hCM i hi).cong (by rw [f1 5 (by omega)]) (fun l _ => by rw [f1 6 (by omega)]) (fun l _ => by rw [hne 6 (by omega) (by omega)])
  rcases run2 (σ1 := σ1) (τ1 := fw_u (mcp τ 1 0 2 0 52) 0 5 1) hk (by rw [f1 4 (by omega)]; exact h3) (by rw [h0k 10 (by omega)]; exact h10) (fw_us _ _ _ _) hCM1 400 0 σ1 (fw_u (mcp τ 1 0 2 0 52) 0 5 1) S (by omega) (by omega) hS (hC.frame (fun j h1 h2 => f1 j (by omega))) hl1 (fun _ _ => rfl) (hM.frame hS (fun j _ => by rw [hne 1 (by omega) (by omega)])) (fun _ _ => rfl) with ⟨σ2, τ2, S', r1, r2, r3, r4, r5, r6, r7, r8⟩ | ⟨i', σ2, τ2, r0, r1, r2, r5, r6, r8⟩
  · -- all ran
    have x0 : ∀ l, l ≠ 5 → fw_g (msw (fw_u τ2 0 5 0) 52) 0 l = fw_g τ 0 l := fun l hl => by rw [msw_ne (by decide) (by decide), fw_uo _ _ _ _ _ hl, r8 0 (by decide), h0k l hl]
    have x5 : fw_g (msw (fw_u τ2 0 5 0) 52) 0 5 = 0 := by rw [msw_ne (by decide) (by decide), fw_us]
    have xj : ∀ j, j ≠ 0 → j ≠ 1 → j ≠ 2 → fw_g (msw (fw_u τ2 0 5 0) 52) j = fw_g τ j := fun j h0 h1 h2 => by rw [msw_ne h1 h2, fw_gn _ h0, r8 j h1, hne j h0 h2]
    have x1 : ∀ l, l < 52 → fw_g (msw (fw_u τ2 0 5 0) 52) 1 l = fw_g τ 1 l := fun l hl => by rw [msw_1, if_pos hl, fw_gn _ (by decide), r8 2 (by decide), h2k l hl]
    have x2 : ∀ l, l < 52 → fw_g (msw (fw_u τ2 0 5 0) 52) 2 l = fw_g τ2 1 l := fun l hl => by rw [msw_2, if_pos hl, fw_gn _ (by decide)]
    obtain ⟨τ3, n1, n2, n3, n4, n5, n6⟩ := m_note (msw (fw_u τ2 0 5 0) 52) d2 x5 (by rw [x0 3 (by decide)]; exact d5)
    obtain ⟨σ3, k1, k2, k3, k4⟩ := c_keepDraft σ2 d1 d2 (by rw [r6 2 (by omega), f1 2 (by omega)]; exact d3) (by rw [r6 2 (by omega), f1 2 (by omega)]; exact d4)
    have f3 : ∀ j, j < 12 → j ≠ 2 → fw_g σ3 j = fw_g σ j := fun j h1 h2 => by rw [k4 j h2, r6 j (by omega), f1 j (by omega)]
    refine ⟨nI k, σ3, mcp τ3 2 0 1 0 52, ?_, ?_, S', r3, r4.frame (fun j h1 h2 => k4 j (by omega)), ?_, ?_⟩
    · have : pX7_runScript_34 400 0 σ1 = pX7_runScript_34 400 (nI 0) σ1 := rfl
      rw [this, r1, k1, sbd, f3 4 (by omega) (by omega), h3]
    · have : pX8_runScript_87 400 0 (fw_u (mcp τ 1 0 2 0 52) 0 5 1) = pX8_runScript_87 400 (nI 0) (fw_u (mcp τ 1 0 2 0 52) 0 5 1) := rfl
      rw [this, r2]
      unfold pX8_ends
      rw [fw_uo _ _ _ _ _ (by decide), r8 0 (by decide), h0k 10 (by decide), h10, if_pos (by rw [leI (by omega) (by omega)]; omega), ends16, if_pos rfl, n1, sbd, ends72, n3 10 (by decide), x0 10 (by decide), h10]
    · refine r7.frame r3 (fun j hj => ?_)
      have := mcp_in τ3 2 0 1 0 (n := 52) hj
      rw [this, n4 2 (by decide) (by decide), Nat.zero_add, x2 j hj]
    · refine ⟨by rw [mcp_ne (by decide), n3 5 (by decide)]; exact x5, ⟨by rw [k4 13 (by decide)]; exact r5.1, by rw [k4 15 (by decide)]; exact r5.2.1, by rw [k4 22 (by decide)]; exact r5.2.2⟩, fun i hi => by rw [f3 9 (by omega) (by omega), mcp_ne (by decide), n4 4 (by decide) (by decide), xj 4 (by decide) (by decide) (by decide)]; exact hE i hi, ⟨t, t1, by rw [f3 7 (by omega) (by omega)]; exact t2, by rw [mcp_ne (by decide), n3 7 (by decide), x0 7 (by decide)]; exact t3, fun i hi => by rw [f3 8 (by omega) (by omega), mcp_ne (by decide), n4 5 (by decide) (by decide), xj 5 (by decide) (by decide) (by decide)]; exact t4 i hi⟩, (d + 1) % 6, min 5 (p + 1), by omega, by omega, k2, k3, by rw [mcp_ne (by decide)]; exact n2, ?_⟩
      refine rPs.frame (σ := σ1) (τ := τ3) ?_ (fun j h1 _ => by rw [k4 j (by omega), r6 j (by omega)]) (mcp_ne (by decide))
      refine rPs.keep (S := S) (τ := msw (fw_u τ2 0 5 0) 52) ?_ d2 d1 hS c1 (hM.frame hS (fun j hj => by rw [Nat.zero_add, x1 j hj])) n5 n6
      exact d6'.frame (fun _ _ _ => rfl) (xj 3 (by decide) (by decide) (by decide))
  · -- one failed
    have x0 : ∀ l, l ≠ 5 → fw_g (msw (fw_u τ2 0 5 0) 52) 0 l = fw_g τ 0 l := fun l hl => by rw [msw_ne (by decide) (by decide), fw_uo _ _ _ _ _ hl, r8 0 (by decide), h0k l hl]
    have x5 : fw_g (msw (fw_u τ2 0 5 0) 52) 0 5 = 0 := by rw [msw_ne (by decide) (by decide), fw_us]
    have xj : ∀ j, j ≠ 0 → j ≠ 1 → j ≠ 2 → fw_g (msw (fw_u τ2 0 5 0) 52) j = fw_g τ j := fun j h0 h1 h2 => by rw [msw_ne h1 h2, fw_gn _ h0, r8 j h1, hne j h0 h2]
    have x1 : ∀ l, l < 52 → fw_g (msw (fw_u τ2 0 5 0) 52) 1 l = fw_g τ 1 l := fun l hl => by rw [msw_1, if_pos hl, fw_gn _ (by decide), r8 2 (by decide), h2k l hl]
    obtain ⟨σ3, k1, k2, k3, k4⟩ := c_return σ2 d1 (by rw [r6 2 (by omega), f1 2 (by omega)]; exact d3) (c1.frame (fun j h1 h2 => r6 j (by omega))) hS
    have f3 : ∀ j, j < 12 → fw_g σ3 j = fw_g σ j := fun j h1 => by rw [k3 j (by omega), r6 j (by omega), f1 j (by omega)]
    refine ⟨-1000 - nI i', σ3, msw (fw_u τ2 0 5 0) 52, ?_, ?_, S, hS, k2, hM.frame hS (fun j hj => by rw [Nat.zero_add, x1 j hj]), ?_⟩
    · have : pX7_runScript_34 400 0 σ1 = pX7_runScript_34 400 (nI 0) σ1 := rfl
      rw [this, r1, k1, sbd]
    · have : pX8_runScript_87 400 0 (fw_u (mcp τ 1 0 2 0 52) 0 5 1) = pX8_runScript_87 400 (nI 0) (fw_u (mcp τ 1 0 2 0 52) 0 5 1) := rfl
      rw [this, r2]
      unfold pX8_ends
      rw [fw_uo _ _ _ _ _ (by decide), r8 0 (by decide), h0k 10 (by decide), h10, if_neg (by rw [leI (by omega) (by omega)]; omega), ends16, if_neg (by decide)]
    · refine ⟨x5, k4 r5, fun i hi => by rw [f3 9 (by omega), xj 4 (by decide) (by decide) (by decide)]; exact hE i hi, ⟨t, t1, by rw [f3 7 (by omega)]; exact t2, by rw [x0 7 (by decide)]; exact t3, fun i hi => by rw [f3 8 (by omega), xj 5 (by decide) (by decide) (by decide)]; exact t4 i hi⟩, d, p, d1, d2, by rw [f3 2 (by omega)]; exact d3, by rw [f3 2 (by omega)]; exact d4, by rw [x0 3 (by decide)]; exact d5, ?_⟩
      exact d6'.frame (fun j h1 _ => by rw [k3 j (by omega), r6 j (by omega)]) (xj 3 (by decide) (by decide) (by decide))
theorem rs10_skip {τ τ' : fw_T} {n : Nat} (h1 : pX8_skip τ = some τ') (h2 : pX8_skip τ' = some τ') : pX8_runScript_10 (n + 1) τ = pX8_runScript_10 (n + 1) τ' := by
  have e : pX8_readCommand τ = pX8_readCommand τ' := by
    unfold pX8_readCommand
    rw [h1, h2]
  rw [pX8_runScript_10, pX8_runScript_10, e]
theorem sim_runScript : sm0 sim_Rel pX7_runScript pX8_runScript := by
  intro σ τ h
  obtain ⟨S, hS, hC, hM, hR⟩ := id h
  obtain ⟨-, -, -, ⟨t, hT⟩, -⟩ := id hR
  have ht := hT.1
  have hV0 : PV σ τ t (fw_u (fw_u σ 4 3 0) 4 4 0) (fw_u (fw_u τ 0 11 0) 0 10 0) 0 0 := ⟨by omega, by omega, fw_us _ _ _ _, by rw [fw_uo _ _ _ _ _ (by decide), fw_us]; rfl, by rw [fw_uo _ _ _ _ _ (by decide), fw_us]; rfl, fw_us _ _ _ _, fun i hi => by omega, PFr.m0 (PFr.m0 (PFr.c (PFr.c ⟨fun _ _ _ _ => rfl, fun _ _ _ => rfl, fun _ _ _ _ => rfl⟩ (by omega)) (by omega)) (by omega)) (by omega)⟩
  obtain ⟨ps, s1, s2, s3, s4, s5, s6⟩ := skips hT hV0
  have hsk := skip_nop hT s6.2.2.2.2.2.2.2 s6.2.2.2.1 (by omega) s3
  have rel : ∀ σ' τ', PFr σ τ σ' τ' → sim_Rel σ' τ' := fun σ' τ' hf => sim_scr h (fun j h4 h5 h6 _ _ => hf.1 j h4 h5 h6) (fun j hj => hf.2.1 j (by omega) (by omega)) (fun l hl => hf.2.2 l (by omega) (by omega) (by omega))
  have em : pX8_runScript τ = pX8_runScript_10 400 (fw_u (fw_u (fw_u τ 0 11 0) 0 10 0) 0 11 (nI ps)) := rs10_skip s5 hsk
  unfold pX7_runScript pX4_parse
  rw [s4, sbd, em, show pX4_parse_16 400 (0 : Int32) = pX4_parse_16 400 (nI 0) from rfl]
  rcases parse2 hT 400 ps 0 _ _ s6 s3 (by omega) (by omega) with ⟨p', k', σ', τ', q1, q2, q3, q4⟩ | ⟨p', σ', τ', q1, q2, q3⟩
  · rw [q1, sb2, if_neg (by decide), q2]
    unfold pX8_runScript_39
    rw [if_pos q4]
    obtain ⟨a1, a2, a3, a4, a5, a6, a7, a8⟩ := q3
    exact run_tail (rel _ _ a8) (by omega) a5 a6 a7
  · refine ⟨-10 - nI p', σ', τ', ?_, ?_, rel _ _ q3.2.2.2⟩
    · rw [q1, sb2, if_pos rfl, q3.1]
    · rw [q2]
      unfold pX8_runScript_39
      rw [if_neg (by rw [q3.2.2.1]; decide), q3.2.1]
