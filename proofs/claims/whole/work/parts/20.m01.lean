section
variable {p : Program} {l : Launch} {e : Env} {s : State} {m : MethodId} {below : List Frame} {meth : Method} {c : Code} {D : va_G} {cI cO cB : ClassId} {adr : Nat → Nat} {A : Nat → Prop}
abbrev rmX8_holds : Room := { frames := 0, cells := 0, slots := 0, locals := 0 }
theorem qX8_holds : fw_QS yX8_holds cX8_holds 3 (some .boolean) 3 := ⟨⟨tw_4_115, tw_1_10, tw_4_116⟩, by decide +kernel⟩
def pX8_holds (x0 : Int32) (x1 : Int32) (x2 : Int32) (σ : fw_T) : Option (Int32 × fw_T) :=
  if x1 = 0 then
    if x2 < x0 then
      fw_rz (0 : Int32) σ
    else
      fw_rz (1 : Int32) σ
  else
    if x1 = (1 : Int32) then
      if x0 < x2 then
        fw_rz (0 : Int32) σ
      else
        fw_rz (1 : Int32) σ
    else
      if x1 = (2 : Int32) then
        if x0 = x2 then
          fw_rz (1 : Int32) σ
        else
          fw_rz (0 : Int32) σ
      else
        if x0 = x2 then
          fw_rz (0 : Int32) σ
        else
          fw_rz (1 : Int32) σ
set_option maxRecDepth 100000 in
set_option maxHeartbeats 4000000 in
theorem kX8_holds {x0 : Int32} {x1 : Int32} {x2 : Int32} {r : Int32} {σ σ' : fw_T} (hf : pX8_holds x0 x1 x2 σ = some (r, σ')) : fw_Ci l yX8_holds (Cond.code yX8_holds cX8_holds 3 (some .boolean) :: lwT) rmX8_holds [.int x0, .int x1, .int x2] D 7 adr (fw_M cI cB adr) (fmT cI cB) [] σ r σ' := by
  refine fw_start (Qc := (fun A => va_Qi (fun r' (_ : Unit) => r' = r) (fun _ t => va_P D vwCl (fw_ws 7 adr (fw_M cI cB adr σ')) t.heap) A)) (by decide) (by simp [lg_sl, Value.category]) rfl ?_
  intro p e s m below meth c A X hH ls hl
  have hx := X.1.1
  have hb := X.1.2.1
  have hl : lv_has ls 3 [(0, .int x0), (1, .int x1), (2, .int x2)] := hl
  unfold pX8_holds at hf
  refine lv_iload_n hx hb dX8_holds_0 rfl (lv_at hl 1 rfl) ?_
  refine lv_if_ne (tgt := 17) hx hb dX8_holds_1 (by decide) (fun hc => ?_) (fun hc => ?_)
  · have hf := fw_neg hc hf
    refine lv_iload_n hx hb dX8_holds_17 rfl (lv_at hl 1 rfl) ?_
    refine lv_iconst (v := (1 : Int32)) hx hb dX8_holds_18 (by decide) ?_
    refine lv_icmp_ne (tgt := 35) hx hb dX8_holds_19 (by decide) (fun hc => ?_) (fun hc => ?_)
    · have hf := fw_neg hc hf
      refine lv_iload_n hx hb dX8_holds_35 rfl (lv_at hl 1 rfl) ?_
      refine lv_iconst (v := (2 : Int32)) hx hb dX8_holds_36 (by decide) ?_
      refine lv_icmp_ne (tgt := 53) hx hb dX8_holds_37 (by decide) (fun hc => ?_) (fun hc => ?_)
      · have hf := fw_neg hc hf
        refine lv_iload_n hx hb dX8_holds_53 rfl (lv_at hl 0 rfl) ?_
        refine lv_iload_n hx hb dX8_holds_54 rfl (lv_at hl 2 rfl) ?_
        refine lv_icmp_eq (tgt := 62) hx hb dX8_holds_55 (by decide) (fun hc => ?_) (fun hc => ?_)
        · have hf := fw_pos hc hf
          refine lv_iconst (v := (0 : Int32)) hx hb dX8_holds_62 (by decide) ?_
          obtain ⟨rfl, rfl, hz⟩ := fw_rzs hf
          exact fw_retz X hH hz dX8_holds_63
        · have hf := fw_neg hc hf
          refine lv_iconst (v := (1 : Int32)) hx hb dX8_holds_58 (by decide) ?_
          refine lv_goto (tgt := 63) hx hb dX8_holds_59 (by decide) ?_
          obtain ⟨rfl, rfl, hz⟩ := fw_rzs hf
          exact fw_retz X hH hz dX8_holds_63
      · have hf := fw_pos hc hf
        refine lv_iload_n hx hb dX8_holds_40 rfl (lv_at hl 0 rfl) ?_
        refine lv_iload_n hx hb dX8_holds_41 rfl (lv_at hl 2 rfl) ?_
        refine lv_icmp_ne (tgt := 49) hx hb dX8_holds_42 (by decide) (fun hc => ?_) (fun hc => ?_)
        · have hf := fw_neg hc hf
          refine lv_iconst (v := (0 : Int32)) hx hb dX8_holds_49 (by decide) ?_
          refine lv_goto (tgt := 63) hx hb dX8_holds_50 (by decide) ?_
          obtain ⟨rfl, rfl, hz⟩ := fw_rzs hf
          exact fw_retz X hH hz dX8_holds_63
        · have hf := fw_pos hc hf
          refine lv_iconst (v := (1 : Int32)) hx hb dX8_holds_45 (by decide) ?_
          refine lv_goto (tgt := 63) hx hb dX8_holds_46 (by decide) ?_
          obtain ⟨rfl, rfl, hz⟩ := fw_rzs hf
          exact fw_retz X hH hz dX8_holds_63
    · have hf := fw_pos hc hf
      refine lv_iload_n hx hb dX8_holds_22 rfl (lv_at hl 0 rfl) ?_
      refine lv_iload_n hx hb dX8_holds_23 rfl (lv_at hl 2 rfl) ?_
      refine lv_icmp_lt (tgt := 31) hx hb dX8_holds_24 (by decide) (fun hc => ?_) (fun hc => ?_)
      · have hf := fw_pos hc hf
        refine lv_iconst (v := (0 : Int32)) hx hb dX8_holds_31 (by decide) ?_
        refine lv_goto (tgt := 63) hx hb dX8_holds_32 (by decide) ?_
        obtain ⟨rfl, rfl, hz⟩ := fw_rzs hf
        exact fw_retz X hH hz dX8_holds_63
      · have hf := fw_neg hc hf
        refine lv_iconst (v := (1 : Int32)) hx hb dX8_holds_27 (by decide) ?_
        refine lv_goto (tgt := 63) hx hb dX8_holds_28 (by decide) ?_
        obtain ⟨rfl, rfl, hz⟩ := fw_rzs hf
        exact fw_retz X hH hz dX8_holds_63
  · have hf := fw_pos hc hf
    refine lv_iload_n hx hb dX8_holds_4 rfl (lv_at hl 0 rfl) ?_
    refine lv_iload_n hx hb dX8_holds_5 rfl (lv_at hl 2 rfl) ?_
    refine lv_icmp_gt (tgt := 13) hx hb dX8_holds_6 (by decide) (fun hc => ?_) (fun hc => ?_)
    · have hf := fw_pos hc hf
      refine lv_iconst (v := (0 : Int32)) hx hb dX8_holds_13 (by decide) ?_
      refine lv_goto (tgt := 63) hx hb dX8_holds_14 (by decide) ?_
      obtain ⟨rfl, rfl, hz⟩ := fw_rzs hf
      exact fw_retz X hH hz dX8_holds_63
    · have hf := fw_neg hc hf
      refine lv_iconst (v := (1 : Int32)) hx hb dX8_holds_9 (by decide) ?_
      refine lv_goto (tgt := 63) hx hb dX8_holds_10 (by decide) ?_
      obtain ⟨rfl, rfl, hz⟩ := fw_rzs hf
      exact fw_retz X hH hz dX8_holds_63
abbrev rmX8_accepts : Room := { frames := 1, cells := 0, slots := 0, locals := 24 }
theorem qX8_accepts : fw_QV RX8 yX8_accepts cX8_accepts 5 (some .boolean) 4 := ⟨⟨tw_4_109, tv_X8_accepts, tw_1_10, tw_4_110⟩, by decide +kernel⟩
def pX8_accepts (x1 : Int32) (x2 : Int32) (x3 : Int32) (x4 : Int32) (σ : fw_T) : Option (Int32 × fw_T) :=
  fw_b2 (pX8_of x1 (0 : Int32) σ) fun w3 τ2 =>
  fw_b2 (pX8_of x1 (1 : Int32) τ2) fun w6 τ5 =>
  fw_b2 (pX8_columnOf w3 w6 x2 x3 x4 τ5) fun w9 τ8 =>
  fw_b2 (pX8_of x1 (2 : Int32) τ8) fun w12 τ11 =>
  fw_b2 (pX8_of x1 (3 : Int32) τ11) fun w15 τ14 =>
  fw_b2 (pX8_holds w9 w12 w15 τ14) fun w18 τ17 =>
  fw_rz w18 τ17
set_option maxRecDepth 100000 in
set_option maxHeartbeats 4000000 in
theorem kX8_accepts {x1 : Int32} {x2 : Int32} {x3 : Int32} {x4 : Int32} {r : Int32} {σ σ' : fw_T} (hf : pX8_accepts x1 x2 x3 x4 σ = some (r, σ')) : fw_Ci l yX8_accepts (Cond.code yX8_accepts cX8_accepts 5 (some .boolean) :: lwT) rmX8_accepts [.ref (adr 0), .int x1, .int x2, .int x3, .int x4] D 7 adr (fw_M cI cB adr) (fmT cI cB) [] σ r σ' := by
  refine fw_start (Qc := (fun A => va_Qi (fun r' (_ : Unit) => r' = r) (fun _ t => va_P D vwCl (fw_ws 7 adr (fw_M cI cB adr σ')) t.heap) A)) (by decide) (by simp [lg_sl, Value.category]) rfl ?_
  intro p e s m below meth c A X hH ls hl
  have hx := X.1.1
  have hb := X.1.2.1
  have hl : lv_has ls 5 [(0, .ref (adr 0)), (1, .int x1), (2, .int x2), (3, .int x3), (4, .int x4)] := hl
  unfold pX8_accepts at hf
  refine lv_aload_n hx hb dX8_accepts_0 rfl (lv_at hl 0 rfl) ?_
  refine lv_iload_n hx hb dX8_accepts_1 rfl (lv_at hl 1 rfl) ?_
  refine lv_iconst (v := (0 : Int32)) hx hb dX8_accepts_2 (by decide) ?_
  obtain ⟨w3, τ2, g1, hf⟩ := fw_b2s hf
  refine fw_ci hH (fw_rV (As := [.int x1, .int (0 : Int32)]) (rest := []) (id := 0) X hH (kX8_of  g1 _) qX8_of tw_4_87 ⟨Nat.le_of_ble_eq_true rfl, Nat.le_of_ble_eq_true rfl⟩ rfl rfl (by decide) rfl rfl rfl hl.1 rfl (Nat.le_of_ble_eq_true rfl) dX8_accepts_3) (fun H locs hH => ?_)
  refine lv_aload_n hx hb dX8_accepts_6 rfl (lv_at hl 0 rfl) ?_
  refine lv_iload_n hx hb dX8_accepts_7 rfl (lv_at hl 1 rfl) ?_
  refine lv_iconst (v := (1 : Int32)) hx hb dX8_accepts_8 (by decide) ?_
  obtain ⟨w6, τ5, g4, hf⟩ := fw_b2s hf
  refine fw_ci hH (fw_rV (As := [.int x1, .int (1 : Int32)]) (rest := [.int w3]) (id := 0) X hH (kX8_of  g4 _) qX8_of tw_4_87 ⟨Nat.le_of_ble_eq_true rfl, Nat.le_of_ble_eq_true rfl⟩ rfl rfl (by decide) rfl rfl rfl hl.1 rfl (Nat.le_of_ble_eq_true rfl) dX8_accepts_9) (fun H locs hH => ?_)
  refine lv_iload_n hx hb dX8_accepts_12 rfl (lv_at hl 2 rfl) ?_
  refine lv_iload_n hx hb dX8_accepts_13 rfl (lv_at hl 3 rfl) ?_
  refine lv_iload hx hb dX8_accepts_14 (lv_at hl 4 rfl) ?_
  obtain ⟨w9, τ8, g7, hf⟩ := fw_b2s hf
  refine fw_ci hH (fw_rS (As := [.int w3, .int w6, .int x2, .int x3, .int x4]) (rest := []) X hH (kX8_columnOf  g7 _) qX8_columnOf tw_4_111 ⟨Nat.le_of_ble_eq_true rfl, Nat.le_of_ble_eq_true rfl⟩ rfl rfl rfl hl.1 rfl (Nat.le_of_ble_eq_true rfl) dX8_accepts_16) (fun H locs hH => ?_)
  refine lv_aload_n hx hb dX8_accepts_19 rfl (lv_at hl 0 rfl) ?_
  refine lv_iload_n hx hb dX8_accepts_20 rfl (lv_at hl 1 rfl) ?_
  refine lv_iconst (v := (2 : Int32)) hx hb dX8_accepts_21 (by decide) ?_
  obtain ⟨w12, τ11, g10, hf⟩ := fw_b2s hf
  refine fw_ci hH (fw_rV (As := [.int x1, .int (2 : Int32)]) (rest := [.int w9]) (id := 0) X hH (kX8_of  g10 _) qX8_of tw_4_87 ⟨Nat.le_of_ble_eq_true rfl, Nat.le_of_ble_eq_true rfl⟩ rfl rfl (by decide) rfl rfl rfl hl.1 rfl (Nat.le_of_ble_eq_true rfl) dX8_accepts_22) (fun H locs hH => ?_)
  refine lv_aload_n hx hb dX8_accepts_25 rfl (lv_at hl 0 rfl) ?_
  refine lv_iload_n hx hb dX8_accepts_26 rfl (lv_at hl 1 rfl) ?_
  refine lv_iconst (v := (3 : Int32)) hx hb dX8_accepts_27 (by decide) ?_
  obtain ⟨w15, τ14, g13, hf⟩ := fw_b2s hf
  refine fw_ci hH (fw_rV (As := [.int x1, .int (3 : Int32)]) (rest := [.int w12, .int w9]) (id := 0) X hH (kX8_of  g13 _) qX8_of tw_4_87 ⟨Nat.le_of_ble_eq_true rfl, Nat.le_of_ble_eq_true rfl⟩ rfl rfl (by decide) rfl rfl rfl hl.1 rfl (Nat.le_of_ble_eq_true rfl) dX8_accepts_28) (fun H locs hH => ?_)
  obtain ⟨w18, τ17, g16, hf⟩ := fw_b2s hf
  refine fw_ci hH (fw_rS (As := [.int w9, .int w12, .int w15]) (rest := []) X hH (kX8_holds  g16 _) qX8_holds tw_4_114 ⟨Nat.le_of_ble_eq_true rfl, Nat.le_of_ble_eq_true rfl⟩ rfl rfl rfl hl.1 rfl (Nat.le_of_ble_eq_true rfl) dX8_accepts_31) (fun H locs hH => ?_)
  obtain ⟨rfl, rfl, hz⟩ := fw_rzs hf
  exact fw_retz X hH hz dX8_accepts_34
abbrev rmX8_accepted : Room := { frames := 2, cells := 0, slots := 0, locals := 48 }
theorem qX8_accepted : fw_QV RX8 yX8_accepted cX8_accepted 9 (some .int) 1 := ⟨⟨tw_4_105, tv_X8_accepted, tw_1_10, tw_4_106⟩, by decide +kernel⟩
def pX8_accepted_222 (K120 : Int32 → Int32 → Int32 → fw_T → Option (Int32 × fw_T)) (K162 : Int32 → Int32 → Int32 → Int32 → Int32 → Int32 → fw_T → Option (Int32 × fw_T)) (x1 : Int32) (x2 : Int32) (x4 : Int32) (x5 : Int32) (x6 : Int32) (x7 : Int32) (y0 : Int32) (σ : fw_T) : Option (Int32 × fw_T) :=
  if y0 = 0 then
    K162 x1 (x2 + (0 : Int32)) x4 x5 x6 (x7 + (1 : Int32)) σ
  else
    K162 x1 (x2 + (1 : Int32)) x4 x5 x6 (x7 + (1 : Int32)) σ
set_option maxRecDepth 100000 in
set_option maxHeartbeats 4000000 in
theorem wX8_accepted_222 {args : Array Value} {r : Int32} {σ' : fw_T} {K120 : Int32 → Int32 → Int32 → fw_T → Option (Int32 × fw_T)} {K162 : Int32 → Int32 → Int32 → Int32 → Int32 → Int32 → fw_T → Option (Int32 × fw_T)} (X : fmX p m c cX8_accepted 9 s args RX8 meth (some .int) D cI cB) (hK120 : ∀ (x1 : Int32), ∀ (x2 : Int32), ∀ (x4 : Int32), ∀ (σ : fw_T), K120 x1 x2 x4 σ = some (r, σ') → ∀ (H : Heap) (locs : List Loc) (ls : Array Slot), fmH D cI cB adr A s H locs σ → lv_has ls 9 [(0, .ref (adr 0)), (1, .int x1), (2, .int x2), (4, .int x4)] → W p l e rmX8_accepted s m args below meth c H locs 0 0 (fw_Qi D 7 adr (fw_M cI cB adr) A below args s r σ') (F0 m 120 ls [])) (hK162 : ∀ (x1 : Int32), ∀ (x2 : Int32), ∀ (x4 : Int32), ∀ (x5 : Int32), ∀ (x6 : Int32), ∀ (x7 : Int32), ∀ (σ : fw_T), K162 x1 x2 x4 x5 x6 x7 σ = some (r, σ') → ∀ (H : Heap) (locs : List Loc) (ls : Array Slot), fmH D cI cB adr A s H locs σ → lv_has ls 9 [(0, .ref (adr 0)), (1, .int x1), (2, .int x2), (4, .int x4), (5, .int x5), (6, .int x6), (7, .int x7)] → W p l e rmX8_accepted s m args below meth c H locs 0 0 (fw_Qi D 7 adr (fw_M cI cB adr) A below args s r σ') (F0 m 162 ls [])) : ∀ (x1 : Int32), ∀ (x2 : Int32), ∀ (x4 : Int32), ∀ (x5 : Int32), ∀ (x6 : Int32), ∀ (x7 : Int32), ∀ (y0 : Int32), ∀ (σ : fw_T), pX8_accepted_222 K120 K162 x1 x2 x4 x5 x6 x7 y0 σ = some (r, σ') → ∀ (H : Heap) (locs : List Loc) (ls : Array Slot), fmH D cI cB adr A s H locs σ → lv_has ls 9 [(0, .ref (adr 0)), (1, .int x1), (2, .int x2), (4, .int x4), (5, .int x5), (6, .int x6), (7, .int x7)] → W p l e rmX8_accepted s m args below meth c H locs 0 0 (fw_Qi D 7 adr (fw_M cI cB adr) A below args s r σ') (F0 m 222 ls [.int y0]) := by
  have hx := X.1.1
  have hb := X.1.2.1
  intro x1 x2 x4 x5 x6 x7 y0 σ hf H locs ls hH hl
  unfold pX8_accepted_222 at hf
  refine lv_istore (lv' := [(8, .int y0), (0, .ref (adr 0)), (1, .int x1), (2, .int x2), (4, .int x4), (5, .int x5), (6, .int x6), (7, .int x7)]) hx hb dX8_accepted_222 hl (by decide) rfl (fun ls hl => ?_)
  refine lv_iload_n hx hb dX8_accepted_224 rfl (lv_at hl 3 rfl) ?_
  refine lv_iload hx hb dX8_accepted_225 (lv_at hl 0 rfl) ?_
  refine lv_if_eq (tgt := 234) hx hb dX8_accepted_227 (by decide) (fun hc => ?_) (fun hc => ?_)
  · have hf := fw_pos hc hf
    refine lv_iconst (v := (0 : Int32)) hx hb dX8_accepted_234 (by decide) ?_
    refine lv_iadd hx hb dX8_accepted_235 ?_
    refine lv_istore_n (lv' := [(2, .int (x2 + (0 : Int32))), (8, .int y0), (0, .ref (adr 0)), (1, .int x1), (4, .int x4), (5, .int x5), (6, .int x6), (7, .int x7)]) hx hb dX8_accepted_236 rfl hl (by decide) rfl (fun ls hl => ?_)
    refine lv_iinc (v := (x7 + (1 : Int32))) (lv' := [(7, .int (x7 + (1 : Int32))), (2, .int (x2 + (0 : Int32))), (8, .int y0), (0, .ref (adr 0)), (1, .int x1), (4, .int x4), (5, .int x5), (6, .int x6)]) hx hb dX8_accepted_237 hl (k := 7) rfl rfl (by decide) rfl (fun ls hl => ?_)
    refine lv_goto (tgt := 162) hx hb dX8_accepted_240 (by decide) ?_
    exact hK162 x1 (x2 + (0 : Int32)) x4 x5 x6 (x7 + (1 : Int32)) σ hf _ _ _ hH (lv_sub hl [3, 4, 1, 5, 6, 7, 0] rfl)
  · have hf := fw_neg hc hf
    refine lv_iconst (v := (1 : Int32)) hx hb dX8_accepted_230 (by decide) ?_
    refine lv_goto (tgt := 235) hx hb dX8_accepted_231 (by decide) ?_
    refine lv_iadd hx hb dX8_accepted_235 ?_
    refine lv_istore_n (lv' := [(2, .int (x2 + (1 : Int32))), (8, .int y0), (0, .ref (adr 0)), (1, .int x1), (4, .int x4), (5, .int x5), (6, .int x6), (7, .int x7)]) hx hb dX8_accepted_236 rfl hl (by decide) rfl (fun ls hl => ?_)
    refine lv_iinc (v := (x7 + (1 : Int32))) (lv' := [(7, .int (x7 + (1 : Int32))), (2, .int (x2 + (1 : Int32))), (8, .int y0), (0, .ref (adr 0)), (1, .int x1), (4, .int x4), (5, .int x5), (6, .int x6)]) hx hb dX8_accepted_237 hl (k := 7) rfl rfl (by decide) rfl (fun ls hl => ?_)
    refine lv_goto (tgt := 162) hx hb dX8_accepted_240 (by decide) ?_
    exact hK162 x1 (x2 + (1 : Int32)) x4 x5 x6 (x7 + (1 : Int32)) σ hf _ _ _ hH (lv_sub hl [3, 4, 1, 5, 6, 7, 0] rfl)
def pX8_accepted_162 (K120 : Int32 → Int32 → Int32 → fw_T → Option (Int32 × fw_T)) : Nat → Int32 → Int32 → Int32 → Int32 → Int32 → Int32 → fw_T → Option (Int32 × fw_T)
  | 0, _, _, _, _, _, _, _ => none
  | n + 1, x1, x2, x4, x5, x6, x7, σ =>
    (fw_rd σ 1 52 (11 : Int32)).bind fun w10 =>
    if w10 ≤ x7 then
      K120 x1 x2 (x4 + (1 : Int32)) σ
    else
      (fw_rd σ 1 52 ((12 : Int32) + x7)).bind fun w12 =>
      if (w12 / (10 : Int32)) = x6 then
        (fw_rd σ 1 52 ((12 : Int32) + x7)).bind fun w14 =>
        fw_b2 (pX8_accepts x1 x5 x6 (w14 - w14 / (10 : Int32) * (10 : Int32)) σ) fun w18 τ17 =>
        if w18 = 0 then
          pX8_accepted_222 K120 (fun a0 a1 a2 a3 a4 a5 σ => pX8_accepted_162 K120 n a0 a1 a2 a3 a4 a5 σ) x1 x2 x4 x5 x6 x7 (0 : Int32) τ17
        else
          pX8_accepted_222 K120 (fun a0 a1 a2 a3 a4 a5 σ => pX8_accepted_162 K120 n a0 a1 a2 a3 a4 a5 σ) x1 x2 x4 x5 x6 x7 (1 : Int32) τ17
      else
        pX8_accepted_222 K120 (fun a0 a1 a2 a3 a4 a5 σ => pX8_accepted_162 K120 n a0 a1 a2 a3 a4 a5 σ) x1 x2 x4 x5 x6 x7 (0 : Int32) σ
set_option maxRecDepth 100000 in
set_option maxHeartbeats 4000000 in
theorem wX8_accepted_162 {args : Array Value} {r : Int32} {σ' : fw_T} {K120 : Int32 → Int32 → Int32 → fw_T → Option (Int32 × fw_T)} (X : fmX p m c cX8_accepted 9 s args RX8 meth (some .int) D cI cB) (hK120 : ∀ (x1 : Int32), ∀ (x2 : Int32), ∀ (x4 : Int32), ∀ (σ : fw_T), K120 x1 x2 x4 σ = some (r, σ') → ∀ (H : Heap) (locs : List Loc) (ls : Array Slot), fmH D cI cB adr A s H locs σ → lv_has ls 9 [(0, .ref (adr 0)), (1, .int x1), (2, .int x2), (4, .int x4)] → W p l e rmX8_accepted s m args below meth c H locs 0 0 (fw_Qi D 7 adr (fw_M cI cB adr) A below args s r σ') (F0 m 120 ls [])) : ∀ (n : Nat), ∀ (x1 : Int32), ∀ (x2 : Int32), ∀ (x4 : Int32), ∀ (x5 : Int32), ∀ (x6 : Int32), ∀ (x7 : Int32), ∀ (σ : fw_T), pX8_accepted_162 K120 n x1 x2 x4 x5 x6 x7 σ = some (r, σ') → ∀ (H : Heap) (locs : List Loc) (ls : Array Slot), fmH D cI cB adr A s H locs σ → lv_has ls 9 [(0, .ref (adr 0)), (1, .int x1), (2, .int x2), (4, .int x4), (5, .int x5), (6, .int x6), (7, .int x7)] → W p l e rmX8_accepted s m args below meth c H locs 0 0 (fw_Qi D 7 adr (fw_M cI cB adr) A below args s r σ') (F0 m 162 ls []) := by
  have hx := X.1.1
  have hb := X.1.2.1
  intro n
  induction n with
  | zero =>
    intro x1 x2 x4 x5 x6 x7 σ hf
    exact absurd hf (by simp [pX8_accepted_162])
  | succ n ih =>
    intro x1 x2 x4 x5 x6 x7 σ hf H locs ls hH hl
    rw [pX8_accepted_162] at hf
    refine lv_iload hx hb dX8_accepted_162 (lv_at hl 6 rfl) ?_
    refine lv_aload_n hx hb dX8_accepted_164 rfl (lv_at hl 0 rfl) ?_
    refine fw_get (id := 0) (k := 0) (v := .ref (adr 1)) X hH (by decide) rfl rfl inX8 (by decide) rfl tw_3_202 dX8_accepted_165 ?_
    refine lv_bipush (v := (11 : Int32)) hx hb dX8_accepted_168 (by decide) ?_
    obtain ⟨w10, g11, hf⟩ := fw_bd hf
    refine fw_iald (id := 1) (n := 52) X hH (by decide) rfl rfl g11 dX8_accepted_170 ?_
    refine lv_icmp_ge (tgt := 243) hx hb dX8_accepted_171 (by decide) (fun hc => ?_) (fun hc => ?_)
    · have hf := fw_pos hc hf
      refine lv_iinc (v := (x4 + (1 : Int32))) (lv' := [(4, .int (x4 + (1 : Int32))), (0, .ref (adr 0)), (1, .int x1), (2, .int x2), (5, .int x5), (6, .int x6), (7, .int x7)]) hx hb dX8_accepted_243 hl (k := 3) rfl rfl (by decide) rfl (fun ls hl => ?_)
      refine lv_goto (tgt := 120) hx hb dX8_accepted_246 (by decide) ?_
      exact hK120 x1 x2 (x4 + (1 : Int32)) σ hf _ _ _ hH (lv_sub hl [1, 2, 3, 0] rfl)
    · have hf := fw_neg hc hf
      refine lv_aload_n hx hb dX8_accepted_174 rfl (lv_at hl 0 rfl) ?_
      refine fw_get (id := 0) (k := 0) (v := .ref (adr 1)) X hH (by decide) rfl rfl inX8 (by decide) rfl tw_3_202 dX8_accepted_175 ?_
      refine lv_bipush (v := (12 : Int32)) hx hb dX8_accepted_178 (by decide) ?_
      refine lv_iload hx hb dX8_accepted_180 (lv_at hl 6 rfl) ?_
      refine lv_iadd hx hb dX8_accepted_182 ?_
      obtain ⟨w12, g13, hf⟩ := fw_bd hf
      refine fw_iald (id := 1) (n := 52) X hH (by decide) rfl rfl g13 dX8_accepted_183 ?_
      refine lv_bipush (v := (10 : Int32)) hx hb dX8_accepted_184 (by decide) ?_
      refine lv_idiv hx hb dX8_accepted_186 (by decide) ?_
      refine lv_iload hx hb dX8_accepted_187 (lv_at hl 5 rfl) ?_
      refine lv_icmp_ne (tgt := 221) hx hb dX8_accepted_189 (by decide) (fun hc => ?_) (fun hc => ?_)
      · have hf := fw_neg hc hf
        refine lv_iconst (v := (0 : Int32)) hx hb dX8_accepted_221 (by decide) ?_
        exact wX8_accepted_222 X hK120 ih x1 x2 x4 x5 x6 x7 (0 : Int32) σ hf _ _ _ hH (lv_sub hl [0, 1, 2, 3, 4, 5, 6] rfl)
      · have hf := fw_pos hc hf
        refine lv_aload_n hx hb dX8_accepted_192 rfl (lv_at hl 0 rfl) ?_
        refine lv_iload_n hx hb dX8_accepted_193 rfl (lv_at hl 1 rfl) ?_
        refine lv_iload hx hb dX8_accepted_194 (lv_at hl 4 rfl) ?_
        refine lv_iload hx hb dX8_accepted_196 (lv_at hl 5 rfl) ?_
        refine lv_aload_n hx hb dX8_accepted_198 rfl (lv_at hl 0 rfl) ?_
        refine fw_get (id := 0) (k := 0) (v := .ref (adr 1)) X hH (by decide) rfl rfl inX8 (by decide) rfl tw_3_202 dX8_accepted_199 ?_
        refine lv_bipush (v := (12 : Int32)) hx hb dX8_accepted_202 (by decide) ?_
        refine lv_iload hx hb dX8_accepted_204 (lv_at hl 6 rfl) ?_
        refine lv_iadd hx hb dX8_accepted_206 ?_
        obtain ⟨w14, g15, hf⟩ := fw_bd hf
        refine fw_iald (id := 1) (n := 52) X hH (by decide) rfl rfl g15 dX8_accepted_207 ?_
        refine lv_bipush (v := (10 : Int32)) hx hb dX8_accepted_208 (by decide) ?_
        refine lv_irem hx hb dX8_accepted_210 (by decide) ?_
        obtain ⟨w18, τ17, g16, hf⟩ := fw_b2s hf
        refine fw_ci hH (fw_rV (As := [.int x1, .int x5, .int x6, .int (w14 - w14 / (10 : Int32) * (10 : Int32))]) (rest := []) (id := 0) X hH (kX8_accepts  g16 _) qX8_accepts tw_4_107 ⟨Nat.le_of_ble_eq_true rfl, Nat.le_of_ble_eq_true rfl⟩ rfl rfl (by decide) rfl rfl rfl hl.1 rfl (Nat.le_of_ble_eq_true rfl) dX8_accepted_211) (fun H locs hH => ?_)
        refine lv_if_eq (tgt := 221) hx hb dX8_accepted_214 (by decide) (fun hc => ?_) (fun hc => ?_)
        · have hf := fw_pos hc hf
          refine lv_iconst (v := (0 : Int32)) hx hb dX8_accepted_221 (by decide) ?_
          exact wX8_accepted_222 X hK120 ih x1 x2 x4 x5 x6 x7 (0 : Int32) τ17 hf _ _ _ hH (lv_sub hl [0, 1, 2, 3, 4, 5, 6] rfl)
        · have hf := fw_neg hc hf
          refine lv_iconst (v := (1 : Int32)) hx hb dX8_accepted_217 (by decide) ?_
          refine lv_goto (tgt := 222) hx hb dX8_accepted_218 (by decide) ?_
          exact wX8_accepted_222 X hK120 ih x1 x2 x4 x5 x6 x7 (1 : Int32) τ17 hf _ _ _ hH (lv_sub hl [0, 1, 2, 3, 4, 5, 6] rfl)
def pX8_accepted_120 : Nat → Int32 → Int32 → Int32 → fw_T → Option (Int32 × fw_T)
  | 0, _, _, _, _ => none
  | n + 1, x1, x2, x4, σ =>
    (fw_rd σ 1 52 (0 : Int32)).bind fun w4 =>
    if w4 ≤ x4 then
      some (x2, σ)
    else
      (fw_rd σ 1 52 ((1 : Int32) + x4)).bind fun w6 =>
      (fw_rd σ 1 52 ((1 : Int32) + x4)).bind fun w8 =>
      pX8_accepted_162 (fun a0 a1 a2 σ => pX8_accepted_120 n a0 a1 a2 σ) 400 x1 x2 x4 (w6 / (10 : Int32)) (w8 - w8 / (10 : Int32) * (10 : Int32)) (0 : Int32) σ
set_option maxRecDepth 100000 in
set_option maxHeartbeats 4000000 in
theorem wX8_accepted_120 {args : Array Value} {r : Int32} {σ' : fw_T} (X : fmX p m c cX8_accepted 9 s args RX8 meth (some .int) D cI cB)  : ∀ (n : Nat), ∀ (x1 : Int32), ∀ (x2 : Int32), ∀ (x4 : Int32), ∀ (σ : fw_T), pX8_accepted_120 n x1 x2 x4 σ = some (r, σ') → ∀ (H : Heap) (locs : List Loc) (ls : Array Slot), fmH D cI cB adr A s H locs σ → lv_has ls 9 [(0, .ref (adr 0)), (1, .int x1), (2, .int x2), (4, .int x4)] → W p l e rmX8_accepted s m args below meth c H locs 0 0 (fw_Qi D 7 adr (fw_M cI cB adr) A below args s r σ') (F0 m 120 ls []) := by
  have hx := X.1.1
  have hb := X.1.2.1
  intro n
  induction n with
  | zero =>
    intro x1 x2 x4 σ hf
    exact absurd hf (by simp [pX8_accepted_120])
  | succ n ih =>
    intro x1 x2 x4 σ hf H locs ls hH hl
    rw [pX8_accepted_120] at hf
    refine lv_iload hx hb dX8_accepted_120 (lv_at hl 3 rfl) ?_
    refine lv_aload_n hx hb dX8_accepted_122 rfl (lv_at hl 0 rfl) ?_
    refine fw_get (id := 0) (k := 0) (v := .ref (adr 1)) X hH (by decide) rfl rfl inX8 (by decide) rfl tw_3_202 dX8_accepted_123 ?_
    refine lv_iconst (v := (0 : Int32)) hx hb dX8_accepted_126 (by decide) ?_
    obtain ⟨w4, g5, hf⟩ := fw_bd hf
    refine fw_iald (id := 1) (n := 52) X hH (by decide) rfl rfl g5 dX8_accepted_127 ?_
    refine lv_icmp_ge (tgt := 249) hx hb dX8_accepted_128 (by decide) (fun hc => ?_) (fun hc => ?_)
    · have hf := fw_pos hc hf
      refine lv_iload_n hx hb dX8_accepted_249 rfl (lv_at hl 2 rfl) ?_
      obtain ⟨rfl, rfl⟩ := fw_s2 hf
      exact fw_reti X hH dX8_accepted_250
    · have hf := fw_neg hc hf
      refine lv_aload_n hx hb dX8_accepted_131 rfl (lv_at hl 0 rfl) ?_
      refine fw_get (id := 0) (k := 0) (v := .ref (adr 1)) X hH (by decide) rfl rfl inX8 (by decide) rfl tw_3_202 dX8_accepted_132 ?_
      refine lv_iconst (v := (1 : Int32)) hx hb dX8_accepted_135 (by decide) ?_
      refine lv_iload hx hb dX8_accepted_136 (lv_at hl 3 rfl) ?_
      refine lv_iadd hx hb dX8_accepted_138 ?_
      obtain ⟨w6, g7, hf⟩ := fw_bd hf
      refine fw_iald (id := 1) (n := 52) X hH (by decide) rfl rfl g7 dX8_accepted_139 ?_
      refine lv_bipush (v := (10 : Int32)) hx hb dX8_accepted_140 (by decide) ?_
      refine lv_idiv hx hb dX8_accepted_142 (by decide) ?_
      refine lv_istore (lv' := [(5, .int (w6 / (10 : Int32))), (0, .ref (adr 0)), (1, .int x1), (2, .int x2), (4, .int x4)]) hx hb dX8_accepted_143 hl (by decide) rfl (fun ls hl => ?_)
      refine lv_aload_n hx hb dX8_accepted_145 rfl (lv_at hl 1 rfl) ?_
      refine fw_get (id := 0) (k := 0) (v := .ref (adr 1)) X hH (by decide) rfl rfl inX8 (by decide) rfl tw_3_202 dX8_accepted_146 ?_
      refine lv_iconst (v := (1 : Int32)) hx hb dX8_accepted_149 (by decide) ?_
      refine lv_iload hx hb dX8_accepted_150 (lv_at hl 4 rfl) ?_
      refine lv_iadd hx hb dX8_accepted_152 ?_
      obtain ⟨w8, g9, hf⟩ := fw_bd hf
      refine fw_iald (id := 1) (n := 52) X hH (by decide) rfl rfl g9 dX8_accepted_153 ?_
      refine lv_bipush (v := (10 : Int32)) hx hb dX8_accepted_154 (by decide) ?_
      refine lv_irem hx hb dX8_accepted_156 (by decide) ?_
      refine lv_istore (lv' := [(6, .int (w8 - w8 / (10 : Int32) * (10 : Int32))), (5, .int (w6 / (10 : Int32))), (0, .ref (adr 0)), (1, .int x1), (2, .int x2), (4, .int x4)]) hx hb dX8_accepted_157 hl (by decide) rfl (fun ls hl => ?_)
      refine lv_iconst (v := (0 : Int32)) hx hb dX8_accepted_159 (by decide) ?_
      refine lv_istore (lv' := [(7, .int (0 : Int32)), (6, .int (w8 - w8 / (10 : Int32) * (10 : Int32))), (5, .int (w6 / (10 : Int32))), (0, .ref (adr 0)), (1, .int x1), (2, .int x2), (4, .int x4)]) hx hb dX8_accepted_160 hl (by decide) rfl (fun ls hl => ?_)
      exact wX8_accepted_162 X ih 400 x1 x2 x4 (w6 / (10 : Int32)) (w8 - w8 / (10 : Int32) * (10 : Int32)) (0 : Int32) σ hf _ _ _ hH (lv_sub hl [3, 4, 5, 6, 2, 1, 0] rfl)
def pX8_accepted_94 (K29 : Int32 → Int32 → Int32 → Int32 → Int32 → fw_T → Option (Int32 × fw_T)) (x1 : Int32) (x2 : Int32) (x3 : Int32) (x4 : Int32) (x5 : Int32) (y0 : Int32) (σ : fw_T) : Option (Int32 × fw_T) :=
  if y0 = 0 then
    K29 x1 (x2 + (0 : Int32)) x3 x4 (x5 + (1 : Int32)) σ
  else
    K29 x1 (x2 + (1 : Int32)) x3 x4 (x5 + (1 : Int32)) σ
set_option maxRecDepth 100000 in
set_option maxHeartbeats 4000000 in
theorem wX8_accepted_94 {args : Array Value} {r : Int32} {σ' : fw_T} {K29 : Int32 → Int32 → Int32 → Int32 → Int32 → fw_T → Option (Int32 × fw_T)} (X : fmX p m c cX8_accepted 9 s args RX8 meth (some .int) D cI cB) (hK29 : ∀ (x1 : Int32), ∀ (x2 : Int32), ∀ (x3 : Int32), ∀ (x4 : Int32), ∀ (x5 : Int32), ∀ (σ : fw_T), K29 x1 x2 x3 x4 x5 σ = some (r, σ') → ∀ (H : Heap) (locs : List Loc) (ls : Array Slot), fmH D cI cB adr A s H locs σ → lv_has ls 9 [(0, .ref (adr 0)), (1, .int x1), (2, .int x2), (3, .int x3), (4, .int x4), (5, .int x5)] → W p l e rmX8_accepted s m args below meth c H locs 0 0 (fw_Qi D 7 adr (fw_M cI cB adr) A below args s r σ') (F0 m 29 ls [])) : ∀ (x1 : Int32), ∀ (x2 : Int32), ∀ (x3 : Int32), ∀ (x4 : Int32), ∀ (x5 : Int32), ∀ (y0 : Int32), ∀ (σ : fw_T), pX8_accepted_94 K29 x1 x2 x3 x4 x5 y0 σ = some (r, σ') → ∀ (H : Heap) (locs : List Loc) (ls : Array Slot), fmH D cI cB adr A s H locs σ → lv_has ls 9 [(0, .ref (adr 0)), (1, .int x1), (2, .int x2), (3, .int x3), (4, .int x4), (5, .int x5)] → W p l e rmX8_accepted s m args below meth c H locs 0 0 (fw_Qi D 7 adr (fw_M cI cB adr) A below args s r σ') (F0 m 94 ls [.int y0]) := by
  have hx := X.1.1
  have hb := X.1.2.1
  intro x1 x2 x3 x4 x5 y0 σ hf H locs ls hH hl
  unfold pX8_accepted_94 at hf
  refine lv_istore (lv' := [(7, .int y0), (0, .ref (adr 0)), (1, .int x1), (2, .int x2), (3, .int x3), (4, .int x4), (5, .int x5)]) hx hb dX8_accepted_94 hl (by decide) rfl (fun ls hl => ?_)
  refine lv_iload_n hx hb dX8_accepted_96 rfl (lv_at hl 3 rfl) ?_
  refine lv_iload hx hb dX8_accepted_97 (lv_at hl 0 rfl) ?_
  refine lv_if_eq (tgt := 106) hx hb dX8_accepted_99 (by decide) (fun hc => ?_) (fun hc => ?_)
  · have hf := fw_pos hc hf
    refine lv_iconst (v := (0 : Int32)) hx hb dX8_accepted_106 (by decide) ?_
    refine lv_iadd hx hb dX8_accepted_107 ?_
    refine lv_istore_n (lv' := [(2, .int (x2 + (0 : Int32))), (7, .int y0), (0, .ref (adr 0)), (1, .int x1), (3, .int x3), (4, .int x4), (5, .int x5)]) hx hb dX8_accepted_108 rfl hl (by decide) rfl (fun ls hl => ?_)
    refine lv_iinc (v := (x5 + (1 : Int32))) (lv' := [(5, .int (x5 + (1 : Int32))), (2, .int (x2 + (0 : Int32))), (7, .int y0), (0, .ref (adr 0)), (1, .int x1), (3, .int x3), (4, .int x4)]) hx hb dX8_accepted_109 hl (k := 6) rfl rfl (by decide) rfl (fun ls hl => ?_)
    refine lv_goto (tgt := 29) hx hb dX8_accepted_112 (by decide) ?_
    exact hK29 x1 (x2 + (0 : Int32)) x3 x4 (x5 + (1 : Int32)) σ hf _ _ _ hH (lv_sub hl [3, 4, 1, 5, 6, 0] rfl)
  · have hf := fw_neg hc hf
    refine lv_iconst (v := (1 : Int32)) hx hb dX8_accepted_102 (by decide) ?_
    refine lv_goto (tgt := 107) hx hb dX8_accepted_103 (by decide) ?_
    refine lv_iadd hx hb dX8_accepted_107 ?_
    refine lv_istore_n (lv' := [(2, .int (x2 + (1 : Int32))), (7, .int y0), (0, .ref (adr 0)), (1, .int x1), (3, .int x3), (4, .int x4), (5, .int x5)]) hx hb dX8_accepted_108 rfl hl (by decide) rfl (fun ls hl => ?_)
    refine lv_iinc (v := (x5 + (1 : Int32))) (lv' := [(5, .int (x5 + (1 : Int32))), (2, .int (x2 + (1 : Int32))), (7, .int y0), (0, .ref (adr 0)), (1, .int x1), (3, .int x3), (4, .int x4)]) hx hb dX8_accepted_109 hl (k := 6) rfl rfl (by decide) rfl (fun ls hl => ?_)
    refine lv_goto (tgt := 29) hx hb dX8_accepted_112 (by decide) ?_
    exact hK29 x1 (x2 + (1 : Int32)) x3 x4 (x5 + (1 : Int32)) σ hf _ _ _ hH (lv_sub hl [3, 4, 1, 5, 6, 0] rfl)
def pX8_accepted_29 : Nat → Int32 → Int32 → Int32 → Int32 → Int32 → fw_T → Option (Int32 × fw_T)
  | 0, _, _, _, _, _, _ => none
  | n + 1, x1, x2, x3, x4, x5, σ =>
    (fw_rd σ 1 52 x4).bind fun w19 =>
    if w19 ≤ x5 then
      some (x2, σ)
    else
      (fw_rd σ 1 52 ((x4 + (1 : Int32)) + x5)).bind fun w21 =>
      if x3 = 0 then
        fw_b2 (pX8_accepts x1 (w21 / (10 : Int32)) (w21 - w21 / (10 : Int32) * (10 : Int32)) (0 : Int32) σ) fun w28 τ27 =>
        pX8_accepted_94 (fun a0 a1 a2 a3 a4 σ => pX8_accepted_29 n a0 a1 a2 a3 a4 σ) x1 x2 x3 x4 x5 w28 τ27
      else
        fw_b2 (pX8_accepts x1 (0 : Int32) (w21 / (10 : Int32)) (w21 - w21 / (10 : Int32) * (10 : Int32)) σ) fun w25 τ24 =>
        pX8_accepted_94 (fun a0 a1 a2 a3 a4 σ => pX8_accepted_29 n a0 a1 a2 a3 a4 σ) x1 x2 x3 x4 x5 w25 τ24
set_option maxRecDepth 100000 in
set_option maxHeartbeats 4000000 in
theorem wX8_accepted_29 {args : Array Value} {r : Int32} {σ' : fw_T} (X : fmX p m c cX8_accepted 9 s args RX8 meth (some .int) D cI cB)  : ∀ (n : Nat), ∀ (x1 : Int32), ∀ (x2 : Int32), ∀ (x3 : Int32), ∀ (x4 : Int32), ∀ (x5 : Int32), ∀ (σ : fw_T), pX8_accepted_29 n x1 x2 x3 x4 x5 σ = some (r, σ') → ∀ (H : Heap) (locs : List Loc) (ls : Array Slot), fmH D cI cB adr A s H locs σ → lv_has ls 9 [(0, .ref (adr 0)), (1, .int x1), (2, .int x2), (3, .int x3), (4, .int x4), (5, .int x5)] → W p l e rmX8_accepted s m args below meth c H locs 0 0 (fw_Qi D 7 adr (fw_M cI cB adr) A below args s r σ') (F0 m 29 ls []) := by
  have hx := X.1.1
  have hb := X.1.2.1
  intro n
  induction n with
  | zero =>
    intro x1 x2 x3 x4 x5 σ hf
    exact absurd hf (by simp [pX8_accepted_29])
  | succ n ih =>
    intro x1 x2 x3 x4 x5 σ hf H locs ls hH hl
    rw [pX8_accepted_29] at hf
    refine lv_iload hx hb dX8_accepted_29 (lv_at hl 5 rfl) ?_
    refine lv_aload_n hx hb dX8_accepted_31 rfl (lv_at hl 0 rfl) ?_
    refine fw_get (id := 0) (k := 0) (v := .ref (adr 1)) X hH (by decide) rfl rfl inX8 (by decide) rfl tw_3_202 dX8_accepted_32 ?_
    refine lv_iload hx hb dX8_accepted_35 (lv_at hl 4 rfl) ?_
    obtain ⟨w19, g20, hf⟩ := fw_bd hf
    refine fw_iald (id := 1) (n := 52) X hH (by decide) rfl rfl g20 dX8_accepted_37 ?_
    refine lv_icmp_ge (tgt := 115) hx hb dX8_accepted_38 (by decide) (fun hc => ?_) (fun hc => ?_)
    · have hf := fw_pos hc hf
      refine lv_iload_n hx hb dX8_accepted_115 rfl (lv_at hl 2 rfl) ?_
      obtain ⟨rfl, rfl⟩ := fw_s2 hf
      exact fw_reti X hH dX8_accepted_116
    · have hf := fw_neg hc hf
      refine lv_aload_n hx hb dX8_accepted_41 rfl (lv_at hl 0 rfl) ?_
      refine fw_get (id := 0) (k := 0) (v := .ref (adr 1)) X hH (by decide) rfl rfl inX8 (by decide) rfl tw_3_202 dX8_accepted_42 ?_
      refine lv_iload hx hb dX8_accepted_45 (lv_at hl 4 rfl) ?_
      refine lv_iconst (v := (1 : Int32)) hx hb dX8_accepted_47 (by decide) ?_
      refine lv_iadd hx hb dX8_accepted_48 ?_
      refine lv_iload hx hb dX8_accepted_49 (lv_at hl 5 rfl) ?_
      refine lv_iadd hx hb dX8_accepted_51 ?_
      obtain ⟨w21, g22, hf⟩ := fw_bd hf
      refine fw_iald (id := 1) (n := 52) X hH (by decide) rfl rfl g22 dX8_accepted_52 ?_
      refine lv_istore (lv' := [(6, .int w21), (0, .ref (adr 0)), (1, .int x1), (2, .int x2), (3, .int x3), (4, .int x4), (5, .int x5)]) hx hb dX8_accepted_53 hl (by decide) rfl (fun ls hl => ?_)
      refine lv_iload_n hx hb dX8_accepted_55 rfl (lv_at hl 4 rfl) ?_
      refine lv_if_ne (tgt := 78) hx hb dX8_accepted_56 (by decide) (fun hc => ?_) (fun hc => ?_)
      · have hf := fw_neg hc hf
        refine lv_aload_n hx hb dX8_accepted_78 rfl (lv_at hl 1 rfl) ?_
        refine lv_iload_n hx hb dX8_accepted_79 rfl (lv_at hl 2 rfl) ?_
        refine lv_iconst (v := (0 : Int32)) hx hb dX8_accepted_80 (by decide) ?_
        refine lv_iload hx hb dX8_accepted_81 (lv_at hl 0 rfl) ?_
        refine lv_bipush (v := (10 : Int32)) hx hb dX8_accepted_83 (by decide) ?_
        refine lv_idiv hx hb dX8_accepted_85 (by decide) ?_
        refine lv_iload hx hb dX8_accepted_86 (lv_at hl 0 rfl) ?_
        refine lv_bipush (v := (10 : Int32)) hx hb dX8_accepted_88 (by decide) ?_
        refine lv_irem hx hb dX8_accepted_90 (by decide) ?_
        obtain ⟨w25, τ24, g23, hf⟩ := fw_b2s hf
        refine fw_ci hH (fw_rV (As := [.int x1, .int (0 : Int32), .int (w21 / (10 : Int32)), .int (w21 - w21 / (10 : Int32) * (10 : Int32))]) (rest := []) (id := 0) X hH (kX8_accepts  g23 _) qX8_accepts tw_4_107 ⟨Nat.le_of_ble_eq_true rfl, Nat.le_of_ble_eq_true rfl⟩ rfl rfl (by decide) rfl rfl rfl hl.1 rfl (Nat.le_of_ble_eq_true rfl) dX8_accepted_91) (fun H locs hH => ?_)
        exact wX8_accepted_94 X ih x1 x2 x3 x4 x5 w25 τ24 hf _ _ _ hH (lv_sub hl [1, 2, 3, 4, 5, 6] rfl)
      · have hf := fw_pos hc hf
        refine lv_aload_n hx hb dX8_accepted_59 rfl (lv_at hl 1 rfl) ?_
        refine lv_iload_n hx hb dX8_accepted_60 rfl (lv_at hl 2 rfl) ?_
        refine lv_iload hx hb dX8_accepted_61 (lv_at hl 0 rfl) ?_
        refine lv_bipush (v := (10 : Int32)) hx hb dX8_accepted_63 (by decide) ?_
        refine lv_idiv hx hb dX8_accepted_65 (by decide) ?_
        refine lv_iload hx hb dX8_accepted_66 (lv_at hl 0 rfl) ?_
        refine lv_bipush (v := (10 : Int32)) hx hb dX8_accepted_68 (by decide) ?_
        refine lv_irem hx hb dX8_accepted_70 (by decide) ?_
        refine lv_iconst (v := (0 : Int32)) hx hb dX8_accepted_71 (by decide) ?_
        obtain ⟨w28, τ27, g26, hf⟩ := fw_b2s hf
        refine fw_ci hH (fw_rV (As := [.int x1, .int (w21 / (10 : Int32)), .int (w21 - w21 / (10 : Int32) * (10 : Int32)), .int (0 : Int32)]) (rest := []) (id := 0) X hH (kX8_accepts  g26 _) qX8_accepts tw_4_107 ⟨Nat.le_of_ble_eq_true rfl, Nat.le_of_ble_eq_true rfl⟩ rfl rfl (by decide) rfl rfl rfl hl.1 rfl (Nat.le_of_ble_eq_true rfl) dX8_accepted_72) (fun H locs hH => ?_)
        refine lv_goto (tgt := 94) hx hb dX8_accepted_75 (by decide) ?_
        exact wX8_accepted_94 X ih x1 x2 x3 x4 x5 w28 τ27 hf _ _ _ hH (lv_sub hl [1, 2, 3, 4, 5, 6] rfl)
def pX8_accepted (x1 : Int32) (σ : fw_T) : Option (Int32 × fw_T) :=
  fw_b2 (pX8_of x1 (0 : Int32) σ) fun w3 τ2 =>
  if (2 : Int32) ≤ w3 then
    pX8_accepted_120 400 x1 (0 : Int32) (0 : Int32) τ2
  else
    if w3 = 0 then
      pX8_accepted_29 400 x1 (0 : Int32) w3 (0 : Int32) (0 : Int32) τ2
    else
      pX8_accepted_29 400 x1 (0 : Int32) w3 (11 : Int32) (0 : Int32) τ2
set_option maxRecDepth 100000 in
set_option maxHeartbeats 4000000 in
theorem kX8_accepted {x1 : Int32} {r : Int32} {σ σ' : fw_T} (hf : pX8_accepted x1 σ = some (r, σ')) : fw_Ci l yX8_accepted (Cond.code yX8_accepted cX8_accepted 9 (some .int) :: lwT) rmX8_accepted [.ref (adr 0), .int x1] D 7 adr (fw_M cI cB adr) (fmT cI cB) [] σ r σ' := by
  refine fw_start (Qc := (fun A => va_Qi (fun r' (_ : Unit) => r' = r) (fun _ t => va_P D vwCl (fw_ws 7 adr (fw_M cI cB adr σ')) t.heap) A)) (by decide) (by simp [lg_sl, Value.category]) rfl ?_
  intro p e s m below meth c A X hH ls hl
  have hx := X.1.1
  have hb := X.1.2.1
  have hl : lv_has ls 9 [(0, .ref (adr 0)), (1, .int x1)] := hl
  unfold pX8_accepted at hf
  refine lv_iconst (v := (0 : Int32)) hx hb dX8_accepted_0 (by decide) ?_
  refine lv_istore_n (lv' := [(2, .int (0 : Int32)), (0, .ref (adr 0)), (1, .int x1)]) hx hb dX8_accepted_1 rfl hl (by decide) rfl (fun ls hl => ?_)
  refine lv_aload_n hx hb dX8_accepted_2 rfl (lv_at hl 1 rfl) ?_
  refine lv_iload_n hx hb dX8_accepted_3 rfl (lv_at hl 2 rfl) ?_
  refine lv_iconst (v := (0 : Int32)) hx hb dX8_accepted_4 (by decide) ?_
  obtain ⟨w3, τ2, g1, hf⟩ := fw_b2s hf
  refine fw_ci hH (fw_rV (As := [.int x1, .int (0 : Int32)]) (rest := []) (id := 0) X hH (kX8_of  g1 _) qX8_of tw_4_87 ⟨Nat.le_of_ble_eq_true rfl, Nat.le_of_ble_eq_true rfl⟩ rfl rfl (by decide) rfl rfl rfl hl.1 rfl (Nat.le_of_ble_eq_true rfl) dX8_accepted_5) (fun H locs hH => ?_)
  refine lv_istore_n (lv' := [(3, .int w3), (2, .int (0 : Int32)), (0, .ref (adr 0)), (1, .int x1)]) hx hb dX8_accepted_8 rfl hl (by decide) rfl (fun ls hl => ?_)
  refine lv_iload_n hx hb dX8_accepted_9 rfl (lv_at hl 0 rfl) ?_
  refine lv_iconst (v := (2 : Int32)) hx hb dX8_accepted_10 (by decide) ?_
  refine lv_icmp_ge (tgt := 117) hx hb dX8_accepted_11 (by decide) (fun hc => ?_) (fun hc => ?_)
  · have hf := fw_pos hc hf
    refine lv_iconst (v := (0 : Int32)) hx hb dX8_accepted_117 (by decide) ?_
    refine lv_istore (lv' := [(4, .int (0 : Int32)), (3, .int w3), (2, .int (0 : Int32)), (0, .ref (adr 0)), (1, .int x1)]) hx hb dX8_accepted_118 hl (by decide) rfl (fun ls hl => ?_)
    exact wX8_accepted_120 X 400 x1 (0 : Int32) (0 : Int32) τ2 hf _ _ _ hH (lv_sub hl [3, 4, 2, 0] rfl)
  · have hf := fw_neg hc hf
    refine lv_iload_n hx hb dX8_accepted_14 rfl (lv_at hl 0 rfl) ?_
    refine lv_if_ne (tgt := 22) hx hb dX8_accepted_15 (by decide) (fun hc => ?_) (fun hc => ?_)
    · have hf := fw_neg hc hf
      refine lv_bipush (v := (11 : Int32)) hx hb dX8_accepted_22 (by decide) ?_
      refine lv_istore (lv' := [(4, .int (11 : Int32)), (3, .int w3), (2, .int (0 : Int32)), (0, .ref (adr 0)), (1, .int x1)]) hx hb dX8_accepted_24 hl (by decide) rfl (fun ls hl => ?_)
      refine lv_iconst (v := (0 : Int32)) hx hb dX8_accepted_26 (by decide) ?_
      refine lv_istore (lv' := [(5, .int (0 : Int32)), (4, .int (11 : Int32)), (3, .int w3), (2, .int (0 : Int32)), (0, .ref (adr 0)), (1, .int x1)]) hx hb dX8_accepted_27 hl (by decide) rfl (fun ls hl => ?_)
      exact wX8_accepted_29 X 400 x1 (0 : Int32) w3 (11 : Int32) (0 : Int32) τ2 hf _ _ _ hH (lv_sub hl [4, 5, 3, 2, 1, 0] rfl)
    · have hf := fw_pos hc hf
      refine lv_iconst (v := (0 : Int32)) hx hb dX8_accepted_18 (by decide) ?_
      refine lv_goto (tgt := 24) hx hb dX8_accepted_19 (by decide) ?_
      refine lv_istore (lv' := [(4, .int (0 : Int32)), (3, .int w3), (2, .int (0 : Int32)), (0, .ref (adr 0)), (1, .int x1)]) hx hb dX8_accepted_24 hl (by decide) rfl (fun ls hl => ?_)
      refine lv_iconst (v := (0 : Int32)) hx hb dX8_accepted_26 (by decide) ?_
      refine lv_istore (lv' := [(5, .int (0 : Int32)), (4, .int (0 : Int32)), (3, .int w3), (2, .int (0 : Int32)), (0, .ref (adr 0)), (1, .int x1)]) hx hb dX8_accepted_27 hl (by decide) rfl (fun ls hl => ?_)
      exact wX8_accepted_29 X 400 x1 (0 : Int32) w3 (0 : Int32) (0 : Int32) τ2 hf _ _ _ hH (lv_sub hl [4, 5, 3, 2, 1, 0] rfl)
abbrev rmX8_acceptedBy : Room := { frames := 3, cells := 0, slots := 0, locals := 76 }
theorem qX8_acceptedBy : fw_QV RX8 yX8_acceptedBy cX8_acceptedBy 2 (some .int) 1 := ⟨⟨tw_4_100, tw_4_101, tw_1_10, tw_4_102⟩, by decide +kernel⟩
def pX8_acceptedBy (x1 : Int32) (σ : fw_T) : Option (Int32 × fw_T) :=
  fw_b2 (pX8_isFilter x1 σ) fun w3 τ2 =>
  if w3 = 0 then
    fw_b2 (pX8_fail (-10002 : Int32) τ2) fun w9 τ8 =>
    some (w9, τ8)
  else
    fw_b2 (pX8_accepted x1 τ2) fun w6 τ5 =>
    some (w6, τ5)
set_option maxRecDepth 100000 in
set_option maxHeartbeats 4000000 in
theorem kX8_acceptedBy {x1 : Int32} {r : Int32} {σ σ' : fw_T} (hf : pX8_acceptedBy x1 σ = some (r, σ')) : fw_Ci l yX8_acceptedBy (Cond.code yX8_acceptedBy cX8_acceptedBy 2 (some .int) :: lwT) rmX8_acceptedBy [.ref (adr 0), .int x1] D 7 adr (fw_M cI cB adr) (fmT cI cB) [] σ r σ' := by
  refine fw_start (Qc := (fun A => va_Qi (fun r' (_ : Unit) => r' = r) (fun _ t => va_P D vwCl (fw_ws 7 adr (fw_M cI cB adr σ')) t.heap) A)) (by decide) (by simp [lg_sl, Value.category]) rfl ?_
  intro p e s m below meth c A X hH ls hl
  have hx := X.1.1
  have hb := X.1.2.1
  have hl : lv_has ls 2 [(0, .ref (adr 0)), (1, .int x1)] := hl
  unfold pX8_acceptedBy at hf
  refine lv_aload_n hx hb dX8_acceptedBy_0 rfl (lv_at hl 0 rfl) ?_
  refine lv_iload_n hx hb dX8_acceptedBy_1 rfl (lv_at hl 1 rfl) ?_
  obtain ⟨w3, τ2, g1, hf⟩ := fw_b2s hf
  refine fw_ci hH (fw_rV (As := [.int x1]) (rest := []) (id := 0) X hH (kX8_isFilter  g1 _) qX8_isFilter tw_4_75 ⟨Nat.le_of_ble_eq_true rfl, Nat.le_of_ble_eq_true rfl⟩ rfl rfl (by decide) rfl rfl rfl hl.1 rfl (Nat.le_of_ble_eq_true rfl) dX8_acceptedBy_2) (fun H locs hH => ?_)
  refine lv_if_ne (tgt := 16) hx hb dX8_acceptedBy_5 (by decide) (fun hc => ?_) (fun hc => ?_)
  · have hf := fw_neg hc hf
    refine lv_aload_n hx hb dX8_acceptedBy_16 rfl (lv_at hl 0 rfl) ?_
    refine lv_iload_n hx hb dX8_acceptedBy_17 rfl (lv_at hl 1 rfl) ?_
    obtain ⟨w6, τ5, g4, hf⟩ := fw_b2s hf
    refine fw_ci hH (fw_rV (As := [.int x1]) (rest := []) (id := 0) X hH (kX8_accepted  g4 _) qX8_accepted tw_4_103 ⟨Nat.le_of_ble_eq_true rfl, Nat.le_of_ble_eq_true rfl⟩ rfl rfl (by decide) rfl rfl rfl hl.1 rfl (Nat.le_of_ble_eq_true rfl) dX8_acceptedBy_18) (fun H locs hH => ?_)
    obtain ⟨rfl, rfl⟩ := fw_s2 hf
    exact fw_reti X hH dX8_acceptedBy_21
  · have hf := fw_pos hc hf
    refine lv_aload_n hx hb dX8_acceptedBy_8 rfl (lv_at hl 0 rfl) ?_
    refine lv_sipush (v := (-10002 : Int32)) hx hb dX8_acceptedBy_9 (by decide) ?_
    obtain ⟨w9, τ8, g7, hf⟩ := fw_b2s hf
    refine fw_ci hH (fw_rV (As := [.int (-10002 : Int32)]) (rest := []) (id := 0) X hH (kX8_fail  g7 _) qX8_fail tw_4_20 ⟨Nat.le_of_ble_eq_true rfl, Nat.le_of_ble_eq_true rfl⟩ rfl rfl (by decide) rfl rfl rfl hl.1 rfl (Nat.le_of_ble_eq_true rfl) dX8_acceptedBy_12) (fun H locs hH => ?_)
    obtain ⟨rfl, rfl⟩ := fw_s2 hf
    exact fw_reti X hH dX8_acceptedBy_15
abbrev rmX8_hasLeft : Room := { frames := 1, cells := 0, slots := 0, locals := 23 }
theorem qX8_hasLeft : fw_QV RX8 yX8_hasLeft cX8_hasLeft 3 (some .boolean) 2 := ⟨⟨tw_4_135, tv_X8_hasLeft, tw_1_10, tw_4_136⟩, by decide +kernel⟩
def pX8_hasLeft (x1 : Int32) (x2 : Int32) (σ : fw_T) : Option (Int32 × fw_T) :=
  fw_b2 (pX8_placeOf (0 : Int32) (((10 : Int32) * x1) + x2) σ) fun w3 τ2 =>
  if w3 = (-10001 : Int32) then
    fw_rz (0 : Int32) τ2
  else
    fw_rz (1 : Int32) τ2
set_option maxRecDepth 100000 in
set_option maxHeartbeats 4000000 in
theorem kX8_hasLeft {x1 : Int32} {x2 : Int32} {r : Int32} {σ σ' : fw_T} (hf : pX8_hasLeft x1 x2 σ = some (r, σ')) : fw_Ci l yX8_hasLeft (Cond.code yX8_hasLeft cX8_hasLeft 3 (some .boolean) :: lwT) rmX8_hasLeft [.ref (adr 0), .int x1, .int x2] D 7 adr (fw_M cI cB adr) (fmT cI cB) [] σ r σ' := by
  refine fw_start (Qc := (fun A => va_Qi (fun r' (_ : Unit) => r' = r) (fun _ t => va_P D vwCl (fw_ws 7 adr (fw_M cI cB adr σ')) t.heap) A)) (by decide) (by simp [lg_sl, Value.category]) rfl ?_
  intro p e s m below meth c A X hH ls hl
  have hx := X.1.1
  have hb := X.1.2.1
  have hl : lv_has ls 3 [(0, .ref (adr 0)), (1, .int x1), (2, .int x2)] := hl
  unfold pX8_hasLeft at hf
  refine lv_aload_n hx hb dX8_hasLeft_0 rfl (lv_at hl 0 rfl) ?_
  refine lv_iconst (v := (0 : Int32)) hx hb dX8_hasLeft_1 (by decide) ?_
  refine lv_bipush (v := (10 : Int32)) hx hb dX8_hasLeft_2 (by decide) ?_
  refine lv_iload_n hx hb dX8_hasLeft_4 rfl (lv_at hl 1 rfl) ?_
  refine lv_imul hx hb dX8_hasLeft_5 ?_
  refine lv_iload_n hx hb dX8_hasLeft_6 rfl (lv_at hl 2 rfl) ?_
  refine lv_iadd hx hb dX8_hasLeft_7 ?_
  obtain ⟨w3, τ2, g1, hf⟩ := fw_b2s hf
  refine fw_ci hH (fw_rV (As := [.int (0 : Int32), .int (((10 : Int32) * x1) + x2)]) (rest := []) (id := 0) X hH (kX8_placeOf  g1 _) qX8_placeOf tw_4_24 ⟨Nat.le_of_ble_eq_true rfl, Nat.le_of_ble_eq_true rfl⟩ rfl rfl (by decide) rfl rfl rfl hl.1 rfl (Nat.le_of_ble_eq_true rfl) dX8_hasLeft_8) (fun H locs hH => ?_)
  refine lv_sipush (v := (-10001 : Int32)) hx hb dX8_hasLeft_11 (by decide) ?_
  refine lv_icmp_eq (tgt := 21) hx hb dX8_hasLeft_14 (by decide) (fun hc => ?_) (fun hc => ?_)
  · have hf := fw_pos hc hf
    refine lv_iconst (v := (0 : Int32)) hx hb dX8_hasLeft_21 (by decide) ?_
    obtain ⟨rfl, rfl, hz⟩ := fw_rzs hf
    exact fw_retz X hH hz dX8_hasLeft_22
  · have hf := fw_neg hc hf
    refine lv_iconst (v := (1 : Int32)) hx hb dX8_hasLeft_17 (by decide) ?_
    refine lv_goto (tgt := 22) hx hb dX8_hasLeft_18 (by decide) ?_
    obtain ⟨rfl, rfl, hz⟩ := fw_rzs hf
    exact fw_retz X hH hz dX8_hasLeft_22
abbrev rmX8_hasRight : Room := { frames := 1, cells := 0, slots := 0, locals := 23 }
theorem qX8_hasRight : fw_QV RX8 yX8_hasRight cX8_hasRight 3 (some .boolean) 2 := ⟨⟨tw_4_139, tv_X8_hasRight, tw_1_10, tw_4_140⟩, by decide +kernel⟩
def pX8_hasRight (x1 : Int32) (x2 : Int32) (σ : fw_T) : Option (Int32 × fw_T) :=
  fw_b2 (pX8_placeOf (11 : Int32) (((10 : Int32) * x1) + x2) σ) fun w3 τ2 =>
  if w3 = (-10001 : Int32) then
    fw_rz (0 : Int32) τ2
  else
    fw_rz (1 : Int32) τ2
set_option maxRecDepth 100000 in
set_option maxHeartbeats 4000000 in
theorem kX8_hasRight {x1 : Int32} {x2 : Int32} {r : Int32} {σ σ' : fw_T} (hf : pX8_hasRight x1 x2 σ = some (r, σ')) : fw_Ci l yX8_hasRight (Cond.code yX8_hasRight cX8_hasRight 3 (some .boolean) :: lwT) rmX8_hasRight [.ref (adr 0), .int x1, .int x2] D 7 adr (fw_M cI cB adr) (fmT cI cB) [] σ r σ' := by
  refine fw_start (Qc := (fun A => va_Qi (fun r' (_ : Unit) => r' = r) (fun _ t => va_P D vwCl (fw_ws 7 adr (fw_M cI cB adr σ')) t.heap) A)) (by decide) (by simp [lg_sl, Value.category]) rfl ?_
  intro p e s m below meth c A X hH ls hl
  have hx := X.1.1
  have hb := X.1.2.1
  have hl : lv_has ls 3 [(0, .ref (adr 0)), (1, .int x1), (2, .int x2)] := hl
  unfold pX8_hasRight at hf
  refine lv_aload_n hx hb dX8_hasRight_0 rfl (lv_at hl 0 rfl) ?_
  refine lv_bipush (v := (11 : Int32)) hx hb dX8_hasRight_1 (by decide) ?_
  refine lv_bipush (v := (10 : Int32)) hx hb dX8_hasRight_3 (by decide) ?_
  refine lv_iload_n hx hb dX8_hasRight_5 rfl (lv_at hl 1 rfl) ?_
  refine lv_imul hx hb dX8_hasRight_6 ?_
  refine lv_iload_n hx hb dX8_hasRight_7 rfl (lv_at hl 2 rfl) ?_
  refine lv_iadd hx hb dX8_hasRight_8 ?_
  obtain ⟨w3, τ2, g1, hf⟩ := fw_b2s hf
  refine fw_ci hH (fw_rV (As := [.int (11 : Int32), .int (((10 : Int32) * x1) + x2)]) (rest := []) (id := 0) X hH (kX8_placeOf  g1 _) qX8_placeOf tw_4_24 ⟨Nat.le_of_ble_eq_true rfl, Nat.le_of_ble_eq_true rfl⟩ rfl rfl (by decide) rfl rfl rfl hl.1 rfl (Nat.le_of_ble_eq_true rfl) dX8_hasRight_9) (fun H locs hH => ?_)
  refine lv_sipush (v := (-10001 : Int32)) hx hb dX8_hasRight_12 (by decide) ?_
  refine lv_icmp_eq (tgt := 22) hx hb dX8_hasRight_15 (by decide) (fun hc => ?_) (fun hc => ?_)
  · have hf := fw_pos hc hf
    refine lv_iconst (v := (0 : Int32)) hx hb dX8_hasRight_22 (by decide) ?_
    obtain ⟨rfl, rfl, hz⟩ := fw_rzs hf
    exact fw_retz X hH hz dX8_hasRight_23
  · have hf := fw_neg hc hf
    refine lv_iconst (v := (1 : Int32)) hx hb dX8_hasRight_18 (by decide) ?_
    refine lv_goto (tgt := 23) hx hb dX8_hasRight_19 (by decide) ?_
    obtain ⟨rfl, rfl, hz⟩ := fw_rzs hf
    exact fw_retz X hH hz dX8_hasRight_23
abbrev rmX8_passes : Room := { frames := 2, cells := 0, slots := 0, locals := 48 }
theorem qX8_passes : fw_QV RX8 yX8_passes cX8_passes 8 (some .boolean) 5 := ⟨⟨tw_4_147, tv_X8_passes, tw_1_10, tw_4_148⟩, by decide +kernel⟩
def pX8_passes_6 : Nat → Int32 → Int32 → Int32 → Int32 → Int32 → Int32 → Int32 → fw_T → Option (Int32 × fw_T)
  | 0, _, _, _, _, _, _, _, _ => none
  | n + 1, x1, x2, x3, x4, x5, x6, x7, σ =>
    (fw_rd σ 1 52 (22 : Int32)).bind fun w1 =>
    if w1 ≤ x7 then
      fw_rz x6 σ
    else
      if x6 = 0 then
        pX8_passes_6 n x1 x2 x3 x4 x5 (0 : Int32) (x7 + (1 : Int32)) σ
      else
        fw_b2 (pX8_of x7 (0 : Int32) σ) fun w5 τ4 =>
        if w5 = x1 then
          if ((x2 >>> (x7 &&& 31)) &&& (1 : Int32)) = (1 : Int32) then
            pX8_passes_6 n x1 x2 x3 x4 x5 (1 : Int32) (x7 + (1 : Int32)) τ4
          else
            fw_b2 (pX8_accepts x7 x3 x4 x5 τ4) fun w8 τ7 =>
            if w8 = 0 then
              pX8_passes_6 n x1 x2 x3 x4 x5 (0 : Int32) (x7 + (1 : Int32)) τ7
            else
              pX8_passes_6 n x1 x2 x3 x4 x5 (1 : Int32) (x7 + (1 : Int32)) τ7
        else
          pX8_passes_6 n x1 x2 x3 x4 x5 (1 : Int32) (x7 + (1 : Int32)) τ4
set_option maxRecDepth 100000 in
set_option maxHeartbeats 4000000 in
theorem wX8_passes_6 {args : Array Value} {r : Int32} {σ' : fw_T} (X : fmX p m c cX8_passes 8 s args RX8 meth (some .boolean) D cI cB)  : ∀ (n : Nat), ∀ (x1 : Int32), ∀ (x2 : Int32), ∀ (x3 : Int32), ∀ (x4 : Int32), ∀ (x5 : Int32), ∀ (x6 : Int32), ∀ (x7 : Int32), ∀ (σ : fw_T), pX8_passes_6 n x1 x2 x3 x4 x5 x6 x7 σ = some (r, σ') → ∀ (H : Heap) (locs : List Loc) (ls : Array Slot), fmH D cI cB adr A s H locs σ → lv_has ls 8 [(0, .ref (adr 0)), (1, .int x1), (2, .int x2), (3, .int x3), (4, .int x4), (5, .int x5), (6, .int x6), (7, .int x7)] → W p l e rmX8_passes s m args below meth c H locs 0 0 (fw_Qi D 7 adr (fw_M cI cB adr) A below args s r σ') (F0 m 6 ls []) := by
  have hx := X.1.1
  have hb := X.1.2.1
  intro n
  induction n with
  | zero =>
    intro x1 x2 x3 x4 x5 x6 x7 σ hf
    exact absurd hf (by simp [pX8_passes_6])
  | succ n ih =>
    intro x1 x2 x3 x4 x5 x6 x7 σ hf H locs ls hH hl
    rw [pX8_passes_6] at hf
    refine lv_iload hx hb dX8_passes_6 (lv_at hl 7 rfl) ?_
    refine lv_aload_n hx hb dX8_passes_8 rfl (lv_at hl 0 rfl) ?_
    refine fw_get (id := 0) (k := 0) (v := .ref (adr 1)) X hH (by decide) rfl rfl inX8 (by decide) rfl tw_3_202 dX8_passes_9 ?_
    refine lv_bipush (v := (22 : Int32)) hx hb dX8_passes_12 (by decide) ?_
    obtain ⟨w1, g2, hf⟩ := fw_bd hf
    refine fw_iald (id := 1) (n := 52) X hH (by decide) rfl rfl g2 dX8_passes_14 ?_
    refine lv_icmp_ge (tgt := 71) hx hb dX8_passes_15 (by decide) (fun hc => ?_) (fun hc => ?_)
    · have hf := fw_pos hc hf
      refine lv_iload hx hb dX8_passes_71 (lv_at hl 6 rfl) ?_
      obtain ⟨rfl, rfl, hz⟩ := fw_rzs hf
      exact fw_retz X hH hz dX8_passes_73
    · have hf := fw_neg hc hf
      refine lv_iload hx hb dX8_passes_18 (lv_at hl 6 rfl) ?_
      refine lv_if_eq (tgt := 62) hx hb dX8_passes_20 (by decide) (fun hc => ?_) (fun hc => ?_)
      · have hf := fw_pos hc hf
        refine lv_iconst (v := (0 : Int32)) hx hb dX8_passes_62 (by decide) ?_
        refine lv_istore (lv' := [(6, .int (0 : Int32)), (0, .ref (adr 0)), (1, .int x1), (2, .int x2), (3, .int x3), (4, .int x4), (5, .int x5), (7, .int x7)]) hx hb dX8_passes_63 hl (by decide) rfl (fun ls hl => ?_)
        refine lv_iinc (v := (x7 + (1 : Int32))) (lv' := [(7, .int (x7 + (1 : Int32))), (6, .int (0 : Int32)), (0, .ref (adr 0)), (1, .int x1), (2, .int x2), (3, .int x3), (4, .int x4), (5, .int x5)]) hx hb dX8_passes_65 hl (k := 7) rfl rfl (by decide) rfl (fun ls hl => ?_)
        refine lv_goto (tgt := 6) hx hb dX8_passes_68 (by decide) ?_
        exact ih x1 x2 x3 x4 x5 (0 : Int32) (x7 + (1 : Int32)) σ hf _ _ _ hH (lv_sub hl [2, 3, 4, 5, 6, 7, 1, 0] rfl)
      · have hf := fw_neg hc hf
        refine lv_aload_n hx hb dX8_passes_23 rfl (lv_at hl 0 rfl) ?_
        refine lv_iload hx hb dX8_passes_24 (lv_at hl 7 rfl) ?_
        refine lv_iconst (v := (0 : Int32)) hx hb dX8_passes_26 (by decide) ?_
        obtain ⟨w5, τ4, g3, hf⟩ := fw_b2s hf
        refine fw_ci hH (fw_rV (As := [.int x7, .int (0 : Int32)]) (rest := []) (id := 0) X hH (kX8_of  g3 _) qX8_of tw_4_87 ⟨Nat.le_of_ble_eq_true rfl, Nat.le_of_ble_eq_true rfl⟩ rfl rfl (by decide) rfl rfl rfl hl.1 rfl (Nat.le_of_ble_eq_true rfl) dX8_passes_27) (fun H locs hH => ?_)
        refine lv_iload_n hx hb dX8_passes_30 rfl (lv_at hl 1 rfl) ?_
        refine lv_icmp_ne (tgt := 58) hx hb dX8_passes_31 (by decide) (fun hc => ?_) (fun hc => ?_)
        · have hf := fw_neg hc hf
          refine lv_iconst (v := (1 : Int32)) hx hb dX8_passes_58 (by decide) ?_
          refine lv_goto (tgt := 63) hx hb dX8_passes_59 (by decide) ?_
          refine lv_istore (lv' := [(6, .int (1 : Int32)), (0, .ref (adr 0)), (1, .int x1), (2, .int x2), (3, .int x3), (4, .int x4), (5, .int x5), (7, .int x7)]) hx hb dX8_passes_63 hl (by decide) rfl (fun ls hl => ?_)
          refine lv_iinc (v := (x7 + (1 : Int32))) (lv' := [(7, .int (x7 + (1 : Int32))), (6, .int (1 : Int32)), (0, .ref (adr 0)), (1, .int x1), (2, .int x2), (3, .int x3), (4, .int x4), (5, .int x5)]) hx hb dX8_passes_65 hl (k := 7) rfl rfl (by decide) rfl (fun ls hl => ?_)
          refine lv_goto (tgt := 6) hx hb dX8_passes_68 (by decide) ?_
          exact ih x1 x2 x3 x4 x5 (1 : Int32) (x7 + (1 : Int32)) τ4 hf _ _ _ hH (lv_sub hl [2, 3, 4, 5, 6, 7, 1, 0] rfl)
        · have hf := fw_pos hc hf
          refine lv_iload_n hx hb dX8_passes_34 rfl (lv_at hl 2 rfl) ?_
          refine lv_iload hx hb dX8_passes_35 (lv_at hl 7 rfl) ?_
          refine lv_ishr hx hb dX8_passes_37 ?_
          refine lv_iconst (v := (1 : Int32)) hx hb dX8_passes_38 (by decide) ?_
          refine lv_iand hx hb dX8_passes_39 ?_
          refine lv_iconst (v := (1 : Int32)) hx hb dX8_passes_40 (by decide) ?_
          refine lv_icmp_eq (tgt := 58) hx hb dX8_passes_41 (by decide) (fun hc => ?_) (fun hc => ?_)
          · have hf := fw_pos hc hf
            refine lv_iconst (v := (1 : Int32)) hx hb dX8_passes_58 (by decide) ?_
            refine lv_goto (tgt := 63) hx hb dX8_passes_59 (by decide) ?_
            refine lv_istore (lv' := [(6, .int (1 : Int32)), (0, .ref (adr 0)), (1, .int x1), (2, .int x2), (3, .int x3), (4, .int x4), (5, .int x5), (7, .int x7)]) hx hb dX8_passes_63 hl (by decide) rfl (fun ls hl => ?_)
            refine lv_iinc (v := (x7 + (1 : Int32))) (lv' := [(7, .int (x7 + (1 : Int32))), (6, .int (1 : Int32)), (0, .ref (adr 0)), (1, .int x1), (2, .int x2), (3, .int x3), (4, .int x4), (5, .int x5)]) hx hb dX8_passes_65 hl (k := 7) rfl rfl (by decide) rfl (fun ls hl => ?_)
            refine lv_goto (tgt := 6) hx hb dX8_passes_68 (by decide) ?_
            exact ih x1 x2 x3 x4 x5 (1 : Int32) (x7 + (1 : Int32)) τ4 hf _ _ _ hH (lv_sub hl [2, 3, 4, 5, 6, 7, 1, 0] rfl)
          · have hf := fw_neg hc hf
            refine lv_aload_n hx hb dX8_passes_44 rfl (lv_at hl 0 rfl) ?_
            refine lv_iload hx hb dX8_passes_45 (lv_at hl 7 rfl) ?_
            refine lv_iload_n hx hb dX8_passes_47 rfl (lv_at hl 3 rfl) ?_
            refine lv_iload hx hb dX8_passes_48 (lv_at hl 4 rfl) ?_
            refine lv_iload hx hb dX8_passes_50 (lv_at hl 5 rfl) ?_
            obtain ⟨w8, τ7, g6, hf⟩ := fw_b2s hf
            refine fw_ci hH (fw_rV (As := [.int x7, .int x3, .int x4, .int x5]) (rest := []) (id := 0) X hH (kX8_accepts  g6 _) qX8_accepts tw_4_107 ⟨Nat.le_of_ble_eq_true rfl, Nat.le_of_ble_eq_true rfl⟩ rfl rfl (by decide) rfl rfl rfl hl.1 rfl (Nat.le_of_ble_eq_true rfl) dX8_passes_52) (fun H locs hH => ?_)
            refine lv_if_eq (tgt := 62) hx hb dX8_passes_55 (by decide) (fun hc => ?_) (fun hc => ?_)
            · have hf := fw_pos hc hf
              refine lv_iconst (v := (0 : Int32)) hx hb dX8_passes_62 (by decide) ?_
              refine lv_istore (lv' := [(6, .int (0 : Int32)), (0, .ref (adr 0)), (1, .int x1), (2, .int x2), (3, .int x3), (4, .int x4), (5, .int x5), (7, .int x7)]) hx hb dX8_passes_63 hl (by decide) rfl (fun ls hl => ?_)
              refine lv_iinc (v := (x7 + (1 : Int32))) (lv' := [(7, .int (x7 + (1 : Int32))), (6, .int (0 : Int32)), (0, .ref (adr 0)), (1, .int x1), (2, .int x2), (3, .int x3), (4, .int x4), (5, .int x5)]) hx hb dX8_passes_65 hl (k := 7) rfl rfl (by decide) rfl (fun ls hl => ?_)
              refine lv_goto (tgt := 6) hx hb dX8_passes_68 (by decide) ?_
              exact ih x1 x2 x3 x4 x5 (0 : Int32) (x7 + (1 : Int32)) τ7 hf _ _ _ hH (lv_sub hl [2, 3, 4, 5, 6, 7, 1, 0] rfl)
            · have hf := fw_neg hc hf
              refine lv_iconst (v := (1 : Int32)) hx hb dX8_passes_58 (by decide) ?_
              refine lv_goto (tgt := 63) hx hb dX8_passes_59 (by decide) ?_
              refine lv_istore (lv' := [(6, .int (1 : Int32)), (0, .ref (adr 0)), (1, .int x1), (2, .int x2), (3, .int x3), (4, .int x4), (5, .int x5), (7, .int x7)]) hx hb dX8_passes_63 hl (by decide) rfl (fun ls hl => ?_)
              refine lv_iinc (v := (x7 + (1 : Int32))) (lv' := [(7, .int (x7 + (1 : Int32))), (6, .int (1 : Int32)), (0, .ref (adr 0)), (1, .int x1), (2, .int x2), (3, .int x3), (4, .int x4), (5, .int x5)]) hx hb dX8_passes_65 hl (k := 7) rfl rfl (by decide) rfl (fun ls hl => ?_)
              refine lv_goto (tgt := 6) hx hb dX8_passes_68 (by decide) ?_
              exact ih x1 x2 x3 x4 x5 (1 : Int32) (x7 + (1 : Int32)) τ7 hf _ _ _ hH (lv_sub hl [2, 3, 4, 5, 6, 7, 1, 0] rfl)
def pX8_passes (x1 : Int32) (x2 : Int32) (x3 : Int32) (x4 : Int32) (x5 : Int32) (σ : fw_T) : Option (Int32 × fw_T) :=
  pX8_passes_6 400 x1 x2 x3 x4 x5 (1 : Int32) (0 : Int32) σ
set_option maxRecDepth 100000 in
set_option maxHeartbeats 4000000 in
theorem kX8_passes {x1 : Int32} {x2 : Int32} {x3 : Int32} {x4 : Int32} {x5 : Int32} {r : Int32} {σ σ' : fw_T} (hf : pX8_passes x1 x2 x3 x4 x5 σ = some (r, σ')) : fw_Ci l yX8_passes (Cond.code yX8_passes cX8_passes 8 (some .boolean) :: lwT) rmX8_passes [.ref (adr 0), .int x1, .int x2, .int x3, .int x4, .int x5] D 7 adr (fw_M cI cB adr) (fmT cI cB) [] σ r σ' := by
  refine fw_start (Qc := (fun A => va_Qi (fun r' (_ : Unit) => r' = r) (fun _ t => va_P D vwCl (fw_ws 7 adr (fw_M cI cB adr σ')) t.heap) A)) (by decide) (by simp [lg_sl, Value.category]) rfl ?_
  intro p e s m below meth c A X hH ls hl
  have hx := X.1.1
  have hb := X.1.2.1
  have hl : lv_has ls 8 [(0, .ref (adr 0)), (1, .int x1), (2, .int x2), (3, .int x3), (4, .int x4), (5, .int x5)] := hl
  unfold pX8_passes at hf
  refine lv_iconst (v := (1 : Int32)) hx hb dX8_passes_0 (by decide) ?_
  refine lv_istore (lv' := [(6, .int (1 : Int32)), (0, .ref (adr 0)), (1, .int x1), (2, .int x2), (3, .int x3), (4, .int x4), (5, .int x5)]) hx hb dX8_passes_1 hl (by decide) rfl (fun ls hl => ?_)
  refine lv_iconst (v := (0 : Int32)) hx hb dX8_passes_3 (by decide) ?_
  refine lv_istore (lv' := [(7, .int (0 : Int32)), (6, .int (1 : Int32)), (0, .ref (adr 0)), (1, .int x1), (2, .int x2), (3, .int x3), (4, .int x4), (5, .int x5)]) hx hb dX8_passes_4 hl (by decide) rfl (fun ls hl => ?_)
  exact wX8_passes_6 X 400 x1 x2 x3 x4 x5 (1 : Int32) (0 : Int32) σ hf _ _ _ hH (lv_sub hl [2, 3, 4, 5, 6, 7, 1, 0] rfl)
abbrev rmX8_passesAll : Room := { frames := 3, cells := 0, slots := 0, locals := 75 }
theorem qX8_passesAll : fw_QV RX8 yX8_passesAll cX8_passesAll 5 (some .boolean) 4 := ⟨⟨tw_4_143, tv_X8_passesAll, tw_1_10, tw_4_144⟩, by decide +kernel⟩
def pX8_passesAll (x1 : Int32) (x2 : Int32) (x3 : Int32) (x4 : Int32) (σ : fw_T) : Option (Int32 × fw_T) :=
  fw_b2 (pX8_passes (0 : Int32) x1 x2 x3 x4 σ) fun w3 τ2 =>
  if w3 = 0 then
    fw_rz (0 : Int32) τ2
  else
    fw_b2 (pX8_passes (1 : Int32) x1 x2 x3 x4 τ2) fun w6 τ5 =>
    if w6 = 0 then
      fw_rz (0 : Int32) τ5
    else
      fw_b2 (pX8_passes (2 : Int32) x1 x2 x3 x4 τ5) fun w9 τ8 =>
      if w9 = 0 then
        fw_rz (0 : Int32) τ8
      else
        fw_rz (1 : Int32) τ8
set_option maxRecDepth 100000 in
set_option maxHeartbeats 4000000 in
theorem kX8_passesAll {x1 : Int32} {x2 : Int32} {x3 : Int32} {x4 : Int32} {r : Int32} {σ σ' : fw_T} (hf : pX8_passesAll x1 x2 x3 x4 σ = some (r, σ')) : fw_Ci l yX8_passesAll (Cond.code yX8_passesAll cX8_passesAll 5 (some .boolean) :: lwT) rmX8_passesAll [.ref (adr 0), .int x1, .int x2, .int x3, .int x4] D 7 adr (fw_M cI cB adr) (fmT cI cB) [] σ r σ' := by
  refine fw_start (Qc := (fun A => va_Qi (fun r' (_ : Unit) => r' = r) (fun _ t => va_P D vwCl (fw_ws 7 adr (fw_M cI cB adr σ')) t.heap) A)) (by decide) (by simp [lg_sl, Value.category]) rfl ?_
  intro p e s m below meth c A X hH ls hl
  have hx := X.1.1
  have hb := X.1.2.1
  have hl : lv_has ls 5 [(0, .ref (adr 0)), (1, .int x1), (2, .int x2), (3, .int x3), (4, .int x4)] := hl
  unfold pX8_passesAll at hf
  refine lv_aload_n hx hb dX8_passesAll_0 rfl (lv_at hl 0 rfl) ?_
  refine lv_iconst (v := (0 : Int32)) hx hb dX8_passesAll_1 (by decide) ?_
  refine lv_iload_n hx hb dX8_passesAll_2 rfl (lv_at hl 1 rfl) ?_
  refine lv_iload_n hx hb dX8_passesAll_3 rfl (lv_at hl 2 rfl) ?_
  refine lv_iload_n hx hb dX8_passesAll_4 rfl (lv_at hl 3 rfl) ?_
  refine lv_iload hx hb dX8_passesAll_5 (lv_at hl 4 rfl) ?_
  obtain ⟨w3, τ2, g1, hf⟩ := fw_b2s hf
  refine fw_ci hH (fw_rV (As := [.int (0 : Int32), .int x1, .int x2, .int x3, .int x4]) (rest := []) (id := 0) X hH (kX8_passes  g1 _) qX8_passes tw_4_145 ⟨Nat.le_of_ble_eq_true rfl, Nat.le_of_ble_eq_true rfl⟩ rfl rfl (by decide) rfl rfl rfl hl.1 rfl (Nat.le_of_ble_eq_true rfl) dX8_passesAll_7) (fun H locs hH => ?_)
  refine lv_if_eq (tgt := 43) hx hb dX8_passesAll_10 (by decide) (fun hc => ?_) (fun hc => ?_)
  · have hf := fw_pos hc hf
    refine lv_iconst (v := (0 : Int32)) hx hb dX8_passesAll_43 (by decide) ?_
    obtain ⟨rfl, rfl, hz⟩ := fw_rzs hf
    exact fw_retz X hH hz dX8_passesAll_44
  · have hf := fw_neg hc hf
    refine lv_aload_n hx hb dX8_passesAll_13 rfl (lv_at hl 0 rfl) ?_
    refine lv_iconst (v := (1 : Int32)) hx hb dX8_passesAll_14 (by decide) ?_
    refine lv_iload_n hx hb dX8_passesAll_15 rfl (lv_at hl 1 rfl) ?_
    refine lv_iload_n hx hb dX8_passesAll_16 rfl (lv_at hl 2 rfl) ?_
    refine lv_iload_n hx hb dX8_passesAll_17 rfl (lv_at hl 3 rfl) ?_
    refine lv_iload hx hb dX8_passesAll_18 (lv_at hl 4 rfl) ?_
    obtain ⟨w6, τ5, g4, hf⟩ := fw_b2s hf
    refine fw_ci hH (fw_rV (As := [.int (1 : Int32), .int x1, .int x2, .int x3, .int x4]) (rest := []) (id := 0) X hH (kX8_passes  g4 _) qX8_passes tw_4_145 ⟨Nat.le_of_ble_eq_true rfl, Nat.le_of_ble_eq_true rfl⟩ rfl rfl (by decide) rfl rfl rfl hl.1 rfl (Nat.le_of_ble_eq_true rfl) dX8_passesAll_20) (fun H locs hH => ?_)
    refine lv_if_eq (tgt := 43) hx hb dX8_passesAll_23 (by decide) (fun hc => ?_) (fun hc => ?_)
    · have hf := fw_pos hc hf
      refine lv_iconst (v := (0 : Int32)) hx hb dX8_passesAll_43 (by decide) ?_
      obtain ⟨rfl, rfl, hz⟩ := fw_rzs hf
      exact fw_retz X hH hz dX8_passesAll_44
    · have hf := fw_neg hc hf
      refine lv_aload_n hx hb dX8_passesAll_26 rfl (lv_at hl 0 rfl) ?_
      refine lv_iconst (v := (2 : Int32)) hx hb dX8_passesAll_27 (by decide) ?_
      refine lv_iload_n hx hb dX8_passesAll_28 rfl (lv_at hl 1 rfl) ?_
      refine lv_iload_n hx hb dX8_passesAll_29 rfl (lv_at hl 2 rfl) ?_
      refine lv_iload_n hx hb dX8_passesAll_30 rfl (lv_at hl 3 rfl) ?_
      refine lv_iload hx hb dX8_passesAll_31 (lv_at hl 4 rfl) ?_
      obtain ⟨w9, τ8, g7, hf⟩ := fw_b2s hf
      refine fw_ci hH (fw_rV (As := [.int (2 : Int32), .int x1, .int x2, .int x3, .int x4]) (rest := []) (id := 0) X hH (kX8_passes  g7 _) qX8_passes tw_4_145 ⟨Nat.le_of_ble_eq_true rfl, Nat.le_of_ble_eq_true rfl⟩ rfl rfl (by decide) rfl rfl rfl hl.1 rfl (Nat.le_of_ble_eq_true rfl) dX8_passesAll_33) (fun H locs hH => ?_)
      refine lv_if_eq (tgt := 43) hx hb dX8_passesAll_36 (by decide) (fun hc => ?_) (fun hc => ?_)
      · have hf := fw_pos hc hf
        refine lv_iconst (v := (0 : Int32)) hx hb dX8_passesAll_43 (by decide) ?_
        obtain ⟨rfl, rfl, hz⟩ := fw_rzs hf
        exact fw_retz X hH hz dX8_passesAll_44
      · have hf := fw_neg hc hf
        refine lv_iconst (v := (1 : Int32)) hx hb dX8_passesAll_39 (by decide) ?_
        refine lv_goto (tgt := 44) hx hb dX8_passesAll_40 (by decide) ?_
        obtain ⟨rfl, rfl, hz⟩ := fw_rzs hf
        exact fw_retz X hH hz dX8_passesAll_44
abbrev rmX8_matches : Room := { frames := 4, cells := 0, slots := 0, locals := 99 }
theorem qX8_matches : fw_QV RX8 yX8_matches cX8_matches 6 (some .int) 3 := ⟨⟨tw_4_131, tv_X8_matches, tw_1_10, tw_4_132⟩, by decide +kernel⟩
def pX8_matches_6 : Nat → Int32 → Int32 → Int32 → Int32 → Int32 → fw_T → Option (Int32 × fw_T)
  | 0, _, _, _, _, _, _ => none
  | n + 1, x1, x2, x3, x4, x5, σ =>
    if (10 : Int32) ≤ x5 then
      some (x4, σ)
    else
      fw_b2 (pX8_hasLeft x1 x5 σ) fun w3 τ2 =>
      if w3 = 0 then
        pX8_matches_6 n x1 x2 x3 (x4 + (0 : Int32)) (x5 + (1 : Int32)) τ2
      else
        fw_b2 (pX8_hasRight x5 x2 τ2) fun w6 τ5 =>
        if w6 = 0 then
          pX8_matches_6 n x1 x2 x3 (x4 + (0 : Int32)) (x5 + (1 : Int32)) τ5
        else
          fw_b2 (pX8_passesAll x3 x1 x5 x2 τ5) fun w9 τ8 =>
          if w9 = 0 then
            pX8_matches_6 n x1 x2 x3 (x4 + (0 : Int32)) (x5 + (1 : Int32)) τ8
          else
            pX8_matches_6 n x1 x2 x3 (x4 + (1 : Int32)) (x5 + (1 : Int32)) τ8
set_option maxRecDepth 100000 in
set_option maxHeartbeats 4000000 in
theorem wX8_matches_6 {args : Array Value} {r : Int32} {σ' : fw_T} (X : fmX p m c cX8_matches 6 s args RX8 meth (some .int) D cI cB)  : ∀ (n : Nat), ∀ (x1 : Int32), ∀ (x2 : Int32), ∀ (x3 : Int32), ∀ (x4 : Int32), ∀ (x5 : Int32), ∀ (σ : fw_T), pX8_matches_6 n x1 x2 x3 x4 x5 σ = some (r, σ') → ∀ (H : Heap) (locs : List Loc) (ls : Array Slot), fmH D cI cB adr A s H locs σ → lv_has ls 6 [(0, .ref (adr 0)), (1, .int x1), (2, .int x2), (3, .int x3), (4, .int x4), (5, .int x5)] → W p l e rmX8_matches s m args below meth c H locs 0 0 (fw_Qi D 7 adr (fw_M cI cB adr) A below args s r σ') (F0 m 6 ls []) := by
  have hx := X.1.1
  have hb := X.1.2.1
  intro n
  induction n with
  | zero =>
    intro x1 x2 x3 x4 x5 σ hf
    exact absurd hf (by simp [pX8_matches_6])
  | succ n ih =>
    intro x1 x2 x3 x4 x5 σ hf H locs ls hH hl
    rw [pX8_matches_6] at hf
    refine lv_iload hx hb dX8_matches_6 (lv_at hl 5 rfl) ?_
    refine lv_bipush (v := (10 : Int32)) hx hb dX8_matches_8 (by decide) ?_
    refine lv_icmp_ge (tgt := 61) hx hb dX8_matches_10 (by decide) (fun hc => ?_) (fun hc => ?_)
    · have hf := fw_pos hc hf
      refine lv_iload hx hb dX8_matches_61 (lv_at hl 4 rfl) ?_
      obtain ⟨rfl, rfl⟩ := fw_s2 hf
      exact fw_reti X hH dX8_matches_63
    · have hf := fw_neg hc hf
      refine lv_iload hx hb dX8_matches_13 (lv_at hl 4 rfl) ?_
      refine lv_aload_n hx hb dX8_matches_15 rfl (lv_at hl 0 rfl) ?_
      refine lv_iload_n hx hb dX8_matches_16 rfl (lv_at hl 1 rfl) ?_
      refine lv_iload hx hb dX8_matches_17 (lv_at hl 5 rfl) ?_
      obtain ⟨w3, τ2, g1, hf⟩ := fw_b2s hf
      refine fw_ci hH (fw_rV (As := [.int x1, .int x5]) (rest := [.int x4]) (id := 0) X hH (kX8_hasLeft  g1 _) qX8_hasLeft tw_4_133 ⟨Nat.le_of_ble_eq_true rfl, Nat.le_of_ble_eq_true rfl⟩ rfl rfl (by decide) rfl rfl rfl hl.1 rfl (Nat.le_of_ble_eq_true rfl) dX8_matches_19) (fun H locs hH => ?_)
      refine lv_if_eq (tgt := 51) hx hb dX8_matches_22 (by decide) (fun hc => ?_) (fun hc => ?_)
      · have hf := fw_pos hc hf
        refine lv_iconst (v := (0 : Int32)) hx hb dX8_matches_51 (by decide) ?_
        refine lv_iadd hx hb dX8_matches_52 ?_
        refine lv_istore (lv' := [(4, .int (x4 + (0 : Int32))), (0, .ref (adr 0)), (1, .int x1), (2, .int x2), (3, .int x3), (5, .int x5)]) hx hb dX8_matches_53 hl (by decide) rfl (fun ls hl => ?_)
        refine lv_iinc (v := (x5 + (1 : Int32))) (lv' := [(5, .int (x5 + (1 : Int32))), (4, .int (x4 + (0 : Int32))), (0, .ref (adr 0)), (1, .int x1), (2, .int x2), (3, .int x3)]) hx hb dX8_matches_55 hl (k := 5) rfl rfl (by decide) rfl (fun ls hl => ?_)
        refine lv_goto (tgt := 6) hx hb dX8_matches_58 (by decide) ?_
        exact ih x1 x2 x3 (x4 + (0 : Int32)) (x5 + (1 : Int32)) τ2 hf _ _ _ hH (lv_sub hl [2, 3, 4, 5, 1, 0] rfl)
      · have hf := fw_neg hc hf
        refine lv_aload_n hx hb dX8_matches_25 rfl (lv_at hl 0 rfl) ?_
        refine lv_iload hx hb dX8_matches_26 (lv_at hl 5 rfl) ?_
        refine lv_iload_n hx hb dX8_matches_28 rfl (lv_at hl 2 rfl) ?_
        obtain ⟨w6, τ5, g4, hf⟩ := fw_b2s hf
        refine fw_ci hH (fw_rV (As := [.int x5, .int x2]) (rest := [.int x4]) (id := 0) X hH (kX8_hasRight  g4 _) qX8_hasRight tw_4_137 ⟨Nat.le_of_ble_eq_true rfl, Nat.le_of_ble_eq_true rfl⟩ rfl rfl (by decide) rfl rfl rfl hl.1 rfl (Nat.le_of_ble_eq_true rfl) dX8_matches_29) (fun H locs hH => ?_)
        refine lv_if_eq (tgt := 51) hx hb dX8_matches_32 (by decide) (fun hc => ?_) (fun hc => ?_)
        · have hf := fw_pos hc hf
          refine lv_iconst (v := (0 : Int32)) hx hb dX8_matches_51 (by decide) ?_
          refine lv_iadd hx hb dX8_matches_52 ?_
          refine lv_istore (lv' := [(4, .int (x4 + (0 : Int32))), (0, .ref (adr 0)), (1, .int x1), (2, .int x2), (3, .int x3), (5, .int x5)]) hx hb dX8_matches_53 hl (by decide) rfl (fun ls hl => ?_)
          refine lv_iinc (v := (x5 + (1 : Int32))) (lv' := [(5, .int (x5 + (1 : Int32))), (4, .int (x4 + (0 : Int32))), (0, .ref (adr 0)), (1, .int x1), (2, .int x2), (3, .int x3)]) hx hb dX8_matches_55 hl (k := 5) rfl rfl (by decide) rfl (fun ls hl => ?_)
          refine lv_goto (tgt := 6) hx hb dX8_matches_58 (by decide) ?_
          exact ih x1 x2 x3 (x4 + (0 : Int32)) (x5 + (1 : Int32)) τ5 hf _ _ _ hH (lv_sub hl [2, 3, 4, 5, 1, 0] rfl)
        · have hf := fw_neg hc hf
          refine lv_aload_n hx hb dX8_matches_35 rfl (lv_at hl 0 rfl) ?_
          refine lv_iload_n hx hb dX8_matches_36 rfl (lv_at hl 3 rfl) ?_
          refine lv_iload_n hx hb dX8_matches_37 rfl (lv_at hl 1 rfl) ?_
          refine lv_iload hx hb dX8_matches_38 (lv_at hl 5 rfl) ?_
          refine lv_iload_n hx hb dX8_matches_40 rfl (lv_at hl 2 rfl) ?_
          obtain ⟨w9, τ8, g7, hf⟩ := fw_b2s hf
          refine fw_ci hH (fw_rV (As := [.int x3, .int x1, .int x5, .int x2]) (rest := [.int x4]) (id := 0) X hH (kX8_passesAll  g7 _) qX8_passesAll tw_4_141 ⟨Nat.le_of_ble_eq_true rfl, Nat.le_of_ble_eq_true rfl⟩ rfl rfl (by decide) rfl rfl rfl hl.1 rfl (Nat.le_of_ble_eq_true rfl) dX8_matches_41) (fun H locs hH => ?_)
          refine lv_if_eq (tgt := 51) hx hb dX8_matches_44 (by decide) (fun hc => ?_) (fun hc => ?_)
          · have hf := fw_pos hc hf
            refine lv_iconst (v := (0 : Int32)) hx hb dX8_matches_51 (by decide) ?_
            refine lv_iadd hx hb dX8_matches_52 ?_
            refine lv_istore (lv' := [(4, .int (x4 + (0 : Int32))), (0, .ref (adr 0)), (1, .int x1), (2, .int x2), (3, .int x3), (5, .int x5)]) hx hb dX8_matches_53 hl (by decide) rfl (fun ls hl => ?_)
            refine lv_iinc (v := (x5 + (1 : Int32))) (lv' := [(5, .int (x5 + (1 : Int32))), (4, .int (x4 + (0 : Int32))), (0, .ref (adr 0)), (1, .int x1), (2, .int x2), (3, .int x3)]) hx hb dX8_matches_55 hl (k := 5) rfl rfl (by decide) rfl (fun ls hl => ?_)
            refine lv_goto (tgt := 6) hx hb dX8_matches_58 (by decide) ?_
            exact ih x1 x2 x3 (x4 + (0 : Int32)) (x5 + (1 : Int32)) τ8 hf _ _ _ hH (lv_sub hl [2, 3, 4, 5, 1, 0] rfl)
          · have hf := fw_neg hc hf
            refine lv_iconst (v := (1 : Int32)) hx hb dX8_matches_47 (by decide) ?_
            refine lv_goto (tgt := 52) hx hb dX8_matches_48 (by decide) ?_
            refine lv_iadd hx hb dX8_matches_52 ?_
            refine lv_istore (lv' := [(4, .int (x4 + (1 : Int32))), (0, .ref (adr 0)), (1, .int x1), (2, .int x2), (3, .int x3), (5, .int x5)]) hx hb dX8_matches_53 hl (by decide) rfl (fun ls hl => ?_)
            refine lv_iinc (v := (x5 + (1 : Int32))) (lv' := [(5, .int (x5 + (1 : Int32))), (4, .int (x4 + (1 : Int32))), (0, .ref (adr 0)), (1, .int x1), (2, .int x2), (3, .int x3)]) hx hb dX8_matches_55 hl (k := 5) rfl rfl (by decide) rfl (fun ls hl => ?_)
            refine lv_goto (tgt := 6) hx hb dX8_matches_58 (by decide) ?_
            exact ih x1 x2 x3 (x4 + (1 : Int32)) (x5 + (1 : Int32)) τ8 hf _ _ _ hH (lv_sub hl [2, 3, 4, 5, 1, 0] rfl)
def pX8_matches (x1 : Int32) (x2 : Int32) (x3 : Int32) (σ : fw_T) : Option (Int32 × fw_T) :=
  pX8_matches_6 400 x1 x2 x3 (0 : Int32) (0 : Int32) σ
set_option maxRecDepth 100000 in
set_option maxHeartbeats 4000000 in
theorem kX8_matches {x1 : Int32} {x2 : Int32} {x3 : Int32} {r : Int32} {σ σ' : fw_T} (hf : pX8_matches x1 x2 x3 σ = some (r, σ')) : fw_Ci l yX8_matches (Cond.code yX8_matches cX8_matches 6 (some .int) :: lwT) rmX8_matches [.ref (adr 0), .int x1, .int x2, .int x3] D 7 adr (fw_M cI cB adr) (fmT cI cB) [] σ r σ' := by
  refine fw_start (Qc := (fun A => va_Qi (fun r' (_ : Unit) => r' = r) (fun _ t => va_P D vwCl (fw_ws 7 adr (fw_M cI cB adr σ')) t.heap) A)) (by decide) (by simp [lg_sl, Value.category]) rfl ?_
  intro p e s m below meth c A X hH ls hl
  have hx := X.1.1
  have hb := X.1.2.1
  have hl : lv_has ls 6 [(0, .ref (adr 0)), (1, .int x1), (2, .int x2), (3, .int x3)] := hl
  unfold pX8_matches at hf
  refine lv_iconst (v := (0 : Int32)) hx hb dX8_matches_0 (by decide) ?_
  refine lv_istore (lv' := [(4, .int (0 : Int32)), (0, .ref (adr 0)), (1, .int x1), (2, .int x2), (3, .int x3)]) hx hb dX8_matches_1 hl (by decide) rfl (fun ls hl => ?_)
  refine lv_iconst (v := (0 : Int32)) hx hb dX8_matches_3 (by decide) ?_
  refine lv_istore (lv' := [(5, .int (0 : Int32)), (4, .int (0 : Int32)), (0, .ref (adr 0)), (1, .int x1), (2, .int x2), (3, .int x3)]) hx hb dX8_matches_4 hl (by decide) rfl (fun ls hl => ?_)
  exact wX8_matches_6 X 400 x1 x2 x3 (0 : Int32) (0 : Int32) σ hf _ _ _ hH (lv_sub hl [2, 3, 4, 5, 1, 0] rfl)
abbrev rmX8_isAnswer : Room := { frames := 5, cells := 0, slots := 0, locals := 124 }
theorem qX8_isAnswer : fw_QV RX8 yX8_isAnswer cX8_isAnswer 3 (some .boolean) 2 := ⟨⟨tw_4_127, tv_X8_isAnswer, tw_1_10, tw_4_128⟩, by decide +kernel⟩
def pX8_isAnswer (x1 : Int32) (x2 : Int32) (σ : fw_T) : Option (Int32 × fw_T) :=
  fw_b2 (pX8_matches x1 x2 (0 : Int32) σ) fun w3 τ2 =>
  if w3 ≤ 0 then
    fw_rz (0 : Int32) τ2
  else
    fw_rz (1 : Int32) τ2
set_option maxRecDepth 100000 in
set_option maxHeartbeats 4000000 in
theorem kX8_isAnswer {x1 : Int32} {x2 : Int32} {r : Int32} {σ σ' : fw_T} (hf : pX8_isAnswer x1 x2 σ = some (r, σ')) : fw_Ci l yX8_isAnswer (Cond.code yX8_isAnswer cX8_isAnswer 3 (some .boolean) :: lwT) rmX8_isAnswer [.ref (adr 0), .int x1, .int x2] D 7 adr (fw_M cI cB adr) (fmT cI cB) [] σ r σ' := by
  refine fw_start (Qc := (fun A => va_Qi (fun r' (_ : Unit) => r' = r) (fun _ t => va_P D vwCl (fw_ws 7 adr (fw_M cI cB adr σ')) t.heap) A)) (by decide) (by simp [lg_sl, Value.category]) rfl ?_
  intro p e s m below meth c A X hH ls hl
  have hx := X.1.1
  have hb := X.1.2.1
  have hl : lv_has ls 3 [(0, .ref (adr 0)), (1, .int x1), (2, .int x2)] := hl
  unfold pX8_isAnswer at hf
  refine lv_aload_n hx hb dX8_isAnswer_0 rfl (lv_at hl 0 rfl) ?_
  refine lv_iload_n hx hb dX8_isAnswer_1 rfl (lv_at hl 1 rfl) ?_
  refine lv_iload_n hx hb dX8_isAnswer_2 rfl (lv_at hl 2 rfl) ?_
  refine lv_iconst (v := (0 : Int32)) hx hb dX8_isAnswer_3 (by decide) ?_
  obtain ⟨w3, τ2, g1, hf⟩ := fw_b2s hf
  refine fw_ci hH (fw_rV (As := [.int x1, .int x2, .int (0 : Int32)]) (rest := []) (id := 0) X hH (kX8_matches  g1 _) qX8_matches tw_4_129 ⟨Nat.le_of_ble_eq_true rfl, Nat.le_of_ble_eq_true rfl⟩ rfl rfl (by decide) rfl rfl rfl hl.1 rfl (Nat.le_of_ble_eq_true rfl) dX8_isAnswer_4) (fun H locs hH => ?_)
  refine lv_if_le (tgt := 14) hx hb dX8_isAnswer_7 (by decide) (fun hc => ?_) (fun hc => ?_)
  · have hf := fw_pos hc hf
    refine lv_iconst (v := (0 : Int32)) hx hb dX8_isAnswer_14 (by decide) ?_
    obtain ⟨rfl, rfl, hz⟩ := fw_rzs hf
    exact fw_retz X hH hz dX8_isAnswer_15
  · have hf := fw_neg hc hf
    refine lv_iconst (v := (1 : Int32)) hx hb dX8_isAnswer_10 (by decide) ?_
    refine lv_goto (tgt := 15) hx hb dX8_isAnswer_11 (by decide) ?_
    obtain ⟨rfl, rfl, hz⟩ := fw_rzs hf
    exact fw_retz X hH hz dX8_isAnswer_15
abbrev rmX8_answers : Room := { frames := 6, cells := 0, slots := 0, locals := 146 }
theorem qX8_answers : fw_QV RX8 yX8_answers cX8_answers 3 (some .int) 0 := ⟨⟨tw_4_123, tv_X8_answers, tw_1_10, tw_4_124⟩, by decide +kernel⟩
def pX8_answers_4 : Nat → Int32 → Int32 → fw_T → Option (Int32 × fw_T)
  | 0, _, _, _ => none
  | n + 1, x1, x2, σ =>
    if (100 : Int32) ≤ x2 then
      some (x1, σ)
    else
      fw_b2 (pX8_isAnswer (x2 / (10 : Int32)) (x2 - x2 / (10 : Int32) * (10 : Int32)) σ) fun w3 τ2 =>
      if w3 = 0 then
        pX8_answers_4 n (x1 + (0 : Int32)) (x2 + (1 : Int32)) τ2
      else
        pX8_answers_4 n (x1 + (1 : Int32)) (x2 + (1 : Int32)) τ2
set_option maxRecDepth 100000 in
set_option maxHeartbeats 4000000 in
theorem wX8_answers_4 {args : Array Value} {r : Int32} {σ' : fw_T} (X : fmX p m c cX8_answers 3 s args RX8 meth (some .int) D cI cB)  : ∀ (n : Nat), ∀ (x1 : Int32), ∀ (x2 : Int32), ∀ (σ : fw_T), pX8_answers_4 n x1 x2 σ = some (r, σ') → ∀ (H : Heap) (locs : List Loc) (ls : Array Slot), fmH D cI cB adr A s H locs σ → lv_has ls 3 [(0, .ref (adr 0)), (1, .int x1), (2, .int x2)] → W p l e rmX8_answers s m args below meth c H locs 0 0 (fw_Qi D 7 adr (fw_M cI cB adr) A below args s r σ') (F0 m 4 ls []) := by
  have hx := X.1.1
  have hb := X.1.2.1
  intro n
  induction n with
  | zero =>
    intro x1 x2 σ hf
    exact absurd hf (by simp [pX8_answers_4])
  | succ n ih =>
    intro x1 x2 σ hf H locs ls hH hl
    rw [pX8_answers_4] at hf
    refine lv_iload_n hx hb dX8_answers_4 rfl (lv_at hl 2 rfl) ?_
    refine lv_bipush (v := (100 : Int32)) hx hb dX8_answers_5 (by decide) ?_
    refine lv_icmp_ge (tgt := 39) hx hb dX8_answers_7 (by decide) (fun hc => ?_) (fun hc => ?_)
    · have hf := fw_pos hc hf
      refine lv_iload_n hx hb dX8_answers_39 rfl (lv_at hl 1 rfl) ?_
      obtain ⟨rfl, rfl⟩ := fw_s2 hf
      exact fw_reti X hH dX8_answers_40
    · have hf := fw_neg hc hf
      refine lv_iload_n hx hb dX8_answers_10 rfl (lv_at hl 1 rfl) ?_
      refine lv_aload_n hx hb dX8_answers_11 rfl (lv_at hl 0 rfl) ?_
      refine lv_iload_n hx hb dX8_answers_12 rfl (lv_at hl 2 rfl) ?_
      refine lv_bipush (v := (10 : Int32)) hx hb dX8_answers_13 (by decide) ?_
      refine lv_idiv hx hb dX8_answers_15 (by decide) ?_
      refine lv_iload_n hx hb dX8_answers_16 rfl (lv_at hl 2 rfl) ?_
      refine lv_bipush (v := (10 : Int32)) hx hb dX8_answers_17 (by decide) ?_
      refine lv_irem hx hb dX8_answers_19 (by decide) ?_
      obtain ⟨w3, τ2, g1, hf⟩ := fw_b2s hf
      refine fw_ci hH (fw_rV (As := [.int (x2 / (10 : Int32)), .int (x2 - x2 / (10 : Int32) * (10 : Int32))]) (rest := [.int x1]) (id := 0) X hH (kX8_isAnswer  g1 _) qX8_isAnswer tw_4_125 ⟨Nat.le_of_ble_eq_true rfl, Nat.le_of_ble_eq_true rfl⟩ rfl rfl (by decide) rfl rfl rfl hl.1 rfl (Nat.le_of_ble_eq_true rfl) dX8_answers_20) (fun H locs hH => ?_)
      refine lv_if_eq (tgt := 30) hx hb dX8_answers_23 (by decide) (fun hc => ?_) (fun hc => ?_)
      · have hf := fw_pos hc hf
        refine lv_iconst (v := (0 : Int32)) hx hb dX8_answers_30 (by decide) ?_
        refine lv_iadd hx hb dX8_answers_31 ?_
        refine lv_istore_n (lv' := [(1, .int (x1 + (0 : Int32))), (0, .ref (adr 0)), (2, .int x2)]) hx hb dX8_answers_32 rfl hl (by decide) rfl (fun ls hl => ?_)
        refine lv_iinc (v := (x2 + (1 : Int32))) (lv' := [(2, .int (x2 + (1 : Int32))), (1, .int (x1 + (0 : Int32))), (0, .ref (adr 0))]) hx hb dX8_answers_33 hl (k := 2) rfl rfl (by decide) rfl (fun ls hl => ?_)
        refine lv_goto (tgt := 4) hx hb dX8_answers_36 (by decide) ?_
        exact ih (x1 + (0 : Int32)) (x2 + (1 : Int32)) τ2 hf _ _ _ hH (lv_sub hl [2, 1, 0] rfl)
      · have hf := fw_neg hc hf
        refine lv_iconst (v := (1 : Int32)) hx hb dX8_answers_26 (by decide) ?_
        refine lv_goto (tgt := 31) hx hb dX8_answers_27 (by decide) ?_
        refine lv_iadd hx hb dX8_answers_31 ?_
        refine lv_istore_n (lv' := [(1, .int (x1 + (1 : Int32))), (0, .ref (adr 0)), (2, .int x2)]) hx hb dX8_answers_32 rfl hl (by decide) rfl (fun ls hl => ?_)
        refine lv_iinc (v := (x2 + (1 : Int32))) (lv' := [(2, .int (x2 + (1 : Int32))), (1, .int (x1 + (1 : Int32))), (0, .ref (adr 0))]) hx hb dX8_answers_33 hl (k := 2) rfl rfl (by decide) rfl (fun ls hl => ?_)
        refine lv_goto (tgt := 4) hx hb dX8_answers_36 (by decide) ?_
        exact ih (x1 + (1 : Int32)) (x2 + (1 : Int32)) τ2 hf _ _ _ hH (lv_sub hl [2, 1, 0] rfl)
def pX8_answers (σ : fw_T) : Option (Int32 × fw_T) :=
  pX8_answers_4 400 (0 : Int32) (0 : Int32) σ
set_option maxRecDepth 100000 in
set_option maxHeartbeats 4000000 in
theorem kX8_answers {r : Int32} {σ σ' : fw_T} (hf : pX8_answers σ = some (r, σ')) : fw_Ci l yX8_answers (Cond.code yX8_answers cX8_answers 3 (some .int) :: lwT) rmX8_answers [.ref (adr 0)] D 7 adr (fw_M cI cB adr) (fmT cI cB) [] σ r σ' := by
  refine fw_start (Qc := (fun A => va_Qi (fun r' (_ : Unit) => r' = r) (fun _ t => va_P D vwCl (fw_ws 7 adr (fw_M cI cB adr σ')) t.heap) A)) (by decide) (by simp [lg_sl, Value.category]) rfl ?_
  intro p e s m below meth c A X hH ls hl
  have hx := X.1.1
  have hb := X.1.2.1
  have hl : lv_has ls 3 [(0, .ref (adr 0))] := hl
  unfold pX8_answers at hf
  refine lv_iconst (v := (0 : Int32)) hx hb dX8_answers_0 (by decide) ?_
  refine lv_istore_n (lv' := [(1, .int (0 : Int32)), (0, .ref (adr 0))]) hx hb dX8_answers_1 rfl hl (by decide) rfl (fun ls hl => ?_)
  refine lv_iconst (v := (0 : Int32)) hx hb dX8_answers_2 (by decide) ?_
  refine lv_istore_n (lv' := [(2, .int (0 : Int32)), (1, .int (0 : Int32)), (0, .ref (adr 0))]) hx hb dX8_answers_3 rfl hl (by decide) rfl (fun ls hl => ?_)
  exact wX8_answers_4 X 400 (0 : Int32) (0 : Int32) σ hf _ _ _ hH (lv_sub hl [2, 1, 0] rfl)
abbrev rmX8_answerCount : Room := { frames := 7, cells := 0, slots := 0, locals := 168 }
theorem qX8_answerCount : fw_QV RX8 yX8_answerCount cX8_answerCount 1 (some .int) 0 := ⟨⟨tw_4_118, tw_4_119, tw_1_10, tw_4_120⟩, by decide +kernel⟩
def pX8_answerCount (σ : fw_T) : Option (Int32 × fw_T) :=
  fw_b2 (pX8_answers σ) fun w3 τ2 =>
  some (w3, τ2)
set_option maxRecDepth 100000 in
set_option maxHeartbeats 4000000 in
theorem kX8_answerCount {r : Int32} {σ σ' : fw_T} (hf : pX8_answerCount σ = some (r, σ')) : fw_Ci l yX8_answerCount (Cond.code yX8_answerCount cX8_answerCount 1 (some .int) :: lwT) rmX8_answerCount [.ref (adr 0)] D 7 adr (fw_M cI cB adr) (fmT cI cB) [] σ r σ' := by
  refine fw_start (Qc := (fun A => va_Qi (fun r' (_ : Unit) => r' = r) (fun _ t => va_P D vwCl (fw_ws 7 adr (fw_M cI cB adr σ')) t.heap) A)) (by decide) (by simp [lg_sl, Value.category]) rfl ?_
  intro p e s m below meth c A X hH ls hl
  have hx := X.1.1
  have hb := X.1.2.1
  have hl : lv_has ls 1 [(0, .ref (adr 0))] := hl
  unfold pX8_answerCount at hf
  refine lv_aload_n hx hb dX8_answerCount_0 rfl (lv_at hl 0 rfl) ?_
  obtain ⟨w3, τ2, g1, hf⟩ := fw_b2s hf
  refine fw_ci hH (fw_rV (As := []) (rest := []) (id := 0) X hH (kX8_answers  g1 _) qX8_answers tw_4_121 ⟨Nat.le_of_ble_eq_true rfl, Nat.le_of_ble_eq_true rfl⟩ rfl rfl (by decide) rfl rfl rfl hl.1 rfl (Nat.le_of_ble_eq_true rfl) dX8_answerCount_1) (fun H locs hH => ?_)
  obtain ⟨rfl, rfl⟩ := fw_s2 hf
  exact fw_reti X hH dX8_answerCount_4
abbrev rmX8_answerAt : Room := { frames := 6, cells := 0, slots := 0, locals := 146 }
theorem qX8_answerAt : fw_QV RX8 yX8_answerAt cX8_answerAt 4 (some .int) 1 := ⟨⟨tw_4_155, tv_X8_answerAt, tw_1_10, tw_4_156⟩, by decide +kernel⟩
def pX8_answerAt_4 : Nat → Int32 → Int32 → fw_T → Option (Int32 × fw_T)
  | 0, _, _, _ => none
  | n + 1, x2, x3, σ =>
    if (100 : Int32) ≤ x3 then
      some ((-10001 : Int32), σ)
    else
      fw_b2 (pX8_isAnswer (x3 / (10 : Int32)) (x3 - x3 / (10 : Int32) * (10 : Int32)) σ) fun w3 τ2 =>
      if w3 = 0 then
        pX8_answerAt_4 n x2 (x3 + (1 : Int32)) τ2
      else
        if x2 = 0 then
          some (x3, τ2)
        else
          pX8_answerAt_4 n (x2 + (-1 : Int32)) (x3 + (1 : Int32)) τ2
set_option maxRecDepth 100000 in
set_option maxHeartbeats 4000000 in
theorem wX8_answerAt_4 {args : Array Value} {r : Int32} {σ' : fw_T} (X : fmX p m c cX8_answerAt 4 s args RX8 meth (some .int) D cI cB)  : ∀ (n : Nat), ∀ (x2 : Int32), ∀ (x3 : Int32), ∀ (σ : fw_T), pX8_answerAt_4 n x2 x3 σ = some (r, σ') → ∀ (H : Heap) (locs : List Loc) (ls : Array Slot), fmH D cI cB adr A s H locs σ → lv_has ls 4 [(0, .ref (adr 0)), (2, .int x2), (3, .int x3)] → W p l e rmX8_answerAt s m args below meth c H locs 0 0 (fw_Qi D 7 adr (fw_M cI cB adr) A below args s r σ') (F0 m 4 ls []) := by
  have hx := X.1.1
  have hb := X.1.2.1
  intro n
  induction n with
  | zero =>
    intro x2 x3 σ hf
    exact absurd hf (by simp [pX8_answerAt_4])
  | succ n ih =>
    intro x2 x3 σ hf H locs ls hH hl
    rw [pX8_answerAt_4] at hf
    refine lv_iload_n hx hb dX8_answerAt_4 rfl (lv_at hl 2 rfl) ?_
    refine lv_bipush (v := (100 : Int32)) hx hb dX8_answerAt_5 (by decide) ?_
    refine lv_icmp_ge (tgt := 40) hx hb dX8_answerAt_7 (by decide) (fun hc => ?_) (fun hc => ?_)
    · have hf := fw_pos hc hf
      refine lv_sipush (v := (-10001 : Int32)) hx hb dX8_answerAt_40 (by decide) ?_
      obtain ⟨rfl, rfl⟩ := fw_s2 hf
      exact fw_reti X hH dX8_answerAt_43
    · have hf := fw_neg hc hf
      refine lv_aload_n hx hb dX8_answerAt_10 rfl (lv_at hl 0 rfl) ?_
      refine lv_iload_n hx hb dX8_answerAt_11 rfl (lv_at hl 2 rfl) ?_
      refine lv_bipush (v := (10 : Int32)) hx hb dX8_answerAt_12 (by decide) ?_
      refine lv_idiv hx hb dX8_answerAt_14 (by decide) ?_
      refine lv_iload_n hx hb dX8_answerAt_15 rfl (lv_at hl 2 rfl) ?_
      refine lv_bipush (v := (10 : Int32)) hx hb dX8_answerAt_16 (by decide) ?_
      refine lv_irem hx hb dX8_answerAt_18 (by decide) ?_
      obtain ⟨w3, τ2, g1, hf⟩ := fw_b2s hf
      refine fw_ci hH (fw_rV (As := [.int (x3 / (10 : Int32)), .int (x3 - x3 / (10 : Int32) * (10 : Int32))]) (rest := []) (id := 0) X hH (kX8_isAnswer  g1 _) qX8_isAnswer tw_4_125 ⟨Nat.le_of_ble_eq_true rfl, Nat.le_of_ble_eq_true rfl⟩ rfl rfl (by decide) rfl rfl rfl hl.1 rfl (Nat.le_of_ble_eq_true rfl) dX8_answerAt_19) (fun H locs hH => ?_)
      refine lv_if_eq (tgt := 34) hx hb dX8_answerAt_22 (by decide) (fun hc => ?_) (fun hc => ?_)
      · have hf := fw_pos hc hf
        refine lv_iinc (v := (x3 + (1 : Int32))) (lv' := [(3, .int (x3 + (1 : Int32))), (0, .ref (adr 0)), (2, .int x2)]) hx hb dX8_answerAt_34 hl (k := 2) rfl rfl (by decide) rfl (fun ls hl => ?_)
        refine lv_goto (tgt := 4) hx hb dX8_answerAt_37 (by decide) ?_
        exact ih x2 (x3 + (1 : Int32)) τ2 hf _ _ _ hH (lv_sub hl [1, 2, 0] rfl)
      · have hf := fw_neg hc hf
        refine lv_iload_n hx hb dX8_answerAt_25 rfl (lv_at hl 1 rfl) ?_
        refine lv_if_ne (tgt := 31) hx hb dX8_answerAt_26 (by decide) (fun hc => ?_) (fun hc => ?_)
        · have hf := fw_neg hc hf
          refine lv_iinc (v := (x2 + (-1 : Int32))) (lv' := [(2, .int (x2 + (-1 : Int32))), (0, .ref (adr 0)), (3, .int x3)]) hx hb dX8_answerAt_31 hl (k := 1) rfl rfl (by decide) rfl (fun ls hl => ?_)
          refine lv_iinc (v := (x3 + (1 : Int32))) (lv' := [(3, .int (x3 + (1 : Int32))), (2, .int (x2 + (-1 : Int32))), (0, .ref (adr 0))]) hx hb dX8_answerAt_34 hl (k := 2) rfl rfl (by decide) rfl (fun ls hl => ?_)
          refine lv_goto (tgt := 4) hx hb dX8_answerAt_37 (by decide) ?_
          exact ih (x2 + (-1 : Int32)) (x3 + (1 : Int32)) τ2 hf _ _ _ hH (lv_sub hl [2, 1, 0] rfl)
        · have hf := fw_pos hc hf
          refine lv_iload_n hx hb dX8_answerAt_29 rfl (lv_at hl 2 rfl) ?_
          obtain ⟨rfl, rfl⟩ := fw_s2 hf
          exact fw_reti X hH dX8_answerAt_30
def pX8_answerAt (x1 : Int32) (σ : fw_T) : Option (Int32 × fw_T) :=
  pX8_answerAt_4 400 x1 (0 : Int32) σ
set_option maxRecDepth 100000 in
set_option maxHeartbeats 4000000 in
theorem kX8_answerAt {x1 : Int32} {r : Int32} {σ σ' : fw_T} (hf : pX8_answerAt x1 σ = some (r, σ')) : fw_Ci l yX8_answerAt (Cond.code yX8_answerAt cX8_answerAt 4 (some .int) :: lwT) rmX8_answerAt [.ref (adr 0), .int x1] D 7 adr (fw_M cI cB adr) (fmT cI cB) [] σ r σ' := by
  refine fw_start (Qc := (fun A => va_Qi (fun r' (_ : Unit) => r' = r) (fun _ t => va_P D vwCl (fw_ws 7 adr (fw_M cI cB adr σ')) t.heap) A)) (by decide) (by simp [lg_sl, Value.category]) rfl ?_
  intro p e s m below meth c A X hH ls hl
  have hx := X.1.1
  have hb := X.1.2.1
  have hl : lv_has ls 4 [(0, .ref (adr 0)), (1, .int x1)] := hl
  unfold pX8_answerAt at hf
  refine lv_iload_n hx hb dX8_answerAt_0 rfl (lv_at hl 1 rfl) ?_
  refine lv_istore_n (lv' := [(2, .int x1), (0, .ref (adr 0)), (1, .int x1)]) hx hb dX8_answerAt_1 rfl hl (by decide) rfl (fun ls hl => ?_)
  refine lv_iconst (v := (0 : Int32)) hx hb dX8_answerAt_2 (by decide) ?_
  refine lv_istore_n (lv' := [(3, .int (0 : Int32)), (2, .int x1), (0, .ref (adr 0)), (1, .int x1)]) hx hb dX8_answerAt_3 rfl hl (by decide) rfl (fun ls hl => ?_)
  exact wX8_answerAt_4 X 400 x1 (0 : Int32) σ hf _ _ _ hH (lv_sub hl [2, 1, 0] rfl)
abbrev rmX8_answer : Room := { frames := 7, cells := 0, slots := 0, locals := 169 }
theorem qX8_answer : fw_QV RX8 yX8_answer cX8_answer 2 (some .int) 1 := ⟨⟨tw_4_150, tw_4_151, tw_1_10, tw_4_152⟩, by decide +kernel⟩
def pX8_answer (x1 : Int32) (σ : fw_T) : Option (Int32 × fw_T) :=
  if 0 ≤ x1 then
    fw_b2 (pX8_answerAt x1 σ) fun w3 τ2 =>
    some (w3, τ2)
  else
    fw_b2 (pX8_fail (-10002 : Int32) σ) fun w6 τ5 =>
    some (w6, τ5)
set_option maxRecDepth 100000 in
set_option maxHeartbeats 4000000 in
theorem kX8_answer {x1 : Int32} {r : Int32} {σ σ' : fw_T} (hf : pX8_answer x1 σ = some (r, σ')) : fw_Ci l yX8_answer (Cond.code yX8_answer cX8_answer 2 (some .int) :: lwT) rmX8_answer [.ref (adr 0), .int x1] D 7 adr (fw_M cI cB adr) (fmT cI cB) [] σ r σ' := by
  refine fw_start (Qc := (fun A => va_Qi (fun r' (_ : Unit) => r' = r) (fun _ t => va_P D vwCl (fw_ws 7 adr (fw_M cI cB adr σ')) t.heap) A)) (by decide) (by simp [lg_sl, Value.category]) rfl ?_
  intro p e s m below meth c A X hH ls hl
  have hx := X.1.1
  have hb := X.1.2.1
  have hl : lv_has ls 2 [(0, .ref (adr 0)), (1, .int x1)] := hl
  unfold pX8_answer at hf
  refine lv_iload_n hx hb dX8_answer_0 rfl (lv_at hl 1 rfl) ?_
  refine lv_if_ge (tgt := 14) hx hb dX8_answer_1 (by decide) (fun hc => ?_) (fun hc => ?_)
  · have hf := fw_pos hc hf
    refine lv_aload_n hx hb dX8_answer_14 rfl (lv_at hl 0 rfl) ?_
    refine lv_iload_n hx hb dX8_answer_15 rfl (lv_at hl 1 rfl) ?_
    obtain ⟨w3, τ2, g1, hf⟩ := fw_b2s hf
    refine fw_ci hH (fw_rV (As := [.int x1]) (rest := []) (id := 0) X hH (kX8_answerAt  g1 _) qX8_answerAt tw_4_153 ⟨Nat.le_of_ble_eq_true rfl, Nat.le_of_ble_eq_true rfl⟩ rfl rfl (by decide) rfl rfl rfl hl.1 rfl (Nat.le_of_ble_eq_true rfl) dX8_answer_16) (fun H locs hH => ?_)
    obtain ⟨rfl, rfl⟩ := fw_s2 hf
    exact fw_reti X hH dX8_answer_19
  · have hf := fw_neg hc hf
    refine lv_aload_n hx hb dX8_answer_4 rfl (lv_at hl 0 rfl) ?_
    refine lv_sipush (v := (-10002 : Int32)) hx hb dX8_answer_5 (by decide) ?_
    obtain ⟨w6, τ5, g4, hf⟩ := fw_b2s hf
    refine fw_ci hH (fw_rV (As := [.int (-10002 : Int32)]) (rest := []) (id := 0) X hH (kX8_fail  g4 _) qX8_fail tw_4_20 ⟨Nat.le_of_ble_eq_true rfl, Nat.le_of_ble_eq_true rfl⟩ rfl rfl (by decide) rfl rfl rfl hl.1 rfl (Nat.le_of_ble_eq_true rfl) dX8_answer_8) (fun H locs hH => ?_)
    refine lv_goto (tgt := 19) hx hb dX8_answer_11 (by decide) ?_
    obtain ⟨rfl, rfl⟩ := fw_s2 hf
    exact fw_reti X hH dX8_answer_19
abbrev rmX8_matchCount : Room := { frames := 5, cells := 0, slots := 0, locals := 124 }
theorem qX8_matchCount : fw_QV RX8 yX8_matchCount cX8_matchCount 3 (some .int) 2 := ⟨⟨tw_4_158, tw_4_159, tw_1_10, tw_4_160⟩, by decide +kernel⟩
def pX8_matchCount (x1 : Int32) (x2 : Int32) (σ : fw_T) : Option (Int32 × fw_T) :=
  fw_b2 (pX8_isDigitPair x1 x2 σ) fun w3 τ2 =>
  if w3 = 0 then
    fw_b2 (pX8_fail (-10002 : Int32) τ2) fun w6 τ5 =>
    some (w6, τ5)
  else
    fw_b2 (pX8_matches x1 x2 (0 : Int32) τ2) fun w9 τ8 =>
    some (w9, τ8)
set_option maxRecDepth 100000 in
set_option maxHeartbeats 4000000 in
theorem kX8_matchCount {x1 : Int32} {x2 : Int32} {r : Int32} {σ σ' : fw_T} (hf : pX8_matchCount x1 x2 σ = some (r, σ')) : fw_Ci l yX8_matchCount (Cond.code yX8_matchCount cX8_matchCount 3 (some .int) :: lwT) rmX8_matchCount [.ref (adr 0), .int x1, .int x2] D 7 adr (fw_M cI cB adr) (fmT cI cB) [] σ r σ' := by
  refine fw_start (Qc := (fun A => va_Qi (fun r' (_ : Unit) => r' = r) (fun _ t => va_P D vwCl (fw_ws 7 adr (fw_M cI cB adr σ')) t.heap) A)) (by decide) (by simp [lg_sl, Value.category]) rfl ?_
  intro p e s m below meth c A X hH ls hl
  have hx := X.1.1
  have hb := X.1.2.1
  have hl : lv_has ls 3 [(0, .ref (adr 0)), (1, .int x1), (2, .int x2)] := hl
  unfold pX8_matchCount at hf
  refine lv_iload_n hx hb dX8_matchCount_0 rfl (lv_at hl 1 rfl) ?_
  refine lv_iload_n hx hb dX8_matchCount_1 rfl (lv_at hl 2 rfl) ?_
  obtain ⟨w3, τ2, g1, hf⟩ := fw_b2s hf
  refine fw_ci hH (fw_rS (As := [.int x1, .int x2]) (rest := []) X hH (kX8_isDigitPair  g1 _) qX8_isDigitPair tw_4_14 ⟨Nat.le_of_ble_eq_true rfl, Nat.le_of_ble_eq_true rfl⟩ rfl rfl rfl hl.1 rfl (Nat.le_of_ble_eq_true rfl) dX8_matchCount_2) (fun H locs hH => ?_)
  refine lv_if_eq (tgt := 18) hx hb dX8_matchCount_5 (by decide) (fun hc => ?_) (fun hc => ?_)
  · have hf := fw_pos hc hf
    refine lv_aload_n hx hb dX8_matchCount_18 rfl (lv_at hl 0 rfl) ?_
    refine lv_sipush (v := (-10002 : Int32)) hx hb dX8_matchCount_19 (by decide) ?_
    obtain ⟨w6, τ5, g4, hf⟩ := fw_b2s hf
    refine fw_ci hH (fw_rV (As := [.int (-10002 : Int32)]) (rest := []) (id := 0) X hH (kX8_fail  g4 _) qX8_fail tw_4_20 ⟨Nat.le_of_ble_eq_true rfl, Nat.le_of_ble_eq_true rfl⟩ rfl rfl (by decide) rfl rfl rfl hl.1 rfl (Nat.le_of_ble_eq_true rfl) dX8_matchCount_22) (fun H locs hH => ?_)
    obtain ⟨rfl, rfl⟩ := fw_s2 hf
    exact fw_reti X hH dX8_matchCount_25
  · have hf := fw_neg hc hf
    refine lv_aload_n hx hb dX8_matchCount_8 rfl (lv_at hl 0 rfl) ?_
    refine lv_iload_n hx hb dX8_matchCount_9 rfl (lv_at hl 1 rfl) ?_
    refine lv_iload_n hx hb dX8_matchCount_10 rfl (lv_at hl 2 rfl) ?_
    refine lv_iconst (v := (0 : Int32)) hx hb dX8_matchCount_11 (by decide) ?_
    obtain ⟨w9, τ8, g7, hf⟩ := fw_b2s hf
    refine fw_ci hH (fw_rV (As := [.int x1, .int x2, .int (0 : Int32)]) (rest := []) (id := 0) X hH (kX8_matches  g7 _) qX8_matches tw_4_129 ⟨Nat.le_of_ble_eq_true rfl, Nat.le_of_ble_eq_true rfl⟩ rfl rfl (by decide) rfl rfl rfl hl.1 rfl (Nat.le_of_ble_eq_true rfl) dX8_matchCount_12) (fun H locs hH => ?_)
    refine lv_goto (tgt := 25) hx hb dX8_matchCount_15 (by decide) ?_
    obtain ⟨rfl, rfl⟩ := fw_s2 hf
    exact fw_reti X hH dX8_matchCount_25
abbrev rmX8_dropper : Room := { frames := 2, cells := 0, slots := 0, locals := 48 }
theorem qX8_dropper : fw_QV RX8 yX8_dropper cX8_dropper 6 (some .int) 3 := ⟨⟨tw_4_171, tv_X8_dropper, tw_1_10, tw_4_172⟩, by decide +kernel⟩
def pX8_dropper_29 (K3 : Int32 → Int32 → Int32 → Int32 → fw_T → Option (Int32 × fw_T)) : Nat → Int32 → Int32 → Int32 → Int32 → Int32 → fw_T → Option (Int32 × fw_T)
  | 0, _, _, _, _, _, _ => none
  | n + 1, x1, x2, x3, x4, x5, σ =>
    if (10 : Int32) ≤ x5 then
      if (fw_g σ 0 8) = 0 then
        some (((10 : Int32) + x4), σ)
      else
        K3 x1 x2 x3 (x4 + (1 : Int32)) σ
    else
      if (((fw_g σ 0 8) >>> (x5 &&& 31)) &&& (1 : Int32)) = (1 : Int32) then
        fw_b2 (pX8_accepts x4 x2 x5 x3 σ) fun w8 τ7 =>
        if w8 = 0 then
          pX8_dropper_29 K3 n x1 x2 x3 x4 (x5 + (1 : Int32)) (fw_u τ7 0 8 ((fw_g σ 0 8) &&& (((1 : Int32) <<< (x5 &&& 31)) ^^^ (-1 : Int32))))
        else
          pX8_dropper_29 K3 n x1 x2 x3 x4 (x5 + (1 : Int32)) (fw_u τ7 0 8 ((fw_g σ 0 8) &&& (-1 : Int32)))
      else
        pX8_dropper_29 K3 n x1 x2 x3 x4 (x5 + (1 : Int32)) (fw_u σ 0 8 ((fw_g σ 0 8) &&& (((1 : Int32) <<< (x5 &&& 31)) ^^^ (-1 : Int32))))
set_option maxRecDepth 100000 in
set_option maxHeartbeats 4000000 in
theorem wX8_dropper_29 {args : Array Value} {r : Int32} {σ' : fw_T} {K3 : Int32 → Int32 → Int32 → Int32 → fw_T → Option (Int32 × fw_T)} (X : fmX p m c cX8_dropper 6 s args RX8 meth (some .int) D cI cB) (hK3 : ∀ (x1 : Int32), ∀ (x2 : Int32), ∀ (x3 : Int32), ∀ (x4 : Int32), ∀ (σ : fw_T), K3 x1 x2 x3 x4 σ = some (r, σ') → ∀ (H : Heap) (locs : List Loc) (ls : Array Slot), fmH D cI cB adr A s H locs σ → lv_has ls 6 [(0, .ref (adr 0)), (1, .int x1), (2, .int x2), (3, .int x3), (4, .int x4)] → W p l e rmX8_dropper s m args below meth c H locs 0 0 (fw_Qi D 7 adr (fw_M cI cB adr) A below args s r σ') (F0 m 3 ls [])) : ∀ (n : Nat), ∀ (x1 : Int32), ∀ (x2 : Int32), ∀ (x3 : Int32), ∀ (x4 : Int32), ∀ (x5 : Int32), ∀ (σ : fw_T), pX8_dropper_29 K3 n x1 x2 x3 x4 x5 σ = some (r, σ') → ∀ (H : Heap) (locs : List Loc) (ls : Array Slot), fmH D cI cB adr A s H locs σ → lv_has ls 6 [(0, .ref (adr 0)), (1, .int x1), (2, .int x2), (3, .int x3), (4, .int x4), (5, .int x5)] → W p l e rmX8_dropper s m args below meth c H locs 0 0 (fw_Qi D 7 adr (fw_M cI cB adr) A below args s r σ') (F0 m 29 ls []) := by
  have hx := X.1.1
  have hb := X.1.2.1
  intro n
  induction n with
  | zero =>
    intro x1 x2 x3 x4 x5 σ hf
    exact absurd hf (by simp [pX8_dropper_29])
  | succ n ih =>
    intro x1 x2 x3 x4 x5 σ hf H locs ls hH hl
    rw [pX8_dropper_29] at hf
    refine lv_iload hx hb dX8_dropper_29 (lv_at hl 5 rfl) ?_
    refine lv_bipush (v := (10 : Int32)) hx hb dX8_dropper_31 (by decide) ?_
    refine lv_icmp_ge (tgt := 87) hx hb dX8_dropper_33 (by decide) (fun hc => ?_) (fun hc => ?_)
    · have hf := fw_pos hc hf
      refine lv_aload_n hx hb dX8_dropper_87 rfl (lv_at hl 0 rfl) ?_
      refine fw_get (id := 0) (k := 8) (v := .int (fw_g σ 0 8)) X hH (by decide) rfl rfl inX8 (by decide) rfl tw_3_210 dX8_dropper_88 ?_
      refine lv_if_ne (tgt := 100) hx hb dX8_dropper_91 (by decide) (fun hc => ?_) (fun hc => ?_)
      · have hf := fw_neg hc hf
        refine lv_iinc (v := (x4 + (1 : Int32))) (lv' := [(4, .int (x4 + (1 : Int32))), (0, .ref (adr 0)), (1, .int x1), (2, .int x2), (3, .int x3), (5, .int x5)]) hx hb dX8_dropper_100 hl (k := 4) rfl rfl (by decide) rfl (fun ls hl => ?_)
        refine lv_goto (tgt := 3) hx hb dX8_dropper_103 (by decide) ?_
        exact hK3 x1 x2 x3 (x4 + (1 : Int32)) σ hf _ _ _ hH (lv_sub hl [1, 2, 3, 4, 0] rfl)
      · have hf := fw_pos hc hf
        refine lv_bipush (v := (10 : Int32)) hx hb dX8_dropper_94 (by decide) ?_
        refine lv_iload hx hb dX8_dropper_96 (lv_at hl 4 rfl) ?_
        refine lv_iadd hx hb dX8_dropper_98 ?_
        obtain ⟨rfl, rfl⟩ := fw_s2 hf
        exact fw_reti X hH dX8_dropper_99
    · have hf := fw_neg hc hf
      refine lv_aload_n hx hb dX8_dropper_36 rfl (lv_at hl 0 rfl) ?_
      refine lv_dup hx hb dX8_dropper_37 rfl ?_
      refine fw_get (id := 0) (k := 8) (v := .int (fw_g σ 0 8)) X hH (by decide) rfl rfl inX8 (by decide) rfl tw_3_210 dX8_dropper_38 ?_
      refine lv_aload_n hx hb dX8_dropper_41 rfl (lv_at hl 0 rfl) ?_
      refine fw_get (id := 0) (k := 8) (v := .int (fw_g σ 0 8)) X hH (by decide) rfl rfl inX8 (by decide) rfl tw_3_210 dX8_dropper_42 ?_
      refine lv_iload hx hb dX8_dropper_45 (lv_at hl 5 rfl) ?_
      refine lv_ishr hx hb dX8_dropper_47 ?_
      refine lv_iconst (v := (1 : Int32)) hx hb dX8_dropper_48 (by decide) ?_
      refine lv_iand hx hb dX8_dropper_49 ?_
      refine lv_iconst (v := (1 : Int32)) hx hb dX8_dropper_50 (by decide) ?_
      refine lv_icmp_ne (tgt := 71) hx hb dX8_dropper_51 (by decide) (fun hc => ?_) (fun hc => ?_)
      · have hf := fw_neg hc hf
        refine lv_iconst (v := (1 : Int32)) hx hb dX8_dropper_71 (by decide) ?_
        refine lv_iload hx hb dX8_dropper_72 (lv_at hl 5 rfl) ?_
        refine lv_ishl hx hb dX8_dropper_74 ?_
        refine lv_iconst (v := (-1 : Int32)) hx hb dX8_dropper_75 (by decide) ?_
        refine lv_ixor hx hb dX8_dropper_76 ?_
        refine lv_iand hx hb dX8_dropper_77 ?_
        refine fw_put (id := 0) (k := 8) (v := .int ((fw_g σ 0 8) &&& (((1 : Int32) <<< (x5 &&& 31)) ^^^ (-1 : Int32)))) (ty := .int) (σ' := (fw_u σ 0 8 ((fw_g σ 0 8) &&& (((1 : Int32) <<< (x5 &&& 31)) ^^^ (-1 : Int32))))) X hH (by decide) rfl fpm_8 (fun j h => fm_ne h) rfl inX8 tyX8 tyX8_ok nmX8 (by decide) (Nat.le_of_ble_eq_true rfl) rfl (by decide +kernel) rfl rfl tw_3_210 dX8_dropper_78 (fun H locs hH => ?_)
        refine lv_iinc (v := (x5 + (1 : Int32))) (lv' := [(5, .int (x5 + (1 : Int32))), (0, .ref (adr 0)), (1, .int x1), (2, .int x2), (3, .int x3), (4, .int x4)]) hx hb dX8_dropper_81 hl (k := 5) rfl rfl (by decide) rfl (fun ls hl => ?_)
        refine lv_goto (tgt := 29) hx hb dX8_dropper_84 (by decide) ?_
        exact ih x1 x2 x3 x4 (x5 + (1 : Int32)) (fw_u σ 0 8 ((fw_g σ 0 8) &&& (((1 : Int32) <<< (x5 &&& 31)) ^^^ (-1 : Int32)))) hf _ _ _ hH (lv_sub hl [1, 2, 3, 4, 5, 0] rfl)
      · have hf := fw_pos hc hf
        refine lv_aload_n hx hb dX8_dropper_54 rfl (lv_at hl 0 rfl) ?_
        refine lv_iload hx hb dX8_dropper_55 (lv_at hl 4 rfl) ?_
        refine lv_iload_n hx hb dX8_dropper_57 rfl (lv_at hl 2 rfl) ?_
        refine lv_iload hx hb dX8_dropper_58 (lv_at hl 5 rfl) ?_
        refine lv_iload_n hx hb dX8_dropper_60 rfl (lv_at hl 3 rfl) ?_
        obtain ⟨w8, τ7, g6, hf⟩ := fw_b2s hf
        refine fw_ci hH (fw_rV (As := [.int x4, .int x2, .int x5, .int x3]) (rest := [.int (fw_g σ 0 8), .ref (adr 0)]) (id := 0) X hH (kX8_accepts  g6 _) qX8_accepts tw_4_107 ⟨Nat.le_of_ble_eq_true rfl, Nat.le_of_ble_eq_true rfl⟩ rfl rfl (by decide) rfl rfl rfl hl.1 rfl (Nat.le_of_ble_eq_true rfl) dX8_dropper_61) (fun H locs hH => ?_)
        refine lv_if_eq (tgt := 71) hx hb dX8_dropper_64 (by decide) (fun hc => ?_) (fun hc => ?_)
        · have hf := fw_pos hc hf
          refine lv_iconst (v := (1 : Int32)) hx hb dX8_dropper_71 (by decide) ?_
          refine lv_iload hx hb dX8_dropper_72 (lv_at hl 5 rfl) ?_
          refine lv_ishl hx hb dX8_dropper_74 ?_
          refine lv_iconst (v := (-1 : Int32)) hx hb dX8_dropper_75 (by decide) ?_
          refine lv_ixor hx hb dX8_dropper_76 ?_
          refine lv_iand hx hb dX8_dropper_77 ?_
          refine fw_put (id := 0) (k := 8) (v := .int ((fw_g σ 0 8) &&& (((1 : Int32) <<< (x5 &&& 31)) ^^^ (-1 : Int32)))) (ty := .int) (σ' := (fw_u τ7 0 8 ((fw_g σ 0 8) &&& (((1 : Int32) <<< (x5 &&& 31)) ^^^ (-1 : Int32))))) X hH (by decide) rfl fpm_8 (fun j h => fm_ne h) rfl inX8 tyX8 tyX8_ok nmX8 (by decide) (Nat.le_of_ble_eq_true rfl) rfl (by decide +kernel) rfl rfl tw_3_210 dX8_dropper_78 (fun H locs hH => ?_)
          refine lv_iinc (v := (x5 + (1 : Int32))) (lv' := [(5, .int (x5 + (1 : Int32))), (0, .ref (adr 0)), (1, .int x1), (2, .int x2), (3, .int x3), (4, .int x4)]) hx hb dX8_dropper_81 hl (k := 5) rfl rfl (by decide) rfl (fun ls hl => ?_)
          refine lv_goto (tgt := 29) hx hb dX8_dropper_84 (by decide) ?_
          exact ih x1 x2 x3 x4 (x5 + (1 : Int32)) (fw_u τ7 0 8 ((fw_g σ 0 8) &&& (((1 : Int32) <<< (x5 &&& 31)) ^^^ (-1 : Int32)))) hf _ _ _ hH (lv_sub hl [1, 2, 3, 4, 5, 0] rfl)
        · have hf := fw_neg hc hf
          refine lv_iconst (v := (-1 : Int32)) hx hb dX8_dropper_67 (by decide) ?_
          refine lv_goto (tgt := 77) hx hb dX8_dropper_68 (by decide) ?_
          refine lv_iand hx hb dX8_dropper_77 ?_
          refine fw_put (id := 0) (k := 8) (v := .int ((fw_g σ 0 8) &&& (-1 : Int32))) (ty := .int) (σ' := (fw_u τ7 0 8 ((fw_g σ 0 8) &&& (-1 : Int32)))) X hH (by decide) rfl fpm_8 (fun j h => fm_ne h) rfl inX8 tyX8 tyX8_ok nmX8 (by decide) (Nat.le_of_ble_eq_true rfl) rfl (by decide +kernel) rfl rfl tw_3_210 dX8_dropper_78 (fun H locs hH => ?_)
          refine lv_iinc (v := (x5 + (1 : Int32))) (lv' := [(5, .int (x5 + (1 : Int32))), (0, .ref (adr 0)), (1, .int x1), (2, .int x2), (3, .int x3), (4, .int x4)]) hx hb dX8_dropper_81 hl (k := 5) rfl rfl (by decide) rfl (fun ls hl => ?_)
          refine lv_goto (tgt := 29) hx hb dX8_dropper_84 (by decide) ?_
          exact ih x1 x2 x3 x4 (x5 + (1 : Int32)) (fw_u τ7 0 8 ((fw_g σ 0 8) &&& (-1 : Int32))) hf _ _ _ hH (lv_sub hl [1, 2, 3, 4, 5, 0] rfl)
def pX8_dropper_3 : Nat → Int32 → Int32 → Int32 → Int32 → fw_T → Option (Int32 × fw_T)
  | 0, _, _, _, _, _ => none
  | n + 1, x1, x2, x3, x4, σ =>
    (fw_rd σ 1 52 (22 : Int32)).bind fun w1 =>
    if w1 ≤ x4 then
      some ((-10001 : Int32), σ)
    else
      fw_b2 (pX8_of x4 (0 : Int32) σ) fun w5 τ4 =>
      if w5 = x1 then
        pX8_dropper_29 (fun a0 a1 a2 a3 σ => pX8_dropper_3 n a0 a1 a2 a3 σ) 400 x1 x2 x3 x4 (0 : Int32) τ4
      else
        pX8_dropper_3 n x1 x2 x3 (x4 + (1 : Int32)) τ4
set_option maxRecDepth 100000 in
set_option maxHeartbeats 4000000 in
theorem wX8_dropper_3 {args : Array Value} {r : Int32} {σ' : fw_T} (X : fmX p m c cX8_dropper 6 s args RX8 meth (some .int) D cI cB)  : ∀ (n : Nat), ∀ (x1 : Int32), ∀ (x2 : Int32), ∀ (x3 : Int32), ∀ (x4 : Int32), ∀ (σ : fw_T), pX8_dropper_3 n x1 x2 x3 x4 σ = some (r, σ') → ∀ (H : Heap) (locs : List Loc) (ls : Array Slot), fmH D cI cB adr A s H locs σ → lv_has ls 6 [(0, .ref (adr 0)), (1, .int x1), (2, .int x2), (3, .int x3), (4, .int x4)] → W p l e rmX8_dropper s m args below meth c H locs 0 0 (fw_Qi D 7 adr (fw_M cI cB adr) A below args s r σ') (F0 m 3 ls []) := by
  have hx := X.1.1
  have hb := X.1.2.1
  intro n
  induction n with
  | zero =>
    intro x1 x2 x3 x4 σ hf
    exact absurd hf (by simp [pX8_dropper_3])
  | succ n ih =>
    intro x1 x2 x3 x4 σ hf H locs ls hH hl
    rw [pX8_dropper_3] at hf
    refine lv_iload hx hb dX8_dropper_3 (lv_at hl 4 rfl) ?_
    refine lv_aload_n hx hb dX8_dropper_5 rfl (lv_at hl 0 rfl) ?_
    refine fw_get (id := 0) (k := 0) (v := .ref (adr 1)) X hH (by decide) rfl rfl inX8 (by decide) rfl tw_3_202 dX8_dropper_6 ?_
    refine lv_bipush (v := (22 : Int32)) hx hb dX8_dropper_9 (by decide) ?_
    obtain ⟨w1, g2, hf⟩ := fw_bd hf
    refine fw_iald (id := 1) (n := 52) X hH (by decide) rfl rfl g2 dX8_dropper_11 ?_
    refine lv_icmp_ge (tgt := 106) hx hb dX8_dropper_12 (by decide) (fun hc => ?_) (fun hc => ?_)
    · have hf := fw_pos hc hf
      refine lv_sipush (v := (-10001 : Int32)) hx hb dX8_dropper_106 (by decide) ?_
      obtain ⟨rfl, rfl⟩ := fw_s2 hf
      exact fw_reti X hH dX8_dropper_109
    · have hf := fw_neg hc hf
      refine lv_aload_n hx hb dX8_dropper_15 rfl (lv_at hl 0 rfl) ?_
      refine lv_iload hx hb dX8_dropper_16 (lv_at hl 4 rfl) ?_
      refine lv_iconst (v := (0 : Int32)) hx hb dX8_dropper_18 (by decide) ?_
      obtain ⟨w5, τ4, g3, hf⟩ := fw_b2s hf
      refine fw_ci hH (fw_rV (As := [.int x4, .int (0 : Int32)]) (rest := []) (id := 0) X hH (kX8_of  g3 _) qX8_of tw_4_87 ⟨Nat.le_of_ble_eq_true rfl, Nat.le_of_ble_eq_true rfl⟩ rfl rfl (by decide) rfl rfl rfl hl.1 rfl (Nat.le_of_ble_eq_true rfl) dX8_dropper_19) (fun H locs hH => ?_)
      refine lv_iload_n hx hb dX8_dropper_22 rfl (lv_at hl 1 rfl) ?_
      refine lv_icmp_ne (tgt := 100) hx hb dX8_dropper_23 (by decide) (fun hc => ?_) (fun hc => ?_)
      · have hf := fw_neg hc hf
        refine lv_iinc (v := (x4 + (1 : Int32))) (lv' := [(4, .int (x4 + (1 : Int32))), (0, .ref (adr 0)), (1, .int x1), (2, .int x2), (3, .int x3)]) hx hb dX8_dropper_100 hl (k := 4) rfl rfl (by decide) rfl (fun ls hl => ?_)
        refine lv_goto (tgt := 3) hx hb dX8_dropper_103 (by decide) ?_
        exact ih x1 x2 x3 (x4 + (1 : Int32)) τ4 hf _ _ _ hH (lv_sub hl [1, 2, 3, 4, 0] rfl)
      · have hf := fw_pos hc hf
        refine lv_iconst (v := (0 : Int32)) hx hb dX8_dropper_26 (by decide) ?_
        refine lv_istore (lv' := [(5, .int (0 : Int32)), (0, .ref (adr 0)), (1, .int x1), (2, .int x2), (3, .int x3), (4, .int x4)]) hx hb dX8_dropper_27 hl (by decide) rfl (fun ls hl => ?_)
        exact wX8_dropper_29 X ih 400 x1 x2 x3 x4 (0 : Int32) τ4 hf _ _ _ hH (lv_sub hl [1, 2, 3, 4, 5, 0] rfl)
def pX8_dropper (x1 : Int32) (x2 : Int32) (x3 : Int32) (σ : fw_T) : Option (Int32 × fw_T) :=
  pX8_dropper_3 400 x1 x2 x3 (0 : Int32) σ
set_option maxRecDepth 100000 in
set_option maxHeartbeats 4000000 in
theorem kX8_dropper {x1 : Int32} {x2 : Int32} {x3 : Int32} {r : Int32} {σ σ' : fw_T} (hf : pX8_dropper x1 x2 x3 σ = some (r, σ')) : fw_Ci l yX8_dropper (Cond.code yX8_dropper cX8_dropper 6 (some .int) :: lwT) rmX8_dropper [.ref (adr 0), .int x1, .int x2, .int x3] D 7 adr (fw_M cI cB adr) (fmT cI cB) [] σ r σ' := by
  refine fw_start (Qc := (fun A => va_Qi (fun r' (_ : Unit) => r' = r) (fun _ t => va_P D vwCl (fw_ws 7 adr (fw_M cI cB adr σ')) t.heap) A)) (by decide) (by simp [lg_sl, Value.category]) rfl ?_
  intro p e s m below meth c A X hH ls hl
  have hx := X.1.1
  have hb := X.1.2.1
  have hl : lv_has ls 6 [(0, .ref (adr 0)), (1, .int x1), (2, .int x2), (3, .int x3)] := hl
  unfold pX8_dropper at hf
  refine lv_iconst (v := (0 : Int32)) hx hb dX8_dropper_0 (by decide) ?_
  refine lv_istore (lv' := [(4, .int (0 : Int32)), (0, .ref (adr 0)), (1, .int x1), (2, .int x2), (3, .int x3)]) hx hb dX8_dropper_1 hl (by decide) rfl (fun ls hl => ?_)
  exact wX8_dropper_3 X 400 x1 x2 x3 (0 : Int32) σ hf _ _ _ hH (lv_sub hl [1, 2, 3, 4, 0] rfl)
end
