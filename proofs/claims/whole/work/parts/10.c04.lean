section
variable {p : Program} {l : Launch} {e : Env} {s : State} {m : MethodId} {below : List Frame} {meth : Method} {c : Code} {D : va_G} {cI cO cB : ClassId} {adr : Nat → Nat} {A : Nat → Prop}
abbrev rmX6_empty : Room := { frames := 0, cells := 0, slots := 0, locals := 0 }
theorem qX6_empty : fw_QV RX6 yX6_empty cX6_empty 2 (some .int) 0 := ⟨⟨tw_3_110, tw_3_111, tw_1_9, tw_3_112⟩, by decide +kernel⟩
def pX6_empty (σ : fw_T) : Option (Int32 × fw_T) :=
  some ((fw_g σ 7 1), (fw_u σ 7 1 (0 : Int32)))
set_option maxRecDepth 100000 in
set_option maxHeartbeats 4000000 in
theorem kX6_empty {r : Int32} {σ σ' : fw_T} (hf : pX6_empty σ = some (r, σ')) : fw_Ci l yX6_empty (Cond.code yX6_empty cX6_empty 2 (some .int) :: lwT) rmX6_empty [.ref (adr 7)] D 96 adr (fw_C cI cO adr) (fcT cI cO) nwC σ r σ' := by
  refine fw_start (Qc := (fun A => va_Qi (fun r' (_ : Unit) => r' = r) (fun _ t => va_P D vwCl (fw_ws 96 adr (fw_C cI cO adr σ')) t.heap) A)) (by decide) (by simp [lg_sl, Value.category]) rfl ?_
  intro p e s m below meth c A X hH ls hl
  have hx := X.1.1
  have hb := X.1.2.1
  have hl : lv_has ls 2 [(0, .ref (adr 7))] := hl
  unfold pX6_empty at hf
  refine lv_aload_n hx hb dX6_empty_0 rfl (lv_at hl 0 rfl) ?_
  refine fw_get (id := 7) (k := 1) (v := .int (fw_g σ 7 1)) X hH (by decide) (fc_7 (by decide)) rfl inX6 (by decide) rfl tw_1_150 dX6_empty_1 ?_
  refine lv_istore_n (lv' := [(1, .int (fw_g σ 7 1)), (0, .ref (adr 7))]) hx hb dX6_empty_4 rfl hl (by decide) rfl (fun ls hl => ?_)
  refine lv_aload_n hx hb dX6_empty_5 rfl (lv_at hl 1 rfl) ?_
  refine lv_iconst (v := (0 : Int32)) hx hb dX6_empty_6 (by decide) ?_
  refine fw_put (id := 7) (k := 1) (v := .int (0 : Int32)) (ty := .int) (σ' := (fw_u σ 7 1 (0 : Int32))) X hH (by decide) (fc_7 (by decide)) (fp_7_1 (by decide)) (fun j h => fc_ne h) rfl inX6 tyX6 tyX6_ok nmX6 (by decide) (Nat.le_of_ble_eq_true rfl) rfl (by decide +kernel) rfl rfl tw_1_150 dX6_empty_7 (fun H locs hH => ?_)
  refine lv_iload_n hx hb dX6_empty_10 rfl (lv_at hl 0 rfl) ?_
  obtain ⟨rfl, rfl⟩ := fw_s2 hf
  exact fw_reti X hH dX6_empty_11
abbrev rmX7_clearText : Room := { frames := 1, cells := 0, slots := 0, locals := 21 }
theorem qX7_clearText : fw_QV RX7 yX7_clearText cX7_clearText 1 (some .int) 0 := ⟨⟨tw_3_106, tw_3_107, tw_1_1, tw_3_108⟩, by decide +kernel⟩
def pX7_clearText (σ : fw_T) : Option (Int32 × fw_T) :=
  fw_b2 (pX6_empty σ) fun w3 τ2 =>
  some (w3, τ2)
set_option maxRecDepth 100000 in
set_option maxHeartbeats 4000000 in
theorem kX7_clearText {r : Int32} {σ σ' : fw_T} (hf : pX7_clearText σ = some (r, σ')) : fw_Ci l yX7_clearText (Cond.code yX7_clearText cX7_clearText 1 (some .int) :: lwT) rmX7_clearText [.ref (adr 0)] D 96 adr (fw_C cI cO adr) (fcT cI cO) nwC σ r σ' := by
  refine fw_start (Qc := (fun A => va_Qi (fun r' (_ : Unit) => r' = r) (fun _ t => va_P D vwCl (fw_ws 96 adr (fw_C cI cO adr σ')) t.heap) A)) (by decide) (by simp [lg_sl, Value.category]) rfl ?_
  intro p e s m below meth c A X hH ls hl
  have hx := X.1.1
  have hb := X.1.2.1
  have hl : lv_has ls 1 [(0, .ref (adr 0))] := hl
  unfold pX7_clearText at hf
  refine lv_aload_n hx hb dX7_clearText_0 rfl (lv_at hl 0 rfl) ?_
  refine fw_get (id := 0) (k := 4) (v := .ref (adr 7)) X hH (by decide) (fc_0 (by decide)) rfl inX7 (by decide) rfl tw_1_181 dX7_clearText_1 ?_
  obtain ⟨w3, τ2, g1, hf⟩ := fw_b2s hf
  refine fw_ci hH (fw_rV (As := []) (rest := []) (id := 7) X hH (kX6_empty  g1 _) qX6_empty tw_3_109 ⟨Nat.le_of_ble_eq_true rfl, Nat.le_of_ble_eq_true rfl⟩ rfl rfl (by decide) (fc_7 (by decide)) rfl rfl hl.1 rfl (Nat.le_of_ble_eq_true rfl) dX7_clearText_4) (fun H locs hH => ?_)
  obtain ⟨rfl, rfl⟩ := fw_s2 hf
  exact fw_reti X hH dX7_clearText_7
abbrev rmX6_byteAt : Room := { frames := 0, cells := 0, slots := 0, locals := 0 }
theorem qX6_byteAt : fw_QV RX6 yX6_byteAt cX6_byteAt 2 (some .int) 1 := ⟨⟨tw_3_126, tw_3_127, tw_1_9, tw_3_128⟩, by decide +kernel⟩
def pX6_byteAt (x1 : Int32) (σ : fw_T) : Option (Int32 × fw_T) :=
  if x1 < 0 then
    some ((-1 : Int32), σ)
  else
    if (fw_g σ 7 1) ≤ x1 then
      some ((-1 : Int32), σ)
    else
      (fw_rd σ 8 120 x1).bind fun w1 =>
      some (w1, σ)
set_option maxRecDepth 100000 in
set_option maxHeartbeats 4000000 in
theorem kX6_byteAt {x1 : Int32} {r : Int32} {σ σ' : fw_T} (hf : pX6_byteAt x1 σ = some (r, σ')) : fw_Ci l yX6_byteAt (Cond.code yX6_byteAt cX6_byteAt 2 (some .int) :: lwT) rmX6_byteAt [.ref (adr 7), .int x1] D 96 adr (fw_C cI cO adr) (fcT cI cO) nwC σ r σ' := by
  refine fw_start (Qc := (fun A => va_Qi (fun r' (_ : Unit) => r' = r) (fun _ t => va_P D vwCl (fw_ws 96 adr (fw_C cI cO adr σ')) t.heap) A)) (by decide) (by simp [lg_sl, Value.category]) rfl ?_
  intro p e s m below meth c A X hH ls hl
  have hx := X.1.1
  have hb := X.1.2.1
  have hl : lv_has ls 2 [(0, .ref (adr 7)), (1, .int x1)] := hl
  unfold pX6_byteAt at hf
  refine lv_iload_n hx hb dX6_byteAt_0 rfl (lv_at hl 1 rfl) ?_
  refine lv_if_lt (tgt := 21) hx hb dX6_byteAt_1 (by decide) (fun hc => ?_) (fun hc => ?_)
  · have hf := fw_pos hc hf
    refine lv_iconst (v := (-1 : Int32)) hx hb dX6_byteAt_21 (by decide) ?_
    obtain ⟨rfl, rfl⟩ := fw_s2 hf
    exact fw_reti X hH dX6_byteAt_22
  · have hf := fw_neg hc hf
    refine lv_iload_n hx hb dX6_byteAt_4 rfl (lv_at hl 1 rfl) ?_
    refine lv_aload_n hx hb dX6_byteAt_5 rfl (lv_at hl 0 rfl) ?_
    refine fw_get (id := 7) (k := 1) (v := .int (fw_g σ 7 1)) X hH (by decide) (fc_7 (by decide)) rfl inX6 (by decide) rfl tw_1_150 dX6_byteAt_6 ?_
    refine lv_icmp_ge (tgt := 21) hx hb dX6_byteAt_9 (by decide) (fun hc => ?_) (fun hc => ?_)
    · have hf := fw_pos hc hf
      refine lv_iconst (v := (-1 : Int32)) hx hb dX6_byteAt_21 (by decide) ?_
      obtain ⟨rfl, rfl⟩ := fw_s2 hf
      exact fw_reti X hH dX6_byteAt_22
    · have hf := fw_neg hc hf
      refine lv_aload_n hx hb dX6_byteAt_12 rfl (lv_at hl 0 rfl) ?_
      refine fw_get (id := 7) (k := 0) (v := .ref (adr 8)) X hH (by decide) (fc_7 (by decide)) rfl inX6 (by decide) rfl tw_1_149 dX6_byteAt_13 ?_
      refine lv_iload_n hx hb dX6_byteAt_16 rfl (lv_at hl 1 rfl) ?_
      obtain ⟨w1, g2, hf⟩ := fw_bd hf
      refine fw_iald (id := 8) (n := 120) X hH (by decide) (fc_8 (by decide)) rfl g2 dX6_byteAt_17 ?_
      refine lv_goto (tgt := 22) hx hb dX6_byteAt_18 (by decide) ?_
      obtain ⟨rfl, rfl⟩ := fw_s2 hf
      exact fw_reti X hH dX6_byteAt_22
abbrev rmX4_skipSpaces : Room := { frames := 1, cells := 0, slots := 0, locals := 21 }
theorem qX4_skipSpaces : fw_QV RX4 yX4_skipSpaces cX4_skipSpaces 1 none 0 := ⟨⟨tw_3_123, tv_X4_skipSpaces, tw_1_8, tw_3_124⟩, by decide +kernel⟩
def pX4_skipSpaces_0 : Nat → fw_T → Option (fw_T)
  | 0, _ => none
  | n + 1, σ =>
    if (fw_g σ 7 1) ≤ (fw_g σ 4 4) then
      some σ
    else
      fw_b2 (pX6_byteAt (fw_g σ 4 4) σ) fun w3 τ2 =>
      if w3 = (32 : Int32) then
        pX4_skipSpaces_0 n (fw_u τ2 4 4 ((fw_g τ2 4 4) + (1 : Int32)))
      else
        some τ2
set_option maxRecDepth 100000 in
set_option maxHeartbeats 4000000 in
theorem wX4_skipSpaces_0 {args : Array Value} {σ' : fw_T} (X : fcX p m c cX4_skipSpaces 1 s args RX4 meth none D cI cO)  : ∀ (n : Nat), ∀ (σ : fw_T), pX4_skipSpaces_0 n σ = some σ' → ∀ (H : Heap) (locs : List Loc) (ls : Array Slot), fcH D cI cO adr A s H locs σ → lv_has ls 1 [(0, .ref (adr 4))] → W p l e rmX4_skipSpaces s m args below meth c H locs 0 0 (fw_Qv D 96 adr (fw_C cI cO adr) A below args s σ') (F0 m 0 ls []) := by
  have hx := X.1.1
  have hb := X.1.2.1
  intro n
  induction n with
  | zero =>
    intro σ hf
    exact absurd hf (by simp [pX4_skipSpaces_0])
  | succ n ih =>
    intro σ hf H locs ls hH hl
    rw [pX4_skipSpaces_0] at hf
    refine lv_aload_n hx hb dX4_skipSpaces_0 rfl (lv_at hl 0 rfl) ?_
    refine fw_get (id := 4) (k := 4) (v := .int (fw_g σ 4 4)) X hH (by decide) (fc_4 (by decide)) rfl inX4 (by decide) rfl tw_1_164 dX4_skipSpaces_1 ?_
    refine lv_aload_n hx hb dX4_skipSpaces_4 rfl (lv_at hl 0 rfl) ?_
    refine fw_get (id := 4) (k := 0) (v := .ref (adr 7)) X hH (by decide) (fc_4 (by decide)) rfl inX4 (by decide) rfl tw_1_158 dX4_skipSpaces_5 ?_
    refine fw_getN (id := 7) (k := 1) (v := .int (fw_g σ 7 1)) X hH (by decide) (fc_7 (by decide)) rfl inX6 (by decide) rfl nw_1_151 dX4_skipSpaces_8 ?_
    refine lv_icmp_ge (tgt := 43) hx hb dX4_skipSpaces_11 (by decide) (fun hc => ?_) (fun hc => ?_)
    · have hf := fw_pos hc hf
      obtain rfl := Option.some.inj hf
      exact fw_retv X hH dX4_skipSpaces_43
    · have hf := fw_neg hc hf
      refine lv_aload_n hx hb dX4_skipSpaces_14 rfl (lv_at hl 0 rfl) ?_
      refine fw_get (id := 4) (k := 0) (v := .ref (adr 7)) X hH (by decide) (fc_4 (by decide)) rfl inX4 (by decide) rfl tw_1_158 dX4_skipSpaces_15 ?_
      refine lv_aload_n hx hb dX4_skipSpaces_18 rfl (lv_at hl 0 rfl) ?_
      refine fw_get (id := 4) (k := 4) (v := .int (fw_g σ 4 4)) X hH (by decide) (fc_4 (by decide)) rfl inX4 (by decide) rfl tw_1_164 dX4_skipSpaces_19 ?_
      obtain ⟨w3, τ2, g1, hf⟩ := fw_b2s hf
      refine fw_ci hH (fw_rV (As := [.int (fw_g σ 4 4)]) (rest := []) (id := 7) X hH (kX6_byteAt  g1 _) qX6_byteAt tw_3_125 ⟨Nat.le_of_ble_eq_true rfl, Nat.le_of_ble_eq_true rfl⟩ rfl rfl (by decide) (fc_7 (by decide)) rfl rfl hl.1 rfl (Nat.le_of_ble_eq_true rfl) dX4_skipSpaces_22) (fun H locs hH => ?_)
      refine lv_bipush (v := (32 : Int32)) hx hb dX4_skipSpaces_25 (by decide) ?_
      refine lv_icmp_ne (tgt := 43) hx hb dX4_skipSpaces_27 (by decide) (fun hc => ?_) (fun hc => ?_)
      · have hf := fw_neg hc hf
        obtain rfl := Option.some.inj hf
        exact fw_retv X hH dX4_skipSpaces_43
      · have hf := fw_pos hc hf
        refine lv_aload_n hx hb dX4_skipSpaces_30 rfl (lv_at hl 0 rfl) ?_
        refine lv_dup hx hb dX4_skipSpaces_31 rfl ?_
        refine fw_get (id := 4) (k := 4) (v := .int (fw_g τ2 4 4)) X hH (by decide) (fc_4 (by decide)) rfl inX4 (by decide) rfl tw_1_164 dX4_skipSpaces_32 ?_
        refine lv_iconst (v := (1 : Int32)) hx hb dX4_skipSpaces_35 (by decide) ?_
        refine lv_iadd hx hb dX4_skipSpaces_36 ?_
        refine fw_put (id := 4) (k := 4) (v := .int ((fw_g τ2 4 4) + (1 : Int32))) (ty := .int) (σ' := (fw_u τ2 4 4 ((fw_g τ2 4 4) + (1 : Int32)))) X hH (by decide) (fc_4 (by decide)) (fp_4_4 (by decide)) (fun j h => fc_ne h) rfl inX4 tyX4 tyX4_ok nmX4 (by decide) (Nat.le_of_ble_eq_true rfl) rfl (by decide +kernel) rfl rfl tw_1_164 dX4_skipSpaces_37 (fun H locs hH => ?_)
        refine lv_goto (tgt := 0) hx hb dX4_skipSpaces_40 (by decide) ?_
        exact ih (fw_u τ2 4 4 ((fw_g τ2 4 4) + (1 : Int32))) hf _ _ _ hH (lv_sub hl [0] rfl)
def pX4_skipSpaces (σ : fw_T) : Option (fw_T) :=
  pX4_skipSpaces_0 400 σ
set_option maxRecDepth 100000 in
set_option maxHeartbeats 4000000 in
theorem kX4_skipSpaces {σ σ' : fw_T} (hf : pX4_skipSpaces σ = some σ') : fw_Cv l yX4_skipSpaces (Cond.code yX4_skipSpaces cX4_skipSpaces 1 none :: lwT) rmX4_skipSpaces [.ref (adr 4)] D 96 adr (fw_C cI cO adr) (fcT cI cO) nwC σ σ' := by
  refine fw_start (Qc := (fun A => va_Qv (fun (_ : Unit) => True) (fun _ t => va_P D vwCl (fw_ws 96 adr (fw_C cI cO adr σ')) t.heap) A)) (by decide) (by simp [lg_sl, Value.category]) rfl ?_
  intro p e s m below meth c A X hH ls hl
  have hx := X.1.1
  have hb := X.1.2.1
  have hl : lv_has ls 1 [(0, .ref (adr 4))] := hl
  unfold pX4_skipSpaces at hf
  exact wX4_skipSpaces_0 X 400 σ hf _ _ _ hH (lv_sub hl [0] rfl)
abbrev rmX4_numbersBehind : Room := { frames := 0, cells := 0, slots := 0, locals := 0 }
theorem qX4_numbersBehind : fw_QS yX4_numbersBehind cX4_numbersBehind 1 (some .int) 1 := ⟨⟨tw_3_134, tw_1_8, tw_3_135⟩, by decide +kernel⟩
def pX4_numbersBehind (x0 : Int32) (σ : fw_T) : Option (Int32 × fw_T) :=
  if x0 = (101 : Int32) then
    some ((0 : Int32), σ)
  else
    if x0 = (102 : Int32) then
      some ((4 : Int32), σ)
    else
      if x0 = (103 : Int32) then
        some ((-10001 : Int32), σ)
      else
        if x0 = (104 : Int32) then
          some ((-10001 : Int32), σ)
        else
          if x0 = (105 : Int32) then
            some ((-10001 : Int32), σ)
          else
            if x0 = (106 : Int32) then
              some ((-10001 : Int32), σ)
            else
              if x0 = (107 : Int32) then
                some ((-10001 : Int32), σ)
              else
                if x0 = (108 : Int32) then
                  some ((2 : Int32), σ)
                else
                  if x0 = (109 : Int32) then
                    some ((-10001 : Int32), σ)
                  else
                    if x0 = (110 : Int32) then
                      some ((-10001 : Int32), σ)
                    else
                      if x0 = (111 : Int32) then
                        some ((-10001 : Int32), σ)
                      else
                        if x0 = (112 : Int32) then
                          some ((-10001 : Int32), σ)
                        else
                          if x0 = (113 : Int32) then
                            some ((-10001 : Int32), σ)
                          else
                            if x0 = (114 : Int32) then
                              some ((2 : Int32), σ)
                            else
                              if x0 = (115 : Int32) then
                                some ((-10001 : Int32), σ)
                              else
                                if x0 = (116 : Int32) then
                                  some ((-10001 : Int32), σ)
                                else
                                  if x0 = (117 : Int32) then
                                    some ((-10001 : Int32), σ)
                                  else
                                    if x0 = (118 : Int32) then
                                      some ((-10001 : Int32), σ)
                                    else
                                      if x0 = (119 : Int32) then
                                        some ((2 : Int32), σ)
                                      else
                                        if x0 = (120 : Int32) then
                                          some ((1 : Int32), σ)
                                        else
                                          some ((-10001 : Int32), σ)
set_option maxRecDepth 100000 in
set_option maxHeartbeats 4000000 in
theorem kX4_numbersBehind {x0 : Int32} {r : Int32} {σ σ' : fw_T} (hf : pX4_numbersBehind x0 σ = some (r, σ')) : fw_Ci l yX4_numbersBehind (Cond.code yX4_numbersBehind cX4_numbersBehind 1 (some .int) :: lwT) rmX4_numbersBehind [.int x0] D 96 adr (fw_C cI cO adr) (fcT cI cO) nwC σ r σ' := by
  refine fw_start (Qc := (fun A => va_Qi (fun r' (_ : Unit) => r' = r) (fun _ t => va_P D vwCl (fw_ws 96 adr (fw_C cI cO adr σ')) t.heap) A)) (by decide) (by simp [lg_sl, Value.category]) rfl ?_
  intro p e s m below meth c A X hH ls hl
  have hx := X.1.1
  have hb := X.1.2.1
  have hl : lv_has ls 1 [(0, .int x0)] := hl
  unfold pX4_numbersBehind at hf
  refine lv_iload_n hx hb dX4_numbersBehind_0 rfl (lv_at hl 0 rfl) ?_
  by_cases hc0 : x0 = (101 : Int32)
  · have hf := fw_pos hc0 hf
    refine lv_tableIn (off := 101) (tgt := 102) hx hb dX4_numbersBehind_1 (by rw [hc0]; decide) (by rw [hc0]; decide) (by rw [hc0]; decide) (by decide) ?_
    refine lv_iconst (v := (0 : Int32)) hx hb dX4_numbersBehind_102 (by decide) ?_
    obtain ⟨rfl, rfl⟩ := fw_s2 hf
    exact fw_reti X hH dX4_numbersBehind_103
  · have hf := fw_neg hc0 hf
    by_cases hc1 : x0 = (102 : Int32)
    · have hf := fw_pos hc1 hf
      refine lv_tableIn (off := 97) (tgt := 98) hx hb dX4_numbersBehind_1 (by rw [hc1]; decide) (by rw [hc1]; decide) (by rw [hc1]; decide) (by decide) ?_
      refine lv_iconst (v := (4 : Int32)) hx hb dX4_numbersBehind_98 (by decide) ?_
      obtain ⟨rfl, rfl⟩ := fw_s2 hf
      exact fw_reti X hH dX4_numbersBehind_99
    · have hf := fw_neg hc1 hf
      by_cases hc2 : x0 = (103 : Int32)
      · have hf := fw_pos hc2 hf
        refine lv_tableIn (off := 103) (tgt := 104) hx hb dX4_numbersBehind_1 (by rw [hc2]; decide) (by rw [hc2]; decide) (by rw [hc2]; decide) (by decide) ?_
        refine lv_sipush (v := (-10001 : Int32)) hx hb dX4_numbersBehind_104 (by decide) ?_
        obtain ⟨rfl, rfl⟩ := fw_s2 hf
        exact fw_reti X hH dX4_numbersBehind_107
      · have hf := fw_neg hc2 hf
        by_cases hc3 : x0 = (104 : Int32)
        · have hf := fw_pos hc3 hf
          refine lv_tableIn (off := 103) (tgt := 104) hx hb dX4_numbersBehind_1 (by rw [hc3]; decide) (by rw [hc3]; decide) (by rw [hc3]; decide) (by decide) ?_
          refine lv_sipush (v := (-10001 : Int32)) hx hb dX4_numbersBehind_104 (by decide) ?_
          obtain ⟨rfl, rfl⟩ := fw_s2 hf
          exact fw_reti X hH dX4_numbersBehind_107
        · have hf := fw_neg hc3 hf
          by_cases hc4 : x0 = (105 : Int32)
          · have hf := fw_pos hc4 hf
            refine lv_tableIn (off := 103) (tgt := 104) hx hb dX4_numbersBehind_1 (by rw [hc4]; decide) (by rw [hc4]; decide) (by rw [hc4]; decide) (by decide) ?_
            refine lv_sipush (v := (-10001 : Int32)) hx hb dX4_numbersBehind_104 (by decide) ?_
            obtain ⟨rfl, rfl⟩ := fw_s2 hf
            exact fw_reti X hH dX4_numbersBehind_107
          · have hf := fw_neg hc4 hf
            by_cases hc5 : x0 = (106 : Int32)
            · have hf := fw_pos hc5 hf
              refine lv_tableIn (off := 103) (tgt := 104) hx hb dX4_numbersBehind_1 (by rw [hc5]; decide) (by rw [hc5]; decide) (by rw [hc5]; decide) (by decide) ?_
              refine lv_sipush (v := (-10001 : Int32)) hx hb dX4_numbersBehind_104 (by decide) ?_
              obtain ⟨rfl, rfl⟩ := fw_s2 hf
              exact fw_reti X hH dX4_numbersBehind_107
            · have hf := fw_neg hc5 hf
              by_cases hc6 : x0 = (107 : Int32)
              · have hf := fw_pos hc6 hf
                refine lv_tableIn (off := 103) (tgt := 104) hx hb dX4_numbersBehind_1 (by rw [hc6]; decide) (by rw [hc6]; decide) (by rw [hc6]; decide) (by decide) ?_
                refine lv_sipush (v := (-10001 : Int32)) hx hb dX4_numbersBehind_104 (by decide) ?_
                obtain ⟨rfl, rfl⟩ := fw_s2 hf
                exact fw_reti X hH dX4_numbersBehind_107
              · have hf := fw_neg hc6 hf
                by_cases hc7 : x0 = (108 : Int32)
                · have hf := fw_pos hc7 hf
                  refine lv_tableIn (off := 95) (tgt := 96) hx hb dX4_numbersBehind_1 (by rw [hc7]; decide) (by rw [hc7]; decide) (by rw [hc7]; decide) (by decide) ?_
                  refine lv_iconst (v := (2 : Int32)) hx hb dX4_numbersBehind_96 (by decide) ?_
                  obtain ⟨rfl, rfl⟩ := fw_s2 hf
                  exact fw_reti X hH dX4_numbersBehind_97
                · have hf := fw_neg hc7 hf
                  by_cases hc8 : x0 = (109 : Int32)
                  · have hf := fw_pos hc8 hf
                    refine lv_tableIn (off := 103) (tgt := 104) hx hb dX4_numbersBehind_1 (by rw [hc8]; decide) (by rw [hc8]; decide) (by rw [hc8]; decide) (by decide) ?_
                    refine lv_sipush (v := (-10001 : Int32)) hx hb dX4_numbersBehind_104 (by decide) ?_
                    obtain ⟨rfl, rfl⟩ := fw_s2 hf
                    exact fw_reti X hH dX4_numbersBehind_107
                  · have hf := fw_neg hc8 hf
                    by_cases hc9 : x0 = (110 : Int32)
                    · have hf := fw_pos hc9 hf
                      refine lv_tableIn (off := 103) (tgt := 104) hx hb dX4_numbersBehind_1 (by rw [hc9]; decide) (by rw [hc9]; decide) (by rw [hc9]; decide) (by decide) ?_
                      refine lv_sipush (v := (-10001 : Int32)) hx hb dX4_numbersBehind_104 (by decide) ?_
                      obtain ⟨rfl, rfl⟩ := fw_s2 hf
                      exact fw_reti X hH dX4_numbersBehind_107
                    · have hf := fw_neg hc9 hf
                      by_cases hc10 : x0 = (111 : Int32)
                      · have hf := fw_pos hc10 hf
                        refine lv_tableIn (off := 103) (tgt := 104) hx hb dX4_numbersBehind_1 (by rw [hc10]; decide) (by rw [hc10]; decide) (by rw [hc10]; decide) (by decide) ?_
                        refine lv_sipush (v := (-10001 : Int32)) hx hb dX4_numbersBehind_104 (by decide) ?_
                        obtain ⟨rfl, rfl⟩ := fw_s2 hf
                        exact fw_reti X hH dX4_numbersBehind_107
                      · have hf := fw_neg hc10 hf
                        by_cases hc11 : x0 = (112 : Int32)
                        · have hf := fw_pos hc11 hf
                          refine lv_tableIn (off := 103) (tgt := 104) hx hb dX4_numbersBehind_1 (by rw [hc11]; decide) (by rw [hc11]; decide) (by rw [hc11]; decide) (by decide) ?_
                          refine lv_sipush (v := (-10001 : Int32)) hx hb dX4_numbersBehind_104 (by decide) ?_
                          obtain ⟨rfl, rfl⟩ := fw_s2 hf
                          exact fw_reti X hH dX4_numbersBehind_107
                        · have hf := fw_neg hc11 hf
                          by_cases hc12 : x0 = (113 : Int32)
                          · have hf := fw_pos hc12 hf
                            refine lv_tableIn (off := 103) (tgt := 104) hx hb dX4_numbersBehind_1 (by rw [hc12]; decide) (by rw [hc12]; decide) (by rw [hc12]; decide) (by decide) ?_
                            refine lv_sipush (v := (-10001 : Int32)) hx hb dX4_numbersBehind_104 (by decide) ?_
                            obtain ⟨rfl, rfl⟩ := fw_s2 hf
                            exact fw_reti X hH dX4_numbersBehind_107
                          · have hf := fw_neg hc12 hf
                            by_cases hc13 : x0 = (114 : Int32)
                            · have hf := fw_pos hc13 hf
                              refine lv_tableIn (off := 95) (tgt := 96) hx hb dX4_numbersBehind_1 (by rw [hc13]; decide) (by rw [hc13]; decide) (by rw [hc13]; decide) (by decide) ?_
                              refine lv_iconst (v := (2 : Int32)) hx hb dX4_numbersBehind_96 (by decide) ?_
                              obtain ⟨rfl, rfl⟩ := fw_s2 hf
                              exact fw_reti X hH dX4_numbersBehind_97
                            · have hf := fw_neg hc13 hf
                              by_cases hc14 : x0 = (115 : Int32)
                              · have hf := fw_pos hc14 hf
                                refine lv_tableIn (off := 103) (tgt := 104) hx hb dX4_numbersBehind_1 (by rw [hc14]; decide) (by rw [hc14]; decide) (by rw [hc14]; decide) (by decide) ?_
                                refine lv_sipush (v := (-10001 : Int32)) hx hb dX4_numbersBehind_104 (by decide) ?_
                                obtain ⟨rfl, rfl⟩ := fw_s2 hf
                                exact fw_reti X hH dX4_numbersBehind_107
                              · have hf := fw_neg hc14 hf
                                by_cases hc15 : x0 = (116 : Int32)
                                · have hf := fw_pos hc15 hf
                                  refine lv_tableIn (off := 103) (tgt := 104) hx hb dX4_numbersBehind_1 (by rw [hc15]; decide) (by rw [hc15]; decide) (by rw [hc15]; decide) (by decide) ?_
                                  refine lv_sipush (v := (-10001 : Int32)) hx hb dX4_numbersBehind_104 (by decide) ?_
                                  obtain ⟨rfl, rfl⟩ := fw_s2 hf
                                  exact fw_reti X hH dX4_numbersBehind_107
                                · have hf := fw_neg hc15 hf
                                  by_cases hc16 : x0 = (117 : Int32)
                                  · have hf := fw_pos hc16 hf
                                    refine lv_tableIn (off := 103) (tgt := 104) hx hb dX4_numbersBehind_1 (by rw [hc16]; decide) (by rw [hc16]; decide) (by rw [hc16]; decide) (by decide) ?_
                                    refine lv_sipush (v := (-10001 : Int32)) hx hb dX4_numbersBehind_104 (by decide) ?_
                                    obtain ⟨rfl, rfl⟩ := fw_s2 hf
                                    exact fw_reti X hH dX4_numbersBehind_107
                                  · have hf := fw_neg hc16 hf
                                    by_cases hc17 : x0 = (118 : Int32)
                                    · have hf := fw_pos hc17 hf
                                      refine lv_tableIn (off := 103) (tgt := 104) hx hb dX4_numbersBehind_1 (by rw [hc17]; decide) (by rw [hc17]; decide) (by rw [hc17]; decide) (by decide) ?_
                                      refine lv_sipush (v := (-10001 : Int32)) hx hb dX4_numbersBehind_104 (by decide) ?_
                                      obtain ⟨rfl, rfl⟩ := fw_s2 hf
                                      exact fw_reti X hH dX4_numbersBehind_107
                                    · have hf := fw_neg hc17 hf
                                      by_cases hc18 : x0 = (119 : Int32)
                                      · have hf := fw_pos hc18 hf
                                        refine lv_tableIn (off := 95) (tgt := 96) hx hb dX4_numbersBehind_1 (by rw [hc18]; decide) (by rw [hc18]; decide) (by rw [hc18]; decide) (by decide) ?_
                                        refine lv_iconst (v := (2 : Int32)) hx hb dX4_numbersBehind_96 (by decide) ?_
                                        obtain ⟨rfl, rfl⟩ := fw_s2 hf
                                        exact fw_reti X hH dX4_numbersBehind_97
                                      · have hf := fw_neg hc18 hf
                                        by_cases hc19 : x0 = (120 : Int32)
                                        · have hf := fw_pos hc19 hf
                                          refine lv_tableIn (off := 99) (tgt := 100) hx hb dX4_numbersBehind_1 (by rw [hc19]; decide) (by rw [hc19]; decide) (by rw [hc19]; decide) (by decide) ?_
                                          refine lv_iconst (v := (1 : Int32)) hx hb dX4_numbersBehind_100 (by decide) ?_
                                          obtain ⟨rfl, rfl⟩ := fw_s2 hf
                                          exact fw_reti X hH dX4_numbersBehind_101
                                        · have hf := fw_neg hc19 hf
                                          refine lv_tableOut (tgt := 104) hx hb dX4_numbersBehind_1 (by have e0 := lv_neT hc0 (a := 101) (by decide); have e1 := lv_neT hc1 (a := 102) (by decide); have e2 := lv_neT hc2 (a := 103) (by decide); have e3 := lv_neT hc3 (a := 104) (by decide); have e4 := lv_neT hc4 (a := 105) (by decide); have e5 := lv_neT hc5 (a := 106) (by decide); have e6 := lv_neT hc6 (a := 107) (by decide); have e7 := lv_neT hc7 (a := 108) (by decide); have e8 := lv_neT hc8 (a := 109) (by decide); have e9 := lv_neT hc9 (a := 110) (by decide); have e10 := lv_neT hc10 (a := 111) (by decide); have e11 := lv_neT hc11 (a := 112) (by decide); have e12 := lv_neT hc12 (a := 113) (by decide); have e13 := lv_neT hc13 (a := 114) (by decide); have e14 := lv_neT hc14 (a := 115) (by decide); have e15 := lv_neT hc15 (a := 116) (by decide); have e16 := lv_neT hc16 (a := 117) (by decide); have e17 := lv_neT hc17 (a := 118) (by decide); have e18 := lv_neT hc18 (a := 119) (by decide); have e19 := lv_neT hc19 (a := 120) (by decide); omega) (by decide) ?_
                                          refine lv_sipush (v := (-10001 : Int32)) hx hb dX4_numbersBehind_104 (by decide) ?_
                                          obtain ⟨rfl, rfl⟩ := fw_s2 hf
                                          exact fw_reti X hH dX4_numbersBehind_107
abbrev rmX4_isDigit : Room := { frames := 0, cells := 0, slots := 0, locals := 0 }
theorem qX4_isDigit : fw_QS yX4_isDigit cX4_isDigit 1 (some .boolean) 1 := ⟨⟨tw_3_141, tw_1_8, tw_3_142⟩, by decide +kernel⟩
def pX4_isDigit (x0 : Int32) (σ : fw_T) : Option (Int32 × fw_T) :=
  if x0 < (48 : Int32) then
    fw_rz (0 : Int32) σ
  else
    if (57 : Int32) < x0 then
      fw_rz (0 : Int32) σ
    else
      fw_rz (1 : Int32) σ
set_option maxRecDepth 100000 in
set_option maxHeartbeats 4000000 in
theorem kX4_isDigit {x0 : Int32} {r : Int32} {σ σ' : fw_T} (hf : pX4_isDigit x0 σ = some (r, σ')) : fw_Ci l yX4_isDigit (Cond.code yX4_isDigit cX4_isDigit 1 (some .boolean) :: lwT) rmX4_isDigit [.int x0] D 96 adr (fw_C cI cO adr) (fcT cI cO) nwC σ r σ' := by
  refine fw_start (Qc := (fun A => va_Qi (fun r' (_ : Unit) => r' = r) (fun _ t => va_P D vwCl (fw_ws 96 adr (fw_C cI cO adr σ')) t.heap) A)) (by decide) (by simp [lg_sl, Value.category]) rfl ?_
  intro p e s m below meth c A X hH ls hl
  have hx := X.1.1
  have hb := X.1.2.1
  have hl : lv_has ls 1 [(0, .int x0)] := hl
  unfold pX4_isDigit at hf
  refine lv_iload_n hx hb dX4_isDigit_0 rfl (lv_at hl 0 rfl) ?_
  refine lv_bipush (v := (48 : Int32)) hx hb dX4_isDigit_1 (by decide) ?_
  refine lv_icmp_lt (tgt := 16) hx hb dX4_isDigit_3 (by decide) (fun hc => ?_) (fun hc => ?_)
  · have hf := fw_pos hc hf
    refine lv_iconst (v := (0 : Int32)) hx hb dX4_isDigit_16 (by decide) ?_
    obtain ⟨rfl, rfl, hz⟩ := fw_rzs hf
    exact fw_retz X hH hz dX4_isDigit_17
  · have hf := fw_neg hc hf
    refine lv_iload_n hx hb dX4_isDigit_6 rfl (lv_at hl 0 rfl) ?_
    refine lv_bipush (v := (57 : Int32)) hx hb dX4_isDigit_7 (by decide) ?_
    refine lv_icmp_gt (tgt := 16) hx hb dX4_isDigit_9 (by decide) (fun hc => ?_) (fun hc => ?_)
    · have hf := fw_pos hc hf
      refine lv_iconst (v := (0 : Int32)) hx hb dX4_isDigit_16 (by decide) ?_
      obtain ⟨rfl, rfl, hz⟩ := fw_rzs hf
      exact fw_retz X hH hz dX4_isDigit_17
    · have hf := fw_neg hc hf
      refine lv_iconst (v := (1 : Int32)) hx hb dX4_isDigit_12 (by decide) ?_
      refine lv_goto (tgt := 17) hx hb dX4_isDigit_13 (by decide) ?_
      obtain ⟨rfl, rfl, hz⟩ := fw_rzs hf
      exact fw_retz X hH hz dX4_isDigit_17
abbrev rmX4_readNumber : Room := { frames := 1, cells := 0, slots := 0, locals := 21 }
theorem qX4_readNumber : fw_QV RX4 yX4_readNumber cX4_readNumber 5 (some .boolean) 2 := ⟨⟨tw_3_138, tv_X4_readNumber, tw_1_8, tw_3_139⟩, by decide +kernel⟩
def pX4_readNumber_165 (σ : fw_T) : Option (Int32 × fw_T) :=
  fw_b2 (pX6_byteAt (fw_g σ 4 4) σ) fun w18 τ17 =>
  fw_b2 (pX4_isDigit w18 τ17) fun w21 τ20 =>
  if w21 = 0 then
    fw_rz (1 : Int32) τ20
  else
    fw_rz (0 : Int32) τ20
set_option maxRecDepth 100000 in
set_option maxHeartbeats 4000000 in
theorem wX4_readNumber_165 {args : Array Value} {r : Int32} {σ' : fw_T} (X : fcX p m c cX4_readNumber 5 s args RX4 meth (some .boolean) D cI cO)  : ∀ (σ : fw_T), pX4_readNumber_165 σ = some (r, σ') → ∀ (H : Heap) (locs : List Loc) (ls : Array Slot), fcH D cI cO adr A s H locs σ → lv_has ls 5 [(0, .ref (adr 4))] → W p l e rmX4_readNumber s m args below meth c H locs 0 0 (fw_Qi D 96 adr (fw_C cI cO adr) A below args s r σ') (F0 m 165 ls []) := by
  have hx := X.1.1
  have hb := X.1.2.1
  intro σ hf H locs ls hH hl
  unfold pX4_readNumber_165 at hf
  refine lv_aload_n hx hb dX4_readNumber_165 rfl (lv_at hl 0 rfl) ?_
  refine fw_get (id := 4) (k := 0) (v := .ref (adr 7)) X hH (by decide) (fc_4 (by decide)) rfl inX4 (by decide) rfl tw_1_158 dX4_readNumber_166 ?_
  refine lv_aload_n hx hb dX4_readNumber_169 rfl (lv_at hl 0 rfl) ?_
  refine fw_get (id := 4) (k := 4) (v := .int (fw_g σ 4 4)) X hH (by decide) (fc_4 (by decide)) rfl inX4 (by decide) rfl tw_1_164 dX4_readNumber_170 ?_
  obtain ⟨w18, τ17, g16, hf⟩ := fw_b2s hf
  refine fw_ci hH (fw_rV (As := [.int (fw_g σ 4 4)]) (rest := []) (id := 7) X hH (kX6_byteAt  g16 _) qX6_byteAt tw_3_125 ⟨Nat.le_of_ble_eq_true rfl, Nat.le_of_ble_eq_true rfl⟩ rfl rfl (by decide) (fc_7 (by decide)) rfl rfl hl.1 rfl (Nat.le_of_ble_eq_true rfl) dX4_readNumber_173) (fun H locs hH => ?_)
  obtain ⟨w21, τ20, g19, hf⟩ := fw_b2s hf
  refine fw_ci hH (fw_rS (As := [.int w18]) (rest := []) X hH (kX4_isDigit  g19 _) qX4_isDigit tw_3_140 ⟨Nat.le_of_ble_eq_true rfl, Nat.le_of_ble_eq_true rfl⟩ rfl rfl rfl hl.1 rfl (Nat.le_of_ble_eq_true rfl) dX4_readNumber_176) (fun H locs hH => ?_)
  refine lv_if_ne (tgt := 186) hx hb dX4_readNumber_179 (by decide) (fun hc => ?_) (fun hc => ?_)
  · have hf := fw_neg hc hf
    refine lv_iconst (v := (0 : Int32)) hx hb dX4_readNumber_186 (by decide) ?_
    obtain ⟨rfl, rfl, hz⟩ := fw_rzs hf
    exact fw_retz X hH hz dX4_readNumber_187
  · have hf := fw_pos hc hf
    refine lv_iconst (v := (1 : Int32)) hx hb dX4_readNumber_182 (by decide) ?_
    refine lv_goto (tgt := 187) hx hb dX4_readNumber_183 (by decide) ?_
    obtain ⟨rfl, rfl, hz⟩ := fw_rzs hf
    exact fw_retz X hH hz dX4_readNumber_187
def pX4_readNumber_134 (x1 : Int32) (x3 : Int32) (x4 : Int32) (σ : fw_T) : Option (Int32 × fw_T) :=
  if x1 < 0 then
    pX4_readNumber_165 σ
  else
    if (240 : Int32) ≤ x1 then
      pX4_readNumber_165 σ
    else
      if x3 = 0 then
        (fw_wr σ 6 240 x1 x4).bind fun τ22 =>
        pX4_readNumber_165 τ22
      else
        (fw_wr σ 6 240 x1 (-x4)).bind fun τ24 =>
        pX4_readNumber_165 τ24
set_option maxRecDepth 100000 in
set_option maxHeartbeats 4000000 in
theorem wX4_readNumber_134 {args : Array Value} {r : Int32} {σ' : fw_T} (X : fcX p m c cX4_readNumber 5 s args RX4 meth (some .boolean) D cI cO)  : ∀ (x1 : Int32), ∀ (x3 : Int32), ∀ (x4 : Int32), ∀ (σ : fw_T), pX4_readNumber_134 x1 x3 x4 σ = some (r, σ') → ∀ (H : Heap) (locs : List Loc) (ls : Array Slot), fcH D cI cO adr A s H locs σ → lv_has ls 5 [(0, .ref (adr 4)), (1, .int x1), (3, .int x3), (4, .int x4)] → W p l e rmX4_readNumber s m args below meth c H locs 0 0 (fw_Qi D 96 adr (fw_C cI cO adr) A below args s r σ') (F0 m 134 ls []) := by
  have hx := X.1.1
  have hb := X.1.2.1
  intro x1 x3 x4 σ hf H locs ls hH hl
  unfold pX4_readNumber_134 at hf
  refine lv_iload_n hx hb dX4_readNumber_134 rfl (lv_at hl 1 rfl) ?_
  refine lv_if_lt (tgt := 165) hx hb dX4_readNumber_135 (by decide) (fun hc => ?_) (fun hc => ?_)
  · have hf := fw_pos hc hf
    exact wX4_readNumber_165 X σ hf _ _ _ hH (lv_sub hl [0] rfl)
  · have hf := fw_neg hc hf
    refine lv_iload_n hx hb dX4_readNumber_138 rfl (lv_at hl 1 rfl) ?_
    refine lv_aload_n hx hb dX4_readNumber_139 rfl (lv_at hl 0 rfl) ?_
    refine fw_get (id := 4) (k := 2) (v := .ref (adr 6)) X hH (by decide) (fc_4 (by decide)) rfl inX4 (by decide) rfl tw_1_161 dX4_readNumber_140 ?_
    refine fw_alen (id := 6) (n := 240) (v := (240 : Int32)) X hH (by decide) (fc_6 (by decide)) rfl (by decide) dX4_readNumber_143 ?_
    refine lv_icmp_ge (tgt := 165) hx hb dX4_readNumber_144 (by decide) (fun hc => ?_) (fun hc => ?_)
    · have hf := fw_pos hc hf
      exact wX4_readNumber_165 X σ hf _ _ _ hH (lv_sub hl [0] rfl)
    · have hf := fw_neg hc hf
      refine lv_aload_n hx hb dX4_readNumber_147 rfl (lv_at hl 0 rfl) ?_
      refine fw_get (id := 4) (k := 2) (v := .ref (adr 6)) X hH (by decide) (fc_4 (by decide)) rfl inX4 (by decide) rfl tw_1_161 dX4_readNumber_148 ?_
      refine lv_iload_n hx hb dX4_readNumber_151 rfl (lv_at hl 1 rfl) ?_
      refine lv_iload_n hx hb dX4_readNumber_152 rfl (lv_at hl 2 rfl) ?_
      refine lv_if_eq (tgt := 162) hx hb dX4_readNumber_153 (by decide) (fun hc => ?_) (fun hc => ?_)
      · have hf := fw_pos hc hf
        refine lv_iload hx hb dX4_readNumber_162 (lv_at hl 3 rfl) ?_
        obtain ⟨τ22, g23, hf⟩ := fw_bd hf
        refine fw_iast (id := 6) (n := 240) X hH (by decide) (fun σ => fc_6 (by decide)) (fun k x j h => fc_ne h) rfl g23 dX4_readNumber_164 (fun H locs hH => ?_)
        exact wX4_readNumber_165 X τ22 hf _ _ _ hH (lv_sub hl [0] rfl)
      · have hf := fw_neg hc hf
        refine lv_iload hx hb dX4_readNumber_156 (lv_at hl 3 rfl) ?_
        refine lv_ineg hx hb dX4_readNumber_158 ?_
        refine lv_goto (tgt := 164) hx hb dX4_readNumber_159 (by decide) ?_
        obtain ⟨τ24, g25, hf⟩ := fw_bd hf
        refine fw_iast (id := 6) (n := 240) X hH (by decide) (fun σ => fc_6 (by decide)) (fun k x j h => fc_ne h) rfl g25 dX4_readNumber_164 (fun H locs hH => ?_)
        exact wX4_readNumber_165 X τ24 hf _ _ _ hH (lv_sub hl [0] rfl)
def pX4_readNumber_40 (x1 : Int32) (x3 : Int32) (σ : fw_T) : Option (Int32 × fw_T) :=
  fw_b2 (pX6_byteAt (fw_g σ 4 4) σ) fun w3 τ2 =>
  fw_b2 (pX4_isDigit w3 τ2) fun w6 τ5 =>
  if w6 = 0 then
    fw_rz (0 : Int32) τ5
  else
    fw_b2 (pX6_byteAt (fw_g τ5 4 4) τ5) fun w9 τ8 =>
    fw_b2 (pX6_byteAt (fw_g (fw_u τ8 4 4 ((fw_g τ8 4 4) + (1 : Int32))) 4 4) (fw_u τ8 4 4 ((fw_g τ8 4 4) + (1 : Int32)))) fun w12 τ11 =>
    fw_b2 (pX4_isDigit w12 τ11) fun w15 τ14 =>
    if w15 = 0 then
      pX4_readNumber_134 x1 x3 (w9 - (48 : Int32)) τ14
    else
      fw_b2 (pX6_byteAt (fw_g τ14 4 4) τ14) fun w28 τ27 =>
      pX4_readNumber_134 x1 x3 ((((10 : Int32) * (w9 - (48 : Int32))) + w28) - (48 : Int32)) (fw_u τ27 4 4 ((fw_g τ27 4 4) + (1 : Int32)))
set_option maxRecDepth 100000 in
set_option maxHeartbeats 4000000 in
theorem wX4_readNumber_40 {args : Array Value} {r : Int32} {σ' : fw_T} (X : fcX p m c cX4_readNumber 5 s args RX4 meth (some .boolean) D cI cO)  : ∀ (x1 : Int32), ∀ (x3 : Int32), ∀ (σ : fw_T), pX4_readNumber_40 x1 x3 σ = some (r, σ') → ∀ (H : Heap) (locs : List Loc) (ls : Array Slot), fcH D cI cO adr A s H locs σ → lv_has ls 5 [(0, .ref (adr 4)), (1, .int x1), (3, .int x3)] → W p l e rmX4_readNumber s m args below meth c H locs 0 0 (fw_Qi D 96 adr (fw_C cI cO adr) A below args s r σ') (F0 m 40 ls []) := by
  have hx := X.1.1
  have hb := X.1.2.1
  intro x1 x3 σ hf H locs ls hH hl
  unfold pX4_readNumber_40 at hf
  refine lv_aload_n hx hb dX4_readNumber_40 rfl (lv_at hl 0 rfl) ?_
  refine fw_get (id := 4) (k := 0) (v := .ref (adr 7)) X hH (by decide) (fc_4 (by decide)) rfl inX4 (by decide) rfl tw_1_158 dX4_readNumber_41 ?_
  refine lv_aload_n hx hb dX4_readNumber_44 rfl (lv_at hl 0 rfl) ?_
  refine fw_get (id := 4) (k := 4) (v := .int (fw_g σ 4 4)) X hH (by decide) (fc_4 (by decide)) rfl inX4 (by decide) rfl tw_1_164 dX4_readNumber_45 ?_
  obtain ⟨w3, τ2, g1, hf⟩ := fw_b2s hf
  refine fw_ci hH (fw_rV (As := [.int (fw_g σ 4 4)]) (rest := []) (id := 7) X hH (kX6_byteAt  g1 _) qX6_byteAt tw_3_125 ⟨Nat.le_of_ble_eq_true rfl, Nat.le_of_ble_eq_true rfl⟩ rfl rfl (by decide) (fc_7 (by decide)) rfl rfl hl.1 rfl (Nat.le_of_ble_eq_true rfl) dX4_readNumber_48) (fun H locs hH => ?_)
  obtain ⟨w6, τ5, g4, hf⟩ := fw_b2s hf
  refine fw_ci hH (fw_rS (As := [.int w3]) (rest := []) X hH (kX4_isDigit  g4 _) qX4_isDigit tw_3_140 ⟨Nat.le_of_ble_eq_true rfl, Nat.le_of_ble_eq_true rfl⟩ rfl rfl rfl hl.1 rfl (Nat.le_of_ble_eq_true rfl) dX4_readNumber_51) (fun H locs hH => ?_)
  refine lv_if_ne (tgt := 59) hx hb dX4_readNumber_54 (by decide) (fun hc => ?_) (fun hc => ?_)
  · have hf := fw_neg hc hf
    refine lv_aload_n hx hb dX4_readNumber_59 rfl (lv_at hl 0 rfl) ?_
    refine fw_get (id := 4) (k := 0) (v := .ref (adr 7)) X hH (by decide) (fc_4 (by decide)) rfl inX4 (by decide) rfl tw_1_158 dX4_readNumber_60 ?_
    refine lv_aload_n hx hb dX4_readNumber_63 rfl (lv_at hl 0 rfl) ?_
    refine fw_get (id := 4) (k := 4) (v := .int (fw_g τ5 4 4)) X hH (by decide) (fc_4 (by decide)) rfl inX4 (by decide) rfl tw_1_164 dX4_readNumber_64 ?_
    obtain ⟨w9, τ8, g7, hf⟩ := fw_b2s hf
    refine fw_ci hH (fw_rV (As := [.int (fw_g τ5 4 4)]) (rest := []) (id := 7) X hH (kX6_byteAt  g7 _) qX6_byteAt tw_3_125 ⟨Nat.le_of_ble_eq_true rfl, Nat.le_of_ble_eq_true rfl⟩ rfl rfl (by decide) (fc_7 (by decide)) rfl rfl hl.1 rfl (Nat.le_of_ble_eq_true rfl) dX4_readNumber_67) (fun H locs hH => ?_)
    refine lv_bipush (v := (48 : Int32)) hx hb dX4_readNumber_70 (by decide) ?_
    refine lv_isub hx hb dX4_readNumber_72 ?_
    refine lv_istore (lv' := [(4, .int (w9 - (48 : Int32))), (0, .ref (adr 4)), (1, .int x1), (3, .int x3)]) hx hb dX4_readNumber_73 hl (by decide) rfl (fun ls hl => ?_)
    refine lv_aload_n hx hb dX4_readNumber_75 rfl (lv_at hl 1 rfl) ?_
    refine lv_dup hx hb dX4_readNumber_76 rfl ?_
    refine fw_get (id := 4) (k := 4) (v := .int (fw_g τ8 4 4)) X hH (by decide) (fc_4 (by decide)) rfl inX4 (by decide) rfl tw_1_164 dX4_readNumber_77 ?_
    refine lv_iconst (v := (1 : Int32)) hx hb dX4_readNumber_80 (by decide) ?_
    refine lv_iadd hx hb dX4_readNumber_81 ?_
    refine fw_put (id := 4) (k := 4) (v := .int ((fw_g τ8 4 4) + (1 : Int32))) (ty := .int) (σ' := (fw_u τ8 4 4 ((fw_g τ8 4 4) + (1 : Int32)))) X hH (by decide) (fc_4 (by decide)) (fp_4_4 (by decide)) (fun j h => fc_ne h) rfl inX4 tyX4 tyX4_ok nmX4 (by decide) (Nat.le_of_ble_eq_true rfl) rfl (by decide +kernel) rfl rfl tw_1_164 dX4_readNumber_82 (fun H locs hH => ?_)
    refine lv_aload_n hx hb dX4_readNumber_85 rfl (lv_at hl 1 rfl) ?_
    refine fw_get (id := 4) (k := 0) (v := .ref (adr 7)) X hH (by decide) (fc_4 (by decide)) rfl inX4 (by decide) rfl tw_1_158 dX4_readNumber_86 ?_
    refine lv_aload_n hx hb dX4_readNumber_89 rfl (lv_at hl 1 rfl) ?_
    refine fw_get (id := 4) (k := 4) (v := .int (fw_g (fw_u τ8 4 4 ((fw_g τ8 4 4) + (1 : Int32))) 4 4)) X hH (by decide) (fc_4 (by decide)) rfl inX4 (by decide) rfl tw_1_164 dX4_readNumber_90 ?_
    obtain ⟨w12, τ11, g10, hf⟩ := fw_b2s hf
    refine fw_ci hH (fw_rV (As := [.int (fw_g (fw_u τ8 4 4 ((fw_g τ8 4 4) + (1 : Int32))) 4 4)]) (rest := []) (id := 7) X hH (kX6_byteAt  g10 _) qX6_byteAt tw_3_125 ⟨Nat.le_of_ble_eq_true rfl, Nat.le_of_ble_eq_true rfl⟩ rfl rfl (by decide) (fc_7 (by decide)) rfl rfl hl.1 rfl (Nat.le_of_ble_eq_true rfl) dX4_readNumber_93) (fun H locs hH => ?_)
    obtain ⟨w15, τ14, g13, hf⟩ := fw_b2s hf
    refine fw_ci hH (fw_rS (As := [.int w12]) (rest := []) X hH (kX4_isDigit  g13 _) qX4_isDigit tw_3_140 ⟨Nat.le_of_ble_eq_true rfl, Nat.le_of_ble_eq_true rfl⟩ rfl rfl rfl hl.1 rfl (Nat.le_of_ble_eq_true rfl) dX4_readNumber_96) (fun H locs hH => ?_)
    refine lv_if_eq (tgt := 134) hx hb dX4_readNumber_99 (by decide) (fun hc => ?_) (fun hc => ?_)
    · have hf := fw_pos hc hf
      exact wX4_readNumber_134 X x1 x3 (w9 - (48 : Int32)) τ14 hf _ _ _ hH (lv_sub hl [1, 2, 3, 0] rfl)
    · have hf := fw_neg hc hf
      refine lv_bipush (v := (10 : Int32)) hx hb dX4_readNumber_102 (by decide) ?_
      refine lv_iload hx hb dX4_readNumber_104 (lv_at hl 0 rfl) ?_
      refine lv_imul hx hb dX4_readNumber_106 ?_
      refine lv_aload_n hx hb dX4_readNumber_107 rfl (lv_at hl 1 rfl) ?_
      refine fw_get (id := 4) (k := 0) (v := .ref (adr 7)) X hH (by decide) (fc_4 (by decide)) rfl inX4 (by decide) rfl tw_1_158 dX4_readNumber_108 ?_
      refine lv_aload_n hx hb dX4_readNumber_111 rfl (lv_at hl 1 rfl) ?_
      refine fw_get (id := 4) (k := 4) (v := .int (fw_g τ14 4 4)) X hH (by decide) (fc_4 (by decide)) rfl inX4 (by decide) rfl tw_1_164 dX4_readNumber_112 ?_
      obtain ⟨w28, τ27, g26, hf⟩ := fw_b2s hf
      refine fw_ci hH (fw_rV (As := [.int (fw_g τ14 4 4)]) (rest := [.int ((10 : Int32) * (w9 - (48 : Int32)))]) (id := 7) X hH (kX6_byteAt  g26 _) qX6_byteAt tw_3_125 ⟨Nat.le_of_ble_eq_true rfl, Nat.le_of_ble_eq_true rfl⟩ rfl rfl (by decide) (fc_7 (by decide)) rfl rfl hl.1 rfl (Nat.le_of_ble_eq_true rfl) dX4_readNumber_115) (fun H locs hH => ?_)
      refine lv_iadd hx hb dX4_readNumber_118 ?_
      refine lv_bipush (v := (48 : Int32)) hx hb dX4_readNumber_119 (by decide) ?_
      refine lv_isub hx hb dX4_readNumber_121 ?_
      refine lv_istore (lv' := [(4, .int ((((10 : Int32) * (w9 - (48 : Int32))) + w28) - (48 : Int32))), (0, .ref (adr 4)), (1, .int x1), (3, .int x3)]) hx hb dX4_readNumber_122 hl (by decide) rfl (fun ls hl => ?_)
      refine lv_aload_n hx hb dX4_readNumber_124 rfl (lv_at hl 1 rfl) ?_
      refine lv_dup hx hb dX4_readNumber_125 rfl ?_
      refine fw_get (id := 4) (k := 4) (v := .int (fw_g τ27 4 4)) X hH (by decide) (fc_4 (by decide)) rfl inX4 (by decide) rfl tw_1_164 dX4_readNumber_126 ?_
      refine lv_iconst (v := (1 : Int32)) hx hb dX4_readNumber_129 (by decide) ?_
      refine lv_iadd hx hb dX4_readNumber_130 ?_
      refine fw_put (id := 4) (k := 4) (v := .int ((fw_g τ27 4 4) + (1 : Int32))) (ty := .int) (σ' := (fw_u τ27 4 4 ((fw_g τ27 4 4) + (1 : Int32)))) X hH (by decide) (fc_4 (by decide)) (fp_4_4 (by decide)) (fun j h => fc_ne h) rfl inX4 tyX4 tyX4_ok nmX4 (by decide) (Nat.le_of_ble_eq_true rfl) rfl (by decide +kernel) rfl rfl tw_1_164 dX4_readNumber_131 (fun H locs hH => ?_)
      exact wX4_readNumber_134 X x1 x3 ((((10 : Int32) * (w9 - (48 : Int32))) + w28) - (48 : Int32)) (fw_u τ27 4 4 ((fw_g τ27 4 4) + (1 : Int32))) hf _ _ _ hH (lv_sub hl [1, 2, 3, 0] rfl)
  · have hf := fw_pos hc hf
    refine lv_iconst (v := (0 : Int32)) hx hb dX4_readNumber_57 (by decide) ?_
    obtain ⟨rfl, rfl, hz⟩ := fw_rzs hf
    exact fw_retz X hH hz dX4_readNumber_58
def pX4_readNumber_24 (x1 : Int32) (σ : fw_T) : Option (Int32 × fw_T) :=
  if (0 : Int32) = 0 then
    pX4_readNumber_40 x1 (0 : Int32) σ
  else
    pX4_readNumber_40 x1 (0 : Int32) (fw_u σ 4 4 ((fw_g σ 4 4) + (1 : Int32)))
set_option maxRecDepth 100000 in
set_option maxHeartbeats 4000000 in
theorem wX4_readNumber_24 {args : Array Value} {r : Int32} {σ' : fw_T} (X : fcX p m c cX4_readNumber 5 s args RX4 meth (some .boolean) D cI cO)  : ∀ (x1 : Int32), ∀ (σ : fw_T), pX4_readNumber_24 x1 σ = some (r, σ') → ∀ (H : Heap) (locs : List Loc) (ls : Array Slot), fcH D cI cO adr A s H locs σ → lv_has ls 5 [(0, .ref (adr 4)), (1, .int x1)] → W p l e rmX4_readNumber s m args below meth c H locs 0 0 (fw_Qi D 96 adr (fw_C cI cO adr) A below args s r σ') (F0 m 24 ls []) := by
  have hx := X.1.1
  have hb := X.1.2.1
  intro x1 σ hf H locs ls hH hl
  unfold pX4_readNumber_24 at hf
  refine lv_iconst (v := (0 : Int32)) hx hb dX4_readNumber_24 (by decide) ?_
  refine lv_istore_n (lv' := [(3, .int (0 : Int32)), (0, .ref (adr 4)), (1, .int x1)]) hx hb dX4_readNumber_25 rfl hl (by decide) rfl (fun ls hl => ?_)
  refine lv_iload_n hx hb dX4_readNumber_26 rfl (lv_at hl 0 rfl) ?_
  refine lv_if_eq (tgt := 40) hx hb dX4_readNumber_27 (by decide) (fun hc => ?_) (fun hc => ?_)
  · have hf := fw_pos hc hf
    exact wX4_readNumber_40 X x1 (0 : Int32) σ hf _ _ _ hH (lv_sub hl [1, 2, 0] rfl)
  · have hf := fw_neg hc hf
    refine lv_aload_n hx hb dX4_readNumber_30 rfl (lv_at hl 1 rfl) ?_
    refine lv_dup hx hb dX4_readNumber_31 rfl ?_
    refine fw_get (id := 4) (k := 4) (v := .int (fw_g σ 4 4)) X hH (by decide) (fc_4 (by decide)) rfl inX4 (by decide) rfl tw_1_164 dX4_readNumber_32 ?_
    refine lv_iconst (v := (1 : Int32)) hx hb dX4_readNumber_35 (by decide) ?_
    refine lv_iadd hx hb dX4_readNumber_36 ?_
    refine fw_put (id := 4) (k := 4) (v := .int ((fw_g σ 4 4) + (1 : Int32))) (ty := .int) (σ' := (fw_u σ 4 4 ((fw_g σ 4 4) + (1 : Int32)))) X hH (by decide) (fc_4 (by decide)) (fp_4_4 (by decide)) (fun j h => fc_ne h) rfl inX4 tyX4 tyX4_ok nmX4 (by decide) (Nat.le_of_ble_eq_true rfl) rfl (by decide +kernel) rfl rfl tw_1_164 dX4_readNumber_37 (fun H locs hH => ?_)
    exact wX4_readNumber_40 X x1 (0 : Int32) (fw_u σ 4 4 ((fw_g σ 4 4) + (1 : Int32))) hf _ _ _ hH (lv_sub hl [1, 2, 0] rfl)
def pX4_readNumber (x1 : Int32) (x2 : Int32) (σ : fw_T) : Option (Int32 × fw_T) :=
  if x2 = 0 then
    pX4_readNumber_24 x1 σ
  else
    fw_b2 (pX6_byteAt (fw_g σ 4 4) σ) fun w31 τ30 =>
    if w31 = (45 : Int32) then
      if (1 : Int32) = 0 then
        pX4_readNumber_40 x1 (1 : Int32) τ30
      else
        pX4_readNumber_40 x1 (1 : Int32) (fw_u τ30 4 4 ((fw_g τ30 4 4) + (1 : Int32)))
    else
      pX4_readNumber_24 x1 τ30
set_option maxRecDepth 100000 in
set_option maxHeartbeats 4000000 in
theorem kX4_readNumber {x1 : Int32} {x2 : Int32} {r : Int32} {σ σ' : fw_T} (hf : pX4_readNumber x1 x2 σ = some (r, σ')) : fw_Ci l yX4_readNumber (Cond.code yX4_readNumber cX4_readNumber 5 (some .boolean) :: lwT) rmX4_readNumber [.ref (adr 4), .int x1, .int x2] D 96 adr (fw_C cI cO adr) (fcT cI cO) nwC σ r σ' := by
  refine fw_start (Qc := (fun A => va_Qi (fun r' (_ : Unit) => r' = r) (fun _ t => va_P D vwCl (fw_ws 96 adr (fw_C cI cO adr σ')) t.heap) A)) (by decide) (by simp [lg_sl, Value.category]) rfl ?_
  intro p e s m below meth c A X hH ls hl
  have hx := X.1.1
  have hb := X.1.2.1
  have hl : lv_has ls 5 [(0, .ref (adr 4)), (1, .int x1), (2, .int x2)] := hl
  unfold pX4_readNumber at hf
  refine lv_iload_n hx hb dX4_readNumber_0 rfl (lv_at hl 2 rfl) ?_
  refine lv_if_eq (tgt := 24) hx hb dX4_readNumber_1 (by decide) (fun hc => ?_) (fun hc => ?_)
  · have hf := fw_pos hc hf
    exact wX4_readNumber_24 X x1 σ hf _ _ _ hH (lv_sub hl [0, 1] rfl)
  · have hf := fw_neg hc hf
    refine lv_aload_n hx hb dX4_readNumber_4 rfl (lv_at hl 0 rfl) ?_
    refine fw_get (id := 4) (k := 0) (v := .ref (adr 7)) X hH (by decide) (fc_4 (by decide)) rfl inX4 (by decide) rfl tw_1_158 dX4_readNumber_5 ?_
    refine lv_aload_n hx hb dX4_readNumber_8 rfl (lv_at hl 0 rfl) ?_
    refine fw_get (id := 4) (k := 4) (v := .int (fw_g σ 4 4)) X hH (by decide) (fc_4 (by decide)) rfl inX4 (by decide) rfl tw_1_164 dX4_readNumber_9 ?_
    obtain ⟨w31, τ30, g29, hf⟩ := fw_b2s hf
    refine fw_ci hH (fw_rV (As := [.int (fw_g σ 4 4)]) (rest := []) (id := 7) X hH (kX6_byteAt  g29 _) qX6_byteAt tw_3_125 ⟨Nat.le_of_ble_eq_true rfl, Nat.le_of_ble_eq_true rfl⟩ rfl rfl (by decide) (fc_7 (by decide)) rfl rfl hl.1 rfl (Nat.le_of_ble_eq_true rfl) dX4_readNumber_12) (fun H locs hH => ?_)
    refine lv_bipush (v := (45 : Int32)) hx hb dX4_readNumber_15 (by decide) ?_
    refine lv_icmp_ne (tgt := 24) hx hb dX4_readNumber_17 (by decide) (fun hc => ?_) (fun hc => ?_)
    · have hf := fw_neg hc hf
      exact wX4_readNumber_24 X x1 τ30 hf _ _ _ hH (lv_sub hl [0, 1] rfl)
    · have hf := fw_pos hc hf
      refine lv_iconst (v := (1 : Int32)) hx hb dX4_readNumber_20 (by decide) ?_
      refine lv_goto (tgt := 25) hx hb dX4_readNumber_21 (by decide) ?_
      refine lv_istore_n (lv' := [(3, .int (1 : Int32)), (0, .ref (adr 4)), (1, .int x1), (2, .int x2)]) hx hb dX4_readNumber_25 rfl hl (by decide) rfl (fun ls hl => ?_)
      refine lv_iload_n hx hb dX4_readNumber_26 rfl (lv_at hl 0 rfl) ?_
      refine lv_if_eq (tgt := 40) hx hb dX4_readNumber_27 (by decide) (fun hc => ?_) (fun hc => ?_)
      · have hf := fw_pos hc hf
        exact wX4_readNumber_40 X x1 (1 : Int32) τ30 hf _ _ _ hH (lv_sub hl [1, 2, 0] rfl)
      · have hf := fw_neg hc hf
        refine lv_aload_n hx hb dX4_readNumber_30 rfl (lv_at hl 1 rfl) ?_
        refine lv_dup hx hb dX4_readNumber_31 rfl ?_
        refine fw_get (id := 4) (k := 4) (v := .int (fw_g τ30 4 4)) X hH (by decide) (fc_4 (by decide)) rfl inX4 (by decide) rfl tw_1_164 dX4_readNumber_32 ?_
        refine lv_iconst (v := (1 : Int32)) hx hb dX4_readNumber_35 (by decide) ?_
        refine lv_iadd hx hb dX4_readNumber_36 ?_
        refine fw_put (id := 4) (k := 4) (v := .int ((fw_g τ30 4 4) + (1 : Int32))) (ty := .int) (σ' := (fw_u τ30 4 4 ((fw_g τ30 4 4) + (1 : Int32)))) X hH (by decide) (fc_4 (by decide)) (fp_4_4 (by decide)) (fun j h => fc_ne h) rfl inX4 tyX4 tyX4_ok nmX4 (by decide) (Nat.le_of_ble_eq_true rfl) rfl (by decide +kernel) rfl rfl tw_1_164 dX4_readNumber_37 (fun H locs hH => ?_)
        exact wX4_readNumber_40 X x1 (1 : Int32) (fw_u τ30 4 4 ((fw_g τ30 4 4) + (1 : Int32))) hf _ _ _ hH (lv_sub hl [1, 2, 0] rfl)
abbrev rmX4_readCommand : Room := { frames := 2, cells := 0, slots := 0, locals := 45 }
theorem qX4_readCommand : fw_QV RX4 yX4_readCommand cX4_readCommand 5 (some .boolean) 0 := ⟨⟨tw_3_131, tv_X4_readCommand, tw_1_8, tw_3_132⟩, by decide +kernel⟩
def pX4_readCommand_82 (K57 : Int32 → Int32 → Int32 → fw_T → Option (Int32 × fw_T)) (x1 : Int32) (x2 : Int32) (x3 : Int32) (y0 : Int32) (σ : fw_T) : Option (Int32 × fw_T) :=
  fw_b2 (pX4_readNumber (((4 : Int32) * (fw_g σ 4 3)) + x3) y0 σ) fun w18 τ17 =>
  if w18 = 0 then
    fw_rz (0 : Int32) τ17
  else
    K57 x1 x2 (x3 + (1 : Int32)) τ17
set_option maxRecDepth 100000 in
set_option maxHeartbeats 4000000 in
theorem wX4_readCommand_82 {args : Array Value} {r : Int32} {σ' : fw_T} {K57 : Int32 → Int32 → Int32 → fw_T → Option (Int32 × fw_T)} (X : fcX p m c cX4_readCommand 5 s args RX4 meth (some .boolean) D cI cO) (hK57 : ∀ (x1 : Int32), ∀ (x2 : Int32), ∀ (x3 : Int32), ∀ (σ : fw_T), K57 x1 x2 x3 σ = some (r, σ') → ∀ (H : Heap) (locs : List Loc) (ls : Array Slot), fcH D cI cO adr A s H locs σ → lv_has ls 5 [(0, .ref (adr 4)), (1, .int x1), (2, .int x2), (3, .int x3)] → W p l e rmX4_readCommand s m args below meth c H locs 0 0 (fw_Qi D 96 adr (fw_C cI cO adr) A below args s r σ') (F0 m 57 ls [])) : ∀ (x1 : Int32), ∀ (x2 : Int32), ∀ (x3 : Int32), ∀ (y0 : Int32), ∀ (σ : fw_T), pX4_readCommand_82 K57 x1 x2 x3 y0 σ = some (r, σ') → ∀ (H : Heap) (locs : List Loc) (ls : Array Slot), fcH D cI cO adr A s H locs σ → lv_has ls 5 [(0, .ref (adr 4)), (1, .int x1), (2, .int x2), (3, .int x3)] → W p l e rmX4_readCommand s m args below meth c H locs 0 0 (fw_Qi D 96 adr (fw_C cI cO adr) A below args s r σ') (F0 m 82 ls [.int y0]) := by
  have hx := X.1.1
  have hb := X.1.2.1
  intro x1 x2 x3 y0 σ hf H locs ls hH hl
  unfold pX4_readCommand_82 at hf
  refine lv_istore (lv' := [(4, .int y0), (0, .ref (adr 4)), (1, .int x1), (2, .int x2), (3, .int x3)]) hx hb dX4_readCommand_82 hl (by decide) rfl (fun ls hl => ?_)
  refine lv_aload_n hx hb dX4_readCommand_84 rfl (lv_at hl 1 rfl) ?_
  refine lv_iconst (v := (4 : Int32)) hx hb dX4_readCommand_85 (by decide) ?_
  refine lv_aload_n hx hb dX4_readCommand_86 rfl (lv_at hl 1 rfl) ?_
  refine fw_get (id := 4) (k := 3) (v := .int (fw_g σ 4 3)) X hH (by decide) (fc_4 (by decide)) rfl inX4 (by decide) rfl tw_1_162 dX4_readCommand_87 ?_
  refine lv_imul hx hb dX4_readCommand_90 ?_
  refine lv_iload_n hx hb dX4_readCommand_91 rfl (lv_at hl 4 rfl) ?_
  refine lv_iadd hx hb dX4_readCommand_92 ?_
  refine lv_iload hx hb dX4_readCommand_93 (lv_at hl 0 rfl) ?_
  obtain ⟨w18, τ17, g16, hf⟩ := fw_b2s hf
  refine fw_ci hH (fw_rV (As := [.int (((4 : Int32) * (fw_g σ 4 3)) + x3), .int y0]) (rest := []) (id := 4) X hH (kX4_readNumber  g16 _) qX4_readNumber tw_3_136 ⟨Nat.le_of_ble_eq_true rfl, Nat.le_of_ble_eq_true rfl⟩ rfl rfl (by decide) (fc_4 (by decide)) rfl rfl hl.1 rfl (Nat.le_of_ble_eq_true rfl) dX4_readCommand_95) (fun H locs hH => ?_)
  refine lv_if_ne (tgt := 103) hx hb dX4_readCommand_98 (by decide) (fun hc => ?_) (fun hc => ?_)
  · have hf := fw_neg hc hf
    refine lv_iinc (v := (x3 + (1 : Int32))) (lv' := [(3, .int (x3 + (1 : Int32))), (4, .int y0), (0, .ref (adr 4)), (1, .int x1), (2, .int x2)]) hx hb dX4_readCommand_103 hl (k := 4) rfl rfl (by decide) rfl (fun ls hl => ?_)
    refine lv_goto (tgt := 57) hx hb dX4_readCommand_106 (by decide) ?_
    exact hK57 x1 x2 (x3 + (1 : Int32)) τ17 hf _ _ _ hH (lv_sub hl [2, 3, 4, 0] rfl)
  · have hf := fw_pos hc hf
    refine lv_iconst (v := (0 : Int32)) hx hb dX4_readCommand_101 (by decide) ?_
    obtain ⟨rfl, rfl, hz⟩ := fw_rzs hf
    exact fw_retz X hH hz dX4_readCommand_102
def pX4_readCommand_57 : Nat → Int32 → Int32 → Int32 → fw_T → Option (Int32 × fw_T)
  | 0, _, _, _, _ => none
  | n + 1, x1, x2, x3, σ =>
    if x2 ≤ x3 then
      (pX4_skipSpaces σ).bind fun τ10 =>
      fw_b2 (pX6_byteAt (fw_g τ10 4 4) τ10) fun w13 τ12 =>
      if w13 = (59 : Int32) then
        fw_rz (1 : Int32) (fw_u (fw_u τ12 4 4 ((fw_g τ12 4 4) + (1 : Int32))) 4 3 ((fw_g (fw_u τ12 4 4 ((fw_g τ12 4 4) + (1 : Int32))) 4 3) + (1 : Int32)))
      else
        fw_rz (0 : Int32) τ12
    else
      (pX4_skipSpaces σ).bind fun τ15 =>
      if x1 = (102 : Int32) then
        if x3 = (3 : Int32) then
          pX4_readCommand_82 (fun a0 a1 a2 σ => pX4_readCommand_57 n a0 a1 a2 σ) x1 x2 x3 (1 : Int32) τ15
        else
          pX4_readCommand_82 (fun a0 a1 a2 σ => pX4_readCommand_57 n a0 a1 a2 σ) x1 x2 x3 (0 : Int32) τ15
      else
        pX4_readCommand_82 (fun a0 a1 a2 σ => pX4_readCommand_57 n a0 a1 a2 σ) x1 x2 x3 (0 : Int32) τ15
set_option maxRecDepth 100000 in
set_option maxHeartbeats 4000000 in
theorem wX4_readCommand_57 {args : Array Value} {r : Int32} {σ' : fw_T} (X : fcX p m c cX4_readCommand 5 s args RX4 meth (some .boolean) D cI cO)  : ∀ (n : Nat), ∀ (x1 : Int32), ∀ (x2 : Int32), ∀ (x3 : Int32), ∀ (σ : fw_T), pX4_readCommand_57 n x1 x2 x3 σ = some (r, σ') → ∀ (H : Heap) (locs : List Loc) (ls : Array Slot), fcH D cI cO adr A s H locs σ → lv_has ls 5 [(0, .ref (adr 4)), (1, .int x1), (2, .int x2), (3, .int x3)] → W p l e rmX4_readCommand s m args below meth c H locs 0 0 (fw_Qi D 96 adr (fw_C cI cO adr) A below args s r σ') (F0 m 57 ls []) := by
  have hx := X.1.1
  have hb := X.1.2.1
  intro n
  induction n with
  | zero =>
    intro x1 x2 x3 σ hf
    exact absurd hf (by simp [pX4_readCommand_57])
  | succ n ih =>
    intro x1 x2 x3 σ hf H locs ls hH hl
    rw [pX4_readCommand_57] at hf
    refine lv_iload_n hx hb dX4_readCommand_57 rfl (lv_at hl 3 rfl) ?_
    refine lv_iload_n hx hb dX4_readCommand_58 rfl (lv_at hl 2 rfl) ?_
    refine lv_icmp_ge (tgt := 109) hx hb dX4_readCommand_59 (by decide) (fun hc => ?_) (fun hc => ?_)
    · have hf := fw_pos hc hf
      refine lv_aload_n hx hb dX4_readCommand_109 rfl (lv_at hl 0 rfl) ?_
      obtain ⟨τ10, g9, hf⟩ := fw_bd hf
      refine fw_cv hH (fw_rV (As := []) (rest := []) (id := 4) X hH (kX4_skipSpaces  g9 _) qX4_skipSpaces tw_3_121 ⟨Nat.le_of_ble_eq_true rfl, Nat.le_of_ble_eq_true rfl⟩ rfl rfl (by decide) (fc_4 (by decide)) rfl rfl hl.1 rfl (Nat.le_of_ble_eq_true rfl) dX4_readCommand_110) (fun H locs hH => ?_)
      refine lv_aload_n hx hb dX4_readCommand_113 rfl (lv_at hl 0 rfl) ?_
      refine fw_get (id := 4) (k := 0) (v := .ref (adr 7)) X hH (by decide) (fc_4 (by decide)) rfl inX4 (by decide) rfl tw_1_158 dX4_readCommand_114 ?_
      refine lv_aload_n hx hb dX4_readCommand_117 rfl (lv_at hl 0 rfl) ?_
      refine fw_get (id := 4) (k := 4) (v := .int (fw_g τ10 4 4)) X hH (by decide) (fc_4 (by decide)) rfl inX4 (by decide) rfl tw_1_164 dX4_readCommand_118 ?_
      obtain ⟨w13, τ12, g11, hf⟩ := fw_b2s hf
      refine fw_ci hH (fw_rV (As := [.int (fw_g τ10 4 4)]) (rest := []) (id := 7) X hH (kX6_byteAt  g11 _) qX6_byteAt tw_3_125 ⟨Nat.le_of_ble_eq_true rfl, Nat.le_of_ble_eq_true rfl⟩ rfl rfl (by decide) (fc_7 (by decide)) rfl rfl hl.1 rfl (Nat.le_of_ble_eq_true rfl) dX4_readCommand_121) (fun H locs hH => ?_)
      refine lv_bipush (v := (59 : Int32)) hx hb dX4_readCommand_124 (by decide) ?_
      refine lv_icmp_eq (tgt := 131) hx hb dX4_readCommand_126 (by decide) (fun hc => ?_) (fun hc => ?_)
      · have hf := fw_pos hc hf
        refine lv_aload_n hx hb dX4_readCommand_131 rfl (lv_at hl 0 rfl) ?_
        refine lv_dup hx hb dX4_readCommand_132 rfl ?_
        refine fw_get (id := 4) (k := 4) (v := .int (fw_g τ12 4 4)) X hH (by decide) (fc_4 (by decide)) rfl inX4 (by decide) rfl tw_1_164 dX4_readCommand_133 ?_
        refine lv_iconst (v := (1 : Int32)) hx hb dX4_readCommand_136 (by decide) ?_
        refine lv_iadd hx hb dX4_readCommand_137 ?_
        refine fw_put (id := 4) (k := 4) (v := .int ((fw_g τ12 4 4) + (1 : Int32))) (ty := .int) (σ' := (fw_u τ12 4 4 ((fw_g τ12 4 4) + (1 : Int32)))) X hH (by decide) (fc_4 (by decide)) (fp_4_4 (by decide)) (fun j h => fc_ne h) rfl inX4 tyX4 tyX4_ok nmX4 (by decide) (Nat.le_of_ble_eq_true rfl) rfl (by decide +kernel) rfl rfl tw_1_164 dX4_readCommand_138 (fun H locs hH => ?_)
        refine lv_aload_n hx hb dX4_readCommand_141 rfl (lv_at hl 0 rfl) ?_
        refine lv_dup hx hb dX4_readCommand_142 rfl ?_
        refine fw_get (id := 4) (k := 3) (v := .int (fw_g (fw_u τ12 4 4 ((fw_g τ12 4 4) + (1 : Int32))) 4 3)) X hH (by decide) (fc_4 (by decide)) rfl inX4 (by decide) rfl tw_1_162 dX4_readCommand_143 ?_
        refine lv_iconst (v := (1 : Int32)) hx hb dX4_readCommand_146 (by decide) ?_
        refine lv_iadd hx hb dX4_readCommand_147 ?_
        refine fw_put (id := 4) (k := 3) (v := .int ((fw_g (fw_u τ12 4 4 ((fw_g τ12 4 4) + (1 : Int32))) 4 3) + (1 : Int32))) (ty := .int) (σ' := (fw_u (fw_u τ12 4 4 ((fw_g τ12 4 4) + (1 : Int32))) 4 3 ((fw_g (fw_u τ12 4 4 ((fw_g τ12 4 4) + (1 : Int32))) 4 3) + (1 : Int32)))) X hH (by decide) (fc_4 (by decide)) (fp_4_3 (by decide)) (fun j h => fc_ne h) rfl inX4 tyX4 tyX4_ok nmX4 (by decide) (Nat.le_of_ble_eq_true rfl) rfl (by decide +kernel) rfl rfl tw_1_162 dX4_readCommand_148 (fun H locs hH => ?_)
        refine lv_iconst (v := (1 : Int32)) hx hb dX4_readCommand_151 (by decide) ?_
        obtain ⟨rfl, rfl, hz⟩ := fw_rzs hf
        exact fw_retz X hH hz dX4_readCommand_152
      · have hf := fw_neg hc hf
        refine lv_iconst (v := (0 : Int32)) hx hb dX4_readCommand_129 (by decide) ?_
        obtain ⟨rfl, rfl, hz⟩ := fw_rzs hf
        exact fw_retz X hH hz dX4_readCommand_130
    · have hf := fw_neg hc hf
      refine lv_aload_n hx hb dX4_readCommand_62 rfl (lv_at hl 0 rfl) ?_
      obtain ⟨τ15, g14, hf⟩ := fw_bd hf
      refine fw_cv hH (fw_rV (As := []) (rest := []) (id := 4) X hH (kX4_skipSpaces  g14 _) qX4_skipSpaces tw_3_121 ⟨Nat.le_of_ble_eq_true rfl, Nat.le_of_ble_eq_true rfl⟩ rfl rfl (by decide) (fc_4 (by decide)) rfl rfl hl.1 rfl (Nat.le_of_ble_eq_true rfl) dX4_readCommand_63) (fun H locs hH => ?_)
      refine lv_iload_n hx hb dX4_readCommand_66 rfl (lv_at hl 1 rfl) ?_
      refine lv_bipush (v := (102 : Int32)) hx hb dX4_readCommand_67 (by decide) ?_
      refine lv_icmp_ne (tgt := 81) hx hb dX4_readCommand_69 (by decide) (fun hc => ?_) (fun hc => ?_)
      · have hf := fw_neg hc hf
        refine lv_iconst (v := (0 : Int32)) hx hb dX4_readCommand_81 (by decide) ?_
        exact wX4_readCommand_82 X ih x1 x2 x3 (0 : Int32) τ15 hf _ _ _ hH (lv_sub hl [0, 1, 2, 3] rfl)
      · have hf := fw_pos hc hf
        refine lv_iload_n hx hb dX4_readCommand_72 rfl (lv_at hl 3 rfl) ?_
        refine lv_iconst (v := (3 : Int32)) hx hb dX4_readCommand_73 (by decide) ?_
        refine lv_icmp_ne (tgt := 81) hx hb dX4_readCommand_74 (by decide) (fun hc => ?_) (fun hc => ?_)
        · have hf := fw_neg hc hf
          refine lv_iconst (v := (0 : Int32)) hx hb dX4_readCommand_81 (by decide) ?_
          exact wX4_readCommand_82 X ih x1 x2 x3 (0 : Int32) τ15 hf _ _ _ hH (lv_sub hl [0, 1, 2, 3] rfl)
        · have hf := fw_pos hc hf
          refine lv_iconst (v := (1 : Int32)) hx hb dX4_readCommand_77 (by decide) ?_
          refine lv_goto (tgt := 82) hx hb dX4_readCommand_78 (by decide) ?_
          exact wX4_readCommand_82 X ih x1 x2 x3 (1 : Int32) τ15 hf _ _ _ hH (lv_sub hl [0, 1, 2, 3] rfl)
def pX4_readCommand (σ : fw_T) : Option (Int32 × fw_T) :=
  fw_b2 (pX6_byteAt (fw_g σ 4 4) σ) fun w3 τ2 =>
  fw_b2 (pX4_numbersBehind w3 τ2) fun w6 τ5 =>
  if w6 = (-10001 : Int32) then
    fw_rz (0 : Int32) τ5
  else
    if (fw_g τ5 4 3) < (60 : Int32) then
      (fw_wr (fw_u τ5 4 4 ((fw_g τ5 4 4) + (1 : Int32))) 5 60 (fw_g (fw_u τ5 4 4 ((fw_g τ5 4 4) + (1 : Int32))) 4 3) w3).bind fun τ7 =>
      pX4_readCommand_57 400 w3 w6 (0 : Int32) τ7
    else
      fw_rz (0 : Int32) τ5
set_option maxRecDepth 100000 in
set_option maxHeartbeats 4000000 in
theorem kX4_readCommand {r : Int32} {σ σ' : fw_T} (hf : pX4_readCommand σ = some (r, σ')) : fw_Ci l yX4_readCommand (Cond.code yX4_readCommand cX4_readCommand 5 (some .boolean) :: lwT) rmX4_readCommand [.ref (adr 4)] D 96 adr (fw_C cI cO adr) (fcT cI cO) nwC σ r σ' := by
  refine fw_start (Qc := (fun A => va_Qi (fun r' (_ : Unit) => r' = r) (fun _ t => va_P D vwCl (fw_ws 96 adr (fw_C cI cO adr σ')) t.heap) A)) (by decide) (by simp [lg_sl, Value.category]) rfl ?_
  intro p e s m below meth c A X hH ls hl
  have hx := X.1.1
  have hb := X.1.2.1
  have hl : lv_has ls 5 [(0, .ref (adr 4))] := hl
  unfold pX4_readCommand at hf
  refine lv_aload_n hx hb dX4_readCommand_0 rfl (lv_at hl 0 rfl) ?_
  refine fw_get (id := 4) (k := 0) (v := .ref (adr 7)) X hH (by decide) (fc_4 (by decide)) rfl inX4 (by decide) rfl tw_1_158 dX4_readCommand_1 ?_
  refine lv_aload_n hx hb dX4_readCommand_4 rfl (lv_at hl 0 rfl) ?_
  refine fw_get (id := 4) (k := 4) (v := .int (fw_g σ 4 4)) X hH (by decide) (fc_4 (by decide)) rfl inX4 (by decide) rfl tw_1_164 dX4_readCommand_5 ?_
  obtain ⟨w3, τ2, g1, hf⟩ := fw_b2s hf
  refine fw_ci hH (fw_rV (As := [.int (fw_g σ 4 4)]) (rest := []) (id := 7) X hH (kX6_byteAt  g1 _) qX6_byteAt tw_3_125 ⟨Nat.le_of_ble_eq_true rfl, Nat.le_of_ble_eq_true rfl⟩ rfl rfl (by decide) (fc_7 (by decide)) rfl rfl hl.1 rfl (Nat.le_of_ble_eq_true rfl) dX4_readCommand_8) (fun H locs hH => ?_)
  refine lv_istore_n (lv' := [(1, .int w3), (0, .ref (adr 4))]) hx hb dX4_readCommand_11 rfl hl (by decide) rfl (fun ls hl => ?_)
  refine lv_iload_n hx hb dX4_readCommand_12 rfl (lv_at hl 0 rfl) ?_
  obtain ⟨w6, τ5, g4, hf⟩ := fw_b2s hf
  refine fw_ci hH (fw_rS (As := [.int w3]) (rest := []) X hH (kX4_numbersBehind  g4 _) qX4_numbersBehind tw_3_133 ⟨Nat.le_of_ble_eq_true rfl, Nat.le_of_ble_eq_true rfl⟩ rfl rfl rfl hl.1 rfl (Nat.le_of_ble_eq_true rfl) dX4_readCommand_13) (fun H locs hH => ?_)
  refine lv_istore_n (lv' := [(2, .int w6), (1, .int w3), (0, .ref (adr 4))]) hx hb dX4_readCommand_16 rfl hl (by decide) rfl (fun ls hl => ?_)
  refine lv_iload_n hx hb dX4_readCommand_17 rfl (lv_at hl 0 rfl) ?_
  refine lv_sipush (v := (-10001 : Int32)) hx hb dX4_readCommand_18 (by decide) ?_
  refine lv_icmp_eq (tgt := 33) hx hb dX4_readCommand_21 (by decide) (fun hc => ?_) (fun hc => ?_)
  · have hf := fw_pos hc hf
    refine lv_iconst (v := (0 : Int32)) hx hb dX4_readCommand_33 (by decide) ?_
    obtain ⟨rfl, rfl, hz⟩ := fw_rzs hf
    exact fw_retz X hH hz dX4_readCommand_34
  · have hf := fw_neg hc hf
    refine lv_aload_n hx hb dX4_readCommand_24 rfl (lv_at hl 2 rfl) ?_
    refine fw_get (id := 4) (k := 3) (v := .int (fw_g τ5 4 3)) X hH (by decide) (fc_4 (by decide)) rfl inX4 (by decide) rfl tw_1_162 dX4_readCommand_25 ?_
    refine lv_bipush (v := (60 : Int32)) hx hb dX4_readCommand_28 (by decide) ?_
    refine lv_icmp_lt (tgt := 35) hx hb dX4_readCommand_30 (by decide) (fun hc => ?_) (fun hc => ?_)
    · have hf := fw_pos hc hf
      refine lv_aload_n hx hb dX4_readCommand_35 rfl (lv_at hl 2 rfl) ?_
      refine lv_dup hx hb dX4_readCommand_36 rfl ?_
      refine fw_get (id := 4) (k := 4) (v := .int (fw_g τ5 4 4)) X hH (by decide) (fc_4 (by decide)) rfl inX4 (by decide) rfl tw_1_164 dX4_readCommand_37 ?_
      refine lv_iconst (v := (1 : Int32)) hx hb dX4_readCommand_40 (by decide) ?_
      refine lv_iadd hx hb dX4_readCommand_41 ?_
      refine fw_put (id := 4) (k := 4) (v := .int ((fw_g τ5 4 4) + (1 : Int32))) (ty := .int) (σ' := (fw_u τ5 4 4 ((fw_g τ5 4 4) + (1 : Int32)))) X hH (by decide) (fc_4 (by decide)) (fp_4_4 (by decide)) (fun j h => fc_ne h) rfl inX4 tyX4 tyX4_ok nmX4 (by decide) (Nat.le_of_ble_eq_true rfl) rfl (by decide +kernel) rfl rfl tw_1_164 dX4_readCommand_42 (fun H locs hH => ?_)
      refine lv_aload_n hx hb dX4_readCommand_45 rfl (lv_at hl 2 rfl) ?_
      refine fw_get (id := 4) (k := 1) (v := .ref (adr 5)) X hH (by decide) (fc_4 (by decide)) rfl inX4 (by decide) rfl tw_1_160 dX4_readCommand_46 ?_
      refine lv_aload_n hx hb dX4_readCommand_49 rfl (lv_at hl 2 rfl) ?_
      refine fw_get (id := 4) (k := 3) (v := .int (fw_g (fw_u τ5 4 4 ((fw_g τ5 4 4) + (1 : Int32))) 4 3)) X hH (by decide) (fc_4 (by decide)) rfl inX4 (by decide) rfl tw_1_162 dX4_readCommand_50 ?_
      refine lv_iload_n hx hb dX4_readCommand_53 rfl (lv_at hl 1 rfl) ?_
      obtain ⟨τ7, g8, hf⟩ := fw_bd hf
      refine fw_iast (id := 5) (n := 60) X hH (by decide) (fun σ => fc_5 (by decide)) (fun k x j h => fc_ne h) rfl g8 dX4_readCommand_54 (fun H locs hH => ?_)
      refine lv_iconst (v := (0 : Int32)) hx hb dX4_readCommand_55 (by decide) ?_
      refine lv_istore_n (lv' := [(3, .int (0 : Int32)), (2, .int w6), (1, .int w3), (0, .ref (adr 4))]) hx hb dX4_readCommand_56 rfl hl (by decide) rfl (fun ls hl => ?_)
      exact wX4_readCommand_57 X 400 w3 w6 (0 : Int32) τ7 hf _ _ _ hH (lv_sub hl [3, 2, 1, 0] rfl)
    · have hf := fw_neg hc hf
      refine lv_iconst (v := (0 : Int32)) hx hb dX4_readCommand_33 (by decide) ?_
      obtain ⟨rfl, rfl, hz⟩ := fw_rzs hf
      exact fw_retz X hH hz dX4_readCommand_34
abbrev rmX4_parse : Room := { frames := 3, cells := 0, slots := 0, locals := 69 }
theorem qX4_parse : fw_QV RX4 yX4_parse cX4_parse 2 (some .boolean) 0 := ⟨⟨tw_3_118, tw_3_119, tw_1_8, tw_3_120⟩, by decide +kernel⟩
def pX4_parse_16 : Nat → Int32 → fw_T → Option (Int32 × fw_T)
  | 0, _, _ => none
  | n + 1, x1, σ =>
    if (60 : Int32) ≤ x1 then
      fw_rz (0 : Int32) σ
    else
      fw_b2 (pX4_readCommand σ) fun w5 τ4 =>
      if w5 = 0 then
        fw_rz (0 : Int32) τ4
      else
        (pX4_skipSpaces τ4).bind fun τ7 =>
        if (fw_g τ7 4 4) < (fw_g τ7 7 1) then
          pX4_parse_16 n (x1 + (1 : Int32)) τ7
        else
          fw_rz (1 : Int32) τ7
set_option maxRecDepth 100000 in
set_option maxHeartbeats 4000000 in
theorem wX4_parse_16 {args : Array Value} {r : Int32} {σ' : fw_T} (X : fcX p m c cX4_parse 2 s args RX4 meth (some .boolean) D cI cO)  : ∀ (n : Nat), ∀ (x1 : Int32), ∀ (σ : fw_T), pX4_parse_16 n x1 σ = some (r, σ') → ∀ (H : Heap) (locs : List Loc) (ls : Array Slot), fcH D cI cO adr A s H locs σ → lv_has ls 2 [(0, .ref (adr 4)), (1, .int x1)] → W p l e rmX4_parse s m args below meth c H locs 0 0 (fw_Qi D 96 adr (fw_C cI cO adr) A below args s r σ') (F0 m 16 ls []) := by
  have hx := X.1.1
  have hb := X.1.2.1
  intro n
  induction n with
  | zero =>
    intro x1 σ hf
    exact absurd hf (by simp [pX4_parse_16])
  | succ n ih =>
    intro x1 σ hf H locs ls hH hl
    rw [pX4_parse_16] at hf
    refine lv_iload_n hx hb dX4_parse_16 rfl (lv_at hl 1 rfl) ?_
    refine lv_bipush (v := (60 : Int32)) hx hb dX4_parse_17 (by decide) ?_
    refine lv_icmp_ge (tgt := 57) hx hb dX4_parse_19 (by decide) (fun hc => ?_) (fun hc => ?_)
    · have hf := fw_pos hc hf
      refine lv_iconst (v := (0 : Int32)) hx hb dX4_parse_57 (by decide) ?_
      obtain ⟨rfl, rfl, hz⟩ := fw_rzs hf
      exact fw_retz X hH hz dX4_parse_58
    · have hf := fw_neg hc hf
      refine lv_aload_n hx hb dX4_parse_22 rfl (lv_at hl 0 rfl) ?_
      obtain ⟨w5, τ4, g3, hf⟩ := fw_b2s hf
      refine fw_ci hH (fw_rV (As := []) (rest := []) (id := 4) X hH (kX4_readCommand  g3 _) qX4_readCommand tw_3_129 ⟨Nat.le_of_ble_eq_true rfl, Nat.le_of_ble_eq_true rfl⟩ rfl rfl (by decide) (fc_4 (by decide)) rfl rfl hl.1 rfl (Nat.le_of_ble_eq_true rfl) dX4_parse_23) (fun H locs hH => ?_)
      refine lv_if_ne (tgt := 31) hx hb dX4_parse_26 (by decide) (fun hc => ?_) (fun hc => ?_)
      · have hf := fw_neg hc hf
        refine lv_aload_n hx hb dX4_parse_31 rfl (lv_at hl 0 rfl) ?_
        obtain ⟨τ7, g6, hf⟩ := fw_bd hf
        refine fw_cv hH (fw_rV (As := []) (rest := []) (id := 4) X hH (kX4_skipSpaces  g6 _) qX4_skipSpaces tw_3_121 ⟨Nat.le_of_ble_eq_true rfl, Nat.le_of_ble_eq_true rfl⟩ rfl rfl (by decide) (fc_4 (by decide)) rfl rfl hl.1 rfl (Nat.le_of_ble_eq_true rfl) dX4_parse_32) (fun H locs hH => ?_)
        refine lv_aload_n hx hb dX4_parse_35 rfl (lv_at hl 0 rfl) ?_
        refine fw_get (id := 4) (k := 4) (v := .int (fw_g τ7 4 4)) X hH (by decide) (fc_4 (by decide)) rfl inX4 (by decide) rfl tw_1_164 dX4_parse_36 ?_
        refine lv_aload_n hx hb dX4_parse_39 rfl (lv_at hl 0 rfl) ?_
        refine fw_get (id := 4) (k := 0) (v := .ref (adr 7)) X hH (by decide) (fc_4 (by decide)) rfl inX4 (by decide) rfl tw_1_158 dX4_parse_40 ?_
        refine fw_getN (id := 7) (k := 1) (v := .int (fw_g τ7 7 1)) X hH (by decide) (fc_7 (by decide)) rfl inX6 (by decide) rfl nw_1_151 dX4_parse_43 ?_
        refine lv_icmp_lt (tgt := 51) hx hb dX4_parse_46 (by decide) (fun hc => ?_) (fun hc => ?_)
        · have hf := fw_pos hc hf
          refine lv_iinc (v := (x1 + (1 : Int32))) (lv' := [(1, .int (x1 + (1 : Int32))), (0, .ref (adr 4))]) hx hb dX4_parse_51 hl (k := 1) rfl rfl (by decide) rfl (fun ls hl => ?_)
          refine lv_goto (tgt := 16) hx hb dX4_parse_54 (by decide) ?_
          exact ih (x1 + (1 : Int32)) τ7 hf _ _ _ hH (lv_sub hl [1, 0] rfl)
        · have hf := fw_neg hc hf
          refine lv_iconst (v := (1 : Int32)) hx hb dX4_parse_49 (by decide) ?_
          obtain ⟨rfl, rfl, hz⟩ := fw_rzs hf
          exact fw_retz X hH hz dX4_parse_50
      · have hf := fw_pos hc hf
        refine lv_iconst (v := (0 : Int32)) hx hb dX4_parse_29 (by decide) ?_
        obtain ⟨rfl, rfl, hz⟩ := fw_rzs hf
        exact fw_retz X hH hz dX4_parse_30
def pX4_parse (σ : fw_T) : Option (Int32 × fw_T) :=
  (pX4_skipSpaces (fw_u (fw_u σ 4 3 (0 : Int32)) 4 4 (0 : Int32))).bind fun τ2 =>
  pX4_parse_16 400 (0 : Int32) τ2
set_option maxRecDepth 100000 in
set_option maxHeartbeats 4000000 in
theorem kX4_parse {r : Int32} {σ σ' : fw_T} (hf : pX4_parse σ = some (r, σ')) : fw_Ci l yX4_parse (Cond.code yX4_parse cX4_parse 2 (some .boolean) :: lwT) rmX4_parse [.ref (adr 4)] D 96 adr (fw_C cI cO adr) (fcT cI cO) nwC σ r σ' := by
  refine fw_start (Qc := (fun A => va_Qi (fun r' (_ : Unit) => r' = r) (fun _ t => va_P D vwCl (fw_ws 96 adr (fw_C cI cO adr σ')) t.heap) A)) (by decide) (by simp [lg_sl, Value.category]) rfl ?_
  intro p e s m below meth c A X hH ls hl
  have hx := X.1.1
  have hb := X.1.2.1
  have hl : lv_has ls 2 [(0, .ref (adr 4))] := hl
  unfold pX4_parse at hf
  refine lv_aload_n hx hb dX4_parse_0 rfl (lv_at hl 0 rfl) ?_
  refine lv_iconst (v := (0 : Int32)) hx hb dX4_parse_1 (by decide) ?_
  refine fw_put (id := 4) (k := 3) (v := .int (0 : Int32)) (ty := .int) (σ' := (fw_u σ 4 3 (0 : Int32))) X hH (by decide) (fc_4 (by decide)) (fp_4_3 (by decide)) (fun j h => fc_ne h) rfl inX4 tyX4 tyX4_ok nmX4 (by decide) (Nat.le_of_ble_eq_true rfl) rfl (by decide +kernel) rfl rfl tw_1_162 dX4_parse_2 (fun H locs hH => ?_)
  refine lv_aload_n hx hb dX4_parse_5 rfl (lv_at hl 0 rfl) ?_
  refine lv_iconst (v := (0 : Int32)) hx hb dX4_parse_6 (by decide) ?_
  refine fw_put (id := 4) (k := 4) (v := .int (0 : Int32)) (ty := .int) (σ' := (fw_u (fw_u σ 4 3 (0 : Int32)) 4 4 (0 : Int32))) X hH (by decide) (fc_4 (by decide)) (fp_4_4 (by decide)) (fun j h => fc_ne h) rfl inX4 tyX4 tyX4_ok nmX4 (by decide) (Nat.le_of_ble_eq_true rfl) rfl (by decide +kernel) rfl rfl tw_1_164 dX4_parse_7 (fun H locs hH => ?_)
  refine lv_aload_n hx hb dX4_parse_10 rfl (lv_at hl 0 rfl) ?_
  obtain ⟨τ2, g1, hf⟩ := fw_bd hf
  refine fw_cv hH (fw_rV (As := []) (rest := []) (id := 4) X hH (kX4_skipSpaces  g1 _) qX4_skipSpaces tw_3_121 ⟨Nat.le_of_ble_eq_true rfl, Nat.le_of_ble_eq_true rfl⟩ rfl rfl (by decide) (fc_4 (by decide)) rfl rfl hl.1 rfl (Nat.le_of_ble_eq_true rfl) dX4_parse_11) (fun H locs hH => ?_)
  refine lv_iconst (v := (0 : Int32)) hx hb dX4_parse_14 (by decide) ?_
  refine lv_istore_n (lv' := [(1, .int (0 : Int32)), (0, .ref (adr 4))]) hx hb dX4_parse_15 rfl hl (by decide) rfl (fun ls hl => ?_)
  exact wX4_parse_16 X 400 (0 : Int32) τ2 hf _ _ _ hH (lv_sub hl [1, 0] rfl)
abbrev rmX4_number : Room := { frames := 0, cells := 0, slots := 0, locals := 0 }
theorem qX4_number : fw_QV RX4 yX4_number cX4_number 3 (some .int) 2 := ⟨⟨tw_3_148, tw_3_149, tw_1_8, tw_3_150⟩, by decide +kernel⟩
def pX4_number (x1 : Int32) (x2 : Int32) (σ : fw_T) : Option (Int32 × fw_T) :=
  if x1 < 0 then
    some ((0 : Int32), σ)
  else
    if (fw_g σ 4 3) ≤ x1 then
      some ((0 : Int32), σ)
    else
      if x2 < 0 then
        some ((0 : Int32), σ)
      else
        if x2 < (4 : Int32) then
          (fw_rd σ 6 240 (((4 : Int32) * x1) + x2)).bind fun w1 =>
          some (w1, σ)
        else
          some ((0 : Int32), σ)
set_option maxRecDepth 100000 in
set_option maxHeartbeats 4000000 in
theorem kX4_number {x1 : Int32} {x2 : Int32} {r : Int32} {σ σ' : fw_T} (hf : pX4_number x1 x2 σ = some (r, σ')) : fw_Ci l yX4_number (Cond.code yX4_number cX4_number 3 (some .int) :: lwT) rmX4_number [.ref (adr 4), .int x1, .int x2] D 96 adr (fw_C cI cO adr) (fcT cI cO) nwC σ r σ' := by
  refine fw_start (Qc := (fun A => va_Qi (fun r' (_ : Unit) => r' = r) (fun _ t => va_P D vwCl (fw_ws 96 adr (fw_C cI cO adr σ')) t.heap) A)) (by decide) (by simp [lg_sl, Value.category]) rfl ?_
  intro p e s m below meth c A X hH ls hl
  have hx := X.1.1
  have hb := X.1.2.1
  have hl : lv_has ls 3 [(0, .ref (adr 4)), (1, .int x1), (2, .int x2)] := hl
  unfold pX4_number at hf
  refine lv_iload_n hx hb dX4_number_0 rfl (lv_at hl 1 rfl) ?_
  refine lv_if_lt (tgt := 21) hx hb dX4_number_1 (by decide) (fun hc => ?_) (fun hc => ?_)
  · have hf := fw_pos hc hf
    refine lv_iconst (v := (0 : Int32)) hx hb dX4_number_21 (by decide) ?_
    obtain ⟨rfl, rfl⟩ := fw_s2 hf
    exact fw_reti X hH dX4_number_22
  · have hf := fw_neg hc hf
    refine lv_iload_n hx hb dX4_number_4 rfl (lv_at hl 1 rfl) ?_
    refine lv_aload_n hx hb dX4_number_5 rfl (lv_at hl 0 rfl) ?_
    refine fw_get (id := 4) (k := 3) (v := .int (fw_g σ 4 3)) X hH (by decide) (fc_4 (by decide)) rfl inX4 (by decide) rfl tw_1_162 dX4_number_6 ?_
    refine lv_icmp_ge (tgt := 21) hx hb dX4_number_9 (by decide) (fun hc => ?_) (fun hc => ?_)
    · have hf := fw_pos hc hf
      refine lv_iconst (v := (0 : Int32)) hx hb dX4_number_21 (by decide) ?_
      obtain ⟨rfl, rfl⟩ := fw_s2 hf
      exact fw_reti X hH dX4_number_22
    · have hf := fw_neg hc hf
      refine lv_iload_n hx hb dX4_number_12 rfl (lv_at hl 2 rfl) ?_
      refine lv_if_lt (tgt := 21) hx hb dX4_number_13 (by decide) (fun hc => ?_) (fun hc => ?_)
      · have hf := fw_pos hc hf
        refine lv_iconst (v := (0 : Int32)) hx hb dX4_number_21 (by decide) ?_
        obtain ⟨rfl, rfl⟩ := fw_s2 hf
        exact fw_reti X hH dX4_number_22
      · have hf := fw_neg hc hf
        refine lv_iload_n hx hb dX4_number_16 rfl (lv_at hl 2 rfl) ?_
        refine lv_iconst (v := (4 : Int32)) hx hb dX4_number_17 (by decide) ?_
        refine lv_icmp_lt (tgt := 23) hx hb dX4_number_18 (by decide) (fun hc => ?_) (fun hc => ?_)
        · have hf := fw_pos hc hf
          refine lv_aload_n hx hb dX4_number_23 rfl (lv_at hl 0 rfl) ?_
          refine fw_get (id := 4) (k := 2) (v := .ref (adr 6)) X hH (by decide) (fc_4 (by decide)) rfl inX4 (by decide) rfl tw_1_161 dX4_number_24 ?_
          refine lv_iconst (v := (4 : Int32)) hx hb dX4_number_27 (by decide) ?_
          refine lv_iload_n hx hb dX4_number_28 rfl (lv_at hl 1 rfl) ?_
          refine lv_imul hx hb dX4_number_29 ?_
          refine lv_iload_n hx hb dX4_number_30 rfl (lv_at hl 2 rfl) ?_
          refine lv_iadd hx hb dX4_number_31 ?_
          obtain ⟨w1, g2, hf⟩ := fw_bd hf
          refine fw_iald (id := 6) (n := 240) X hH (by decide) (fc_6 (by decide)) rfl g2 dX4_number_32 ?_
          obtain ⟨rfl, rfl⟩ := fw_s2 hf
          exact fw_reti X hH dX4_number_33
        · have hf := fw_neg hc hf
          refine lv_iconst (v := (0 : Int32)) hx hb dX4_number_21 (by decide) ?_
          obtain ⟨rfl, rfl⟩ := fw_s2 hf
          exact fw_reti X hH dX4_number_22
abbrev rmX4_letter : Room := { frames := 0, cells := 0, slots := 0, locals := 0 }
theorem qX4_letter : fw_QV RX4 yX4_letter cX4_letter 2 (some .int) 1 := ⟨⟨tw_3_152, tw_3_153, tw_1_8, tw_3_154⟩, by decide +kernel⟩
def pX4_letter (x1 : Int32) (σ : fw_T) : Option (Int32 × fw_T) :=
  if x1 < 0 then
    some ((-1 : Int32), σ)
  else
    if (fw_g σ 4 3) ≤ x1 then
      some ((-1 : Int32), σ)
    else
      (fw_rd σ 5 60 x1).bind fun w1 =>
      some (w1, σ)
set_option maxRecDepth 100000 in
set_option maxHeartbeats 4000000 in
theorem kX4_letter {x1 : Int32} {r : Int32} {σ σ' : fw_T} (hf : pX4_letter x1 σ = some (r, σ')) : fw_Ci l yX4_letter (Cond.code yX4_letter cX4_letter 2 (some .int) :: lwT) rmX4_letter [.ref (adr 4), .int x1] D 96 adr (fw_C cI cO adr) (fcT cI cO) nwC σ r σ' := by
  refine fw_start (Qc := (fun A => va_Qi (fun r' (_ : Unit) => r' = r) (fun _ t => va_P D vwCl (fw_ws 96 adr (fw_C cI cO adr σ')) t.heap) A)) (by decide) (by simp [lg_sl, Value.category]) rfl ?_
  intro p e s m below meth c A X hH ls hl
  have hx := X.1.1
  have hb := X.1.2.1
  have hl : lv_has ls 2 [(0, .ref (adr 4)), (1, .int x1)] := hl
  unfold pX4_letter at hf
  refine lv_iload_n hx hb dX4_letter_0 rfl (lv_at hl 1 rfl) ?_
  refine lv_if_lt (tgt := 21) hx hb dX4_letter_1 (by decide) (fun hc => ?_) (fun hc => ?_)
  · have hf := fw_pos hc hf
    refine lv_iconst (v := (-1 : Int32)) hx hb dX4_letter_21 (by decide) ?_
    obtain ⟨rfl, rfl⟩ := fw_s2 hf
    exact fw_reti X hH dX4_letter_22
  · have hf := fw_neg hc hf
    refine lv_iload_n hx hb dX4_letter_4 rfl (lv_at hl 1 rfl) ?_
    refine lv_aload_n hx hb dX4_letter_5 rfl (lv_at hl 0 rfl) ?_
    refine fw_get (id := 4) (k := 3) (v := .int (fw_g σ 4 3)) X hH (by decide) (fc_4 (by decide)) rfl inX4 (by decide) rfl tw_1_162 dX4_letter_6 ?_
    refine lv_icmp_ge (tgt := 21) hx hb dX4_letter_9 (by decide) (fun hc => ?_) (fun hc => ?_)
    · have hf := fw_pos hc hf
      refine lv_iconst (v := (-1 : Int32)) hx hb dX4_letter_21 (by decide) ?_
      obtain ⟨rfl, rfl⟩ := fw_s2 hf
      exact fw_reti X hH dX4_letter_22
    · have hf := fw_neg hc hf
      refine lv_aload_n hx hb dX4_letter_12 rfl (lv_at hl 0 rfl) ?_
      refine fw_get (id := 4) (k := 1) (v := .ref (adr 5)) X hH (by decide) (fc_4 (by decide)) rfl inX4 (by decide) rfl tw_1_160 dX4_letter_13 ?_
      refine lv_iload_n hx hb dX4_letter_16 rfl (lv_at hl 1 rfl) ?_
      obtain ⟨w1, g2, hf⟩ := fw_bd hf
      refine fw_iald (id := 5) (n := 60) X hH (by decide) (fc_5 (by decide)) rfl g2 dX4_letter_17 ?_
      refine lv_goto (tgt := 22) hx hb dX4_letter_18 (by decide) ?_
      obtain ⟨rfl, rfl⟩ := fw_s2 hf
      exact fw_reti X hH dX4_letter_22
abbrev rmX7_perform : Room := { frames := 3, cells := 0, slots := 0, locals := 65 }
theorem qX7_perform : fw_QV RX7 yX7_perform cX7_perform 4 (some .int) 1 := ⟨⟨tw_3_145, tv_X7_perform, tw_1_1, tw_3_146⟩, by decide +kernel⟩
def pX7_perform (x1 : Int32) (σ : fw_T) : Option (Int32 × fw_T) :=
  fw_b2 (pX4_number x1 (0 : Int32) σ) fun w3 τ2 =>
  fw_b2 (pX4_number x1 (1 : Int32) τ2) fun w6 τ5 =>
  fw_b2 (pX4_letter x1 τ5) fun w9 τ8 =>
  if w9 = (102 : Int32) then
    fw_b2 (pX4_number x1 (2 : Int32) τ8) fun w27 τ26 =>
    fw_b2 (pX4_number x1 (3 : Int32) τ26) fun w30 τ29 =>
    fw_b2 (pX0_insert 17 w3 w6 w27 w30 τ29) fun w33 τ32 =>
    some (w33, τ32)
  else
    if w9 = (108 : Int32) then
      fw_b2 (pX2_insert 13 w3 w6 τ8) fun w24 τ23 =>
      some (w24, τ23)
    else
      if w9 = (114 : Int32) then
        fw_b2 (pX2_insert 15 w3 w6 τ8) fun w21 τ20 =>
        some (w21, τ20)
      else
        if w9 = (119 : Int32) then
          fw_b2 (pX2_insert 22 w3 w6 τ8) fun w18 τ17 =>
          some (w18, τ17)
        else
          if w9 = (120 : Int32) then
            fw_b2 (pX0_drop 17 w3 τ8) fun w15 τ14 =>
            some (w15, τ14)
          else
            fw_b2 (pX2_dropAll 22 τ8) fun w12 τ11 =>
            some (w12, τ11)
set_option maxRecDepth 100000 in
set_option maxHeartbeats 4000000 in
theorem kX7_perform {x1 : Int32} {r : Int32} {σ σ' : fw_T} (hf : pX7_perform x1 σ = some (r, σ')) : fw_Ci l yX7_perform (Cond.code yX7_perform cX7_perform 4 (some .int) :: lwT) rmX7_perform [.ref (adr 0), .int x1] D 96 adr (fw_C cI cO adr) (fcT cI cO) nwC σ r σ' := by
  refine fw_start (Qc := (fun A => va_Qi (fun r' (_ : Unit) => r' = r) (fun _ t => va_P D vwCl (fw_ws 96 adr (fw_C cI cO adr σ')) t.heap) A)) (by decide) (by simp [lg_sl, Value.category]) rfl ?_
  intro p e s m below meth c A X hH ls hl
  have hx := X.1.1
  have hb := X.1.2.1
  have hl : lv_has ls 4 [(0, .ref (adr 0)), (1, .int x1)] := hl
  unfold pX7_perform at hf
  refine lv_aload_n hx hb dX7_perform_0 rfl (lv_at hl 0 rfl) ?_
  refine fw_get (id := 0) (k := 3) (v := .ref (adr 4)) X hH (by decide) (fc_0 (by decide)) rfl inX7 (by decide) rfl tw_1_180 dX7_perform_1 ?_
  refine lv_iload_n hx hb dX7_perform_4 rfl (lv_at hl 1 rfl) ?_
  refine lv_iconst (v := (0 : Int32)) hx hb dX7_perform_5 (by decide) ?_
  obtain ⟨w3, τ2, g1, hf⟩ := fw_b2s hf
  refine fw_ci hH (fw_rV (As := [.int x1, .int (0 : Int32)]) (rest := []) (id := 4) X hH (kX4_number  g1 _) qX4_number tw_3_147 ⟨Nat.le_of_ble_eq_true rfl, Nat.le_of_ble_eq_true rfl⟩ rfl rfl (by decide) (fc_4 (by decide)) rfl rfl hl.1 rfl (Nat.le_of_ble_eq_true rfl) dX7_perform_6) (fun H locs hH => ?_)
  refine lv_istore_n (lv' := [(2, .int w3), (0, .ref (adr 0)), (1, .int x1)]) hx hb dX7_perform_9 rfl hl (by decide) rfl (fun ls hl => ?_)
  refine lv_aload_n hx hb dX7_perform_10 rfl (lv_at hl 1 rfl) ?_
  refine fw_get (id := 0) (k := 3) (v := .ref (adr 4)) X hH (by decide) (fc_0 (by decide)) rfl inX7 (by decide) rfl tw_1_180 dX7_perform_11 ?_
  refine lv_iload_n hx hb dX7_perform_14 rfl (lv_at hl 2 rfl) ?_
  refine lv_iconst (v := (1 : Int32)) hx hb dX7_perform_15 (by decide) ?_
  obtain ⟨w6, τ5, g4, hf⟩ := fw_b2s hf
  refine fw_ci hH (fw_rV (As := [.int x1, .int (1 : Int32)]) (rest := []) (id := 4) X hH (kX4_number  g4 _) qX4_number tw_3_147 ⟨Nat.le_of_ble_eq_true rfl, Nat.le_of_ble_eq_true rfl⟩ rfl rfl (by decide) (fc_4 (by decide)) rfl rfl hl.1 rfl (Nat.le_of_ble_eq_true rfl) dX7_perform_16) (fun H locs hH => ?_)
  refine lv_istore_n (lv' := [(3, .int w6), (2, .int w3), (0, .ref (adr 0)), (1, .int x1)]) hx hb dX7_perform_19 rfl hl (by decide) rfl (fun ls hl => ?_)
  refine lv_aload_n hx hb dX7_perform_20 rfl (lv_at hl 2 rfl) ?_
  refine fw_get (id := 0) (k := 3) (v := .ref (adr 4)) X hH (by decide) (fc_0 (by decide)) rfl inX7 (by decide) rfl tw_1_180 dX7_perform_21 ?_
  refine lv_iload_n hx hb dX7_perform_24 rfl (lv_at hl 3 rfl) ?_
  obtain ⟨w9, τ8, g7, hf⟩ := fw_b2s hf
  refine fw_ci hH (fw_rV (As := [.int x1]) (rest := []) (id := 4) X hH (kX4_letter  g7 _) qX4_letter tw_3_151 ⟨Nat.le_of_ble_eq_true rfl, Nat.le_of_ble_eq_true rfl⟩ rfl rfl (by decide) (fc_4 (by decide)) rfl rfl hl.1 rfl (Nat.le_of_ble_eq_true rfl) dX7_perform_25) (fun H locs hH => ?_)
  by_cases hc0 : w9 = (102 : Int32)
  · have hf := fw_pos hc0 hf
    refine lv_lookup (off := 78) (tgt := 106) hx hb dX7_perform_28 (by decide) (by rw [hc0]; decide) (by decide) ?_
    refine lv_aload_n hx hb dX7_perform_106 rfl (lv_at hl 2 rfl) ?_
    refine fw_get (id := 0) (k := 1) (v := .ref (adr 12)) X hH (by decide) (fc_0 (by decide)) rfl inX7 (by decide) rfl tw_1_178 dX7_perform_107 ?_
    refine fw_getN (id := 12) (k := 2) (v := .ref (adr 17)) X hH (by decide) (fc_12 (by decide)) rfl inX5 (by decide) rfl nw_1_92 dX7_perform_110 ?_
    refine lv_iload_n hx hb dX7_perform_113 rfl (lv_at hl 1 rfl) ?_
    refine lv_iload_n hx hb dX7_perform_114 rfl (lv_at hl 0 rfl) ?_
    refine lv_aload_n hx hb dX7_perform_115 rfl (lv_at hl 2 rfl) ?_
    refine fw_get (id := 0) (k := 3) (v := .ref (adr 4)) X hH (by decide) (fc_0 (by decide)) rfl inX7 (by decide) rfl tw_1_180 dX7_perform_116 ?_
    refine lv_iload_n hx hb dX7_perform_119 rfl (lv_at hl 3 rfl) ?_
    refine lv_iconst (v := (2 : Int32)) hx hb dX7_perform_120 (by decide) ?_
    obtain ⟨w27, τ26, g25, hf⟩ := fw_b2s hf
    refine fw_ci hH (fw_rV (As := [.int x1, .int (2 : Int32)]) (rest := [.int w6, .int w3, .ref (adr 17)]) (id := 4) X hH (kX4_number  g25 _) qX4_number tw_3_147 ⟨Nat.le_of_ble_eq_true rfl, Nat.le_of_ble_eq_true rfl⟩ rfl rfl (by decide) (fc_4 (by decide)) rfl rfl hl.1 rfl (Nat.le_of_ble_eq_true rfl) dX7_perform_121) (fun H locs hH => ?_)
    refine lv_aload_n hx hb dX7_perform_124 rfl (lv_at hl 2 rfl) ?_
    refine fw_get (id := 0) (k := 3) (v := .ref (adr 4)) X hH (by decide) (fc_0 (by decide)) rfl inX7 (by decide) rfl tw_1_180 dX7_perform_125 ?_
    refine lv_iload_n hx hb dX7_perform_128 rfl (lv_at hl 3 rfl) ?_
    refine lv_iconst (v := (3 : Int32)) hx hb dX7_perform_129 (by decide) ?_
    obtain ⟨w30, τ29, g28, hf⟩ := fw_b2s hf
    refine fw_ci hH (fw_rV (As := [.int x1, .int (3 : Int32)]) (rest := [.int w27, .int w6, .int w3, .ref (adr 17)]) (id := 4) X hH (kX4_number  g28 _) qX4_number tw_3_147 ⟨Nat.le_of_ble_eq_true rfl, Nat.le_of_ble_eq_true rfl⟩ rfl rfl (by decide) (fc_4 (by decide)) rfl rfl hl.1 rfl (Nat.le_of_ble_eq_true rfl) dX7_perform_130) (fun H locs hH => ?_)
    obtain ⟨w33, τ32, g31, hf⟩ := fw_b2s hf
    refine fw_ci hH (fw_rV (As := [.int w3, .int w6, .int w27, .int w30]) (rest := []) (id := 17) X hH (kX0_insert (by unfold fw_FL; decide) g31 _) qX0_insert tw_2_46 ⟨Nat.le_of_ble_eq_true rfl, Nat.le_of_ble_eq_true rfl⟩ rfl rfl (by decide) (fc_15 (by decide)) rfl rfl hl.1 rfl (Nat.le_of_ble_eq_true rfl) dX7_perform_133) (fun H locs hH => ?_)
    obtain ⟨rfl, rfl⟩ := fw_s2 hf
    exact fw_reti X hH dX7_perform_136
  · have hf := fw_neg hc0 hf
    by_cases hc1 : w9 = (108 : Int32)
    · have hf := fw_pos hc1 hf
      refine lv_lookup (off := 52) (tgt := 80) hx hb dX7_perform_28 (by decide) (by rw [hc1]; decide) (by decide) ?_
      refine lv_aload_n hx hb dX7_perform_80 rfl (lv_at hl 2 rfl) ?_
      refine fw_get (id := 0) (k := 1) (v := .ref (adr 12)) X hH (by decide) (fc_0 (by decide)) rfl inX7 (by decide) rfl tw_1_178 dX7_perform_81 ?_
      refine fw_getN (id := 12) (k := 0) (v := .ref (adr 13)) X hH (by decide) (fc_12 (by decide)) rfl inX5 (by decide) rfl nw_1_85 dX7_perform_84 ?_
      refine lv_iload_n hx hb dX7_perform_87 rfl (lv_at hl 1 rfl) ?_
      refine lv_iload_n hx hb dX7_perform_88 rfl (lv_at hl 0 rfl) ?_
      obtain ⟨w24, τ23, g22, hf⟩ := fw_b2s hf
      refine fw_ci hH (fw_rV (As := [.int w3, .int w6]) (rest := []) (id := 13) X hH (kX2_insert (by unfold fw_PL; decide) g22 _) qX2_insert tw_1_220 ⟨Nat.le_of_ble_eq_true rfl, Nat.le_of_ble_eq_true rfl⟩ rfl rfl (by decide) (fc_13 (by decide)) rfl rfl hl.1 rfl (Nat.le_of_ble_eq_true rfl) dX7_perform_89) (fun H locs hH => ?_)
      obtain ⟨rfl, rfl⟩ := fw_s2 hf
      exact fw_reti X hH dX7_perform_92
    · have hf := fw_neg hc1 hf
      by_cases hc2 : w9 = (114 : Int32)
      · have hf := fw_pos hc2 hf
        refine lv_lookup (off := 65) (tgt := 93) hx hb dX7_perform_28 (by decide) (by rw [hc2]; decide) (by decide) ?_
        refine lv_aload_n hx hb dX7_perform_93 rfl (lv_at hl 2 rfl) ?_
        refine fw_get (id := 0) (k := 1) (v := .ref (adr 12)) X hH (by decide) (fc_0 (by decide)) rfl inX7 (by decide) rfl tw_1_178 dX7_perform_94 ?_
        refine fw_getN (id := 12) (k := 1) (v := .ref (adr 15)) X hH (by decide) (fc_12 (by decide)) rfl inX5 (by decide) rfl nw_1_88 dX7_perform_97 ?_
        refine lv_iload_n hx hb dX7_perform_100 rfl (lv_at hl 1 rfl) ?_
        refine lv_iload_n hx hb dX7_perform_101 rfl (lv_at hl 0 rfl) ?_
        obtain ⟨w21, τ20, g19, hf⟩ := fw_b2s hf
        refine fw_ci hH (fw_rV (As := [.int w3, .int w6]) (rest := []) (id := 15) X hH (kX2_insert (by unfold fw_PL; decide) g19 _) qX2_insert tw_1_220 ⟨Nat.le_of_ble_eq_true rfl, Nat.le_of_ble_eq_true rfl⟩ rfl rfl (by decide) (fc_13 (by decide)) rfl rfl hl.1 rfl (Nat.le_of_ble_eq_true rfl) dX7_perform_102) (fun H locs hH => ?_)
        obtain ⟨rfl, rfl⟩ := fw_s2 hf
        exact fw_reti X hH dX7_perform_105
      · have hf := fw_neg hc2 hf
        by_cases hc3 : w9 = (119 : Int32)
        · have hf := fw_pos hc3 hf
          refine lv_lookup (off := 121) (tgt := 149) hx hb dX7_perform_28 (by decide) (by rw [hc3]; decide) (by decide) ?_
          refine lv_aload_n hx hb dX7_perform_149 rfl (lv_at hl 2 rfl) ?_
          refine fw_get (id := 0) (k := 1) (v := .ref (adr 12)) X hH (by decide) (fc_0 (by decide)) rfl inX7 (by decide) rfl tw_1_178 dX7_perform_150 ?_
          refine fw_getN (id := 12) (k := 3) (v := .ref (adr 22)) X hH (by decide) (fc_12 (by decide)) rfl inX5 (by decide) rfl nw_1_95 dX7_perform_153 ?_
          refine lv_iload_n hx hb dX7_perform_156 rfl (lv_at hl 1 rfl) ?_
          refine lv_iload_n hx hb dX7_perform_157 rfl (lv_at hl 0 rfl) ?_
          obtain ⟨w18, τ17, g16, hf⟩ := fw_b2s hf
          refine fw_ci hH (fw_rV (As := [.int w3, .int w6]) (rest := []) (id := 22) X hH (kX2_insert (by unfold fw_PL; decide) g16 _) qX2_insert tw_1_220 ⟨Nat.le_of_ble_eq_true rfl, Nat.le_of_ble_eq_true rfl⟩ rfl rfl (by decide) (fc_13 (by decide)) rfl rfl hl.1 rfl (Nat.le_of_ble_eq_true rfl) dX7_perform_158) (fun H locs hH => ?_)
          obtain ⟨rfl, rfl⟩ := fw_s2 hf
          exact fw_reti X hH dX7_perform_161
        · have hf := fw_neg hc3 hf
          by_cases hc4 : w9 = (120 : Int32)
          · have hf := fw_pos hc4 hf
            refine lv_lookup (off := 109) (tgt := 137) hx hb dX7_perform_28 (by decide) (by rw [hc4]; decide) (by decide) ?_
            refine lv_aload_n hx hb dX7_perform_137 rfl (lv_at hl 2 rfl) ?_
            refine fw_get (id := 0) (k := 1) (v := .ref (adr 12)) X hH (by decide) (fc_0 (by decide)) rfl inX7 (by decide) rfl tw_1_178 dX7_perform_138 ?_
            refine fw_getN (id := 12) (k := 2) (v := .ref (adr 17)) X hH (by decide) (fc_12 (by decide)) rfl inX5 (by decide) rfl nw_1_92 dX7_perform_141 ?_
            refine lv_iload_n hx hb dX7_perform_144 rfl (lv_at hl 1 rfl) ?_
            obtain ⟨w15, τ14, g13, hf⟩ := fw_b2s hf
            refine fw_ci hH (fw_rV (As := [.int w3]) (rest := []) (id := 17) X hH (kX0_drop (by unfold fw_FL; decide) g13 _) qX0_drop tw_2_61 ⟨Nat.le_of_ble_eq_true rfl, Nat.le_of_ble_eq_true rfl⟩ rfl rfl (by decide) (fc_15 (by decide)) rfl rfl hl.1 rfl (Nat.le_of_ble_eq_true rfl) dX7_perform_145) (fun H locs hH => ?_)
            obtain ⟨rfl, rfl⟩ := fw_s2 hf
            exact fw_reti X hH dX7_perform_148
          · have hf := fw_neg hc4 hf
            refine lv_lookup (off := 134) (tgt := 162) hx hb dX7_perform_28 (by decide) (by exact (lv_osw hc0 (by decide)).trans ((lv_osw hc1 (by decide)).trans ((lv_osw hc2 (by decide)).trans ((lv_osw hc3 (by decide)).trans ((lv_osw hc4 (by decide))))))) (by decide) ?_
            refine lv_aload_n hx hb dX7_perform_162 rfl (lv_at hl 2 rfl) ?_
            refine fw_get (id := 0) (k := 1) (v := .ref (adr 12)) X hH (by decide) (fc_0 (by decide)) rfl inX7 (by decide) rfl tw_1_178 dX7_perform_163 ?_
            refine fw_getN (id := 12) (k := 3) (v := .ref (adr 22)) X hH (by decide) (fc_12 (by decide)) rfl inX5 (by decide) rfl nw_1_95 dX7_perform_166 ?_
            obtain ⟨w12, τ11, g10, hf⟩ := fw_b2s hf
            refine fw_ci hH (fw_rV (As := []) (rest := []) (id := 22) X hH (kX2_dropAll (by unfold fw_PL; decide) g10 _) qX2_dropAll tw_3_63 ⟨Nat.le_of_ble_eq_true rfl, Nat.le_of_ble_eq_true rfl⟩ rfl rfl (by decide) (fc_13 (by decide)) rfl rfl hl.1 rfl (Nat.le_of_ble_eq_true rfl) dX7_perform_169) (fun H locs hH => ?_)
            obtain ⟨rfl, rfl⟩ := fw_s2 hf
            exact fw_reti X hH dX7_perform_172
abbrev rmX1_returnToDraft : Room := { frames := 3, cells := 0, slots := 0, locals := 68 }
theorem qX1_returnToDraft : fw_QV RX1 yX1_returnToDraft cX1_returnToDraft 2 none 1 := ⟨⟨tw_3_156, tw_3_157, tw_1_7, tw_3_158⟩, by decide +kernel⟩
def pX1_returnToDraft (h2 : Nat) (σ : fw_T) : Option (fw_T) :=
  (fw_ix (fw_g σ 2 1) 6).bind fun k1 =>
  (pX5_copyFrom h2 (24 + 12 * k1) σ).bind fun τ4 =>
  some τ4
set_option maxRecDepth 100000 in
set_option maxHeartbeats 4000000 in
theorem kX1_returnToDraft {h2 : Nat} (hk2 : fw_ST h2) {σ σ' : fw_T} (hf : pX1_returnToDraft h2 σ = some σ') : fw_Cv l yX1_returnToDraft (Cond.code yX1_returnToDraft cX1_returnToDraft 2 none :: lwT) rmX1_returnToDraft [.ref (adr 2), .ref (adr h2)] D 96 adr (fw_C cI cO adr) (fcT cI cO) nwC σ σ' := by
  refine fw_start (Qc := (fun A => va_Qv (fun (_ : Unit) => True) (fun _ t => va_P D vwCl (fw_ws 96 adr (fw_C cI cO adr σ')) t.heap) A)) (by decide) (by simp [lg_sl, Value.category]) rfl ?_
  intro p e s m below meth c A X hH ls hl
  have hx := X.1.1
  have hb := X.1.2.1
  have hl : lv_has ls 2 [(0, .ref (adr 2)), (1, .ref (adr h2))] := hl
  unfold pX1_returnToDraft at hf
  refine lv_aload_n hx hb dX1_returnToDraft_0 rfl (lv_at hl 1 rfl) ?_
  refine lv_aload_n hx hb dX1_returnToDraft_1 rfl (lv_at hl 0 rfl) ?_
  refine fw_get (id := 2) (k := 0) (v := .ref (adr 3)) X hH (by decide) (fc_2 (by decide)) rfl inX1 (by decide) rfl tw_1_126 dX1_returnToDraft_2 ?_
  refine lv_aload_n hx hb dX1_returnToDraft_5 rfl (lv_at hl 0 rfl) ?_
  refine fw_get (id := 2) (k := 1) (v := .int (fw_g σ 2 1)) X hH (by decide) (fc_2 (by decide)) rfl inX1 (by decide) rfl tw_1_127 dX1_returnToDraft_6 ?_
  obtain ⟨k1, g2, hf⟩ := fw_bd hf
  refine fw_aald (id := 3) (n := 6) (f := fun j => 24 + 12 * j) X hH (by decide) (fc_3 (by decide)) rfl g2 dX1_returnToDraft_9 ?_
  obtain ⟨τ4, g3, hf⟩ := fw_bd hf
  refine fw_cv hH (fw_rV (As := [.ref (adr (24 + 12 * k1))]) (rest := []) (id := h2) X hH (kX5_copyFrom hk2 (fw_slot (fw_ixs g2).2.2) g3 _) qX5_copyFrom tw_1_204 ⟨Nat.le_of_ble_eq_true rfl, Nat.le_of_ble_eq_true rfl⟩ rfl rfl hk2.2.1 (fc_12 hk2.1) rfl rfl hl.1 rfl (Nat.le_of_ble_eq_true rfl) dX1_returnToDraft_10) (fun H locs hH => ?_)
  obtain rfl := Option.some.inj hf
  exact fw_retv X hH dX1_returnToDraft_13
abbrev rmX7_runScript : Room := { frames := 4, cells := 0, slots := 0, locals := 90 }
theorem qX7_runScript : fw_QV RX7 yX7_runScript cX7_runScript 2 (some .int) 0 := ⟨⟨tw_3_114, tw_3_115, tw_1_1, tw_3_116⟩, by decide +kernel⟩
def pX7_runScript_34 : Nat → Int32 → fw_T → Option (Int32 × fw_T)
  | 0, _, _ => none
  | n + 1, x1, σ =>
    if (fw_g σ 4 3) ≤ x1 then
      (pX1_keepDraft σ).bind fun τ7 =>
      some ((fw_g τ7 4 3), τ7)
    else
      fw_b2 (pX7_perform x1 σ) fun w10 τ9 =>
      fw_b2 (pX7_isError w10 τ9) fun w13 τ12 =>
      if w13 = 0 then
        pX7_runScript_34 n (x1 + (1 : Int32)) τ12
      else
        (pX1_returnToDraft 12 τ12).bind fun τ15 =>
        some (((-1000 : Int32) - x1), τ15)
set_option maxRecDepth 100000 in
set_option maxHeartbeats 4000000 in
theorem wX7_runScript_34 {args : Array Value} {r : Int32} {σ' : fw_T} (X : fcX p m c cX7_runScript 2 s args RX7 meth (some .int) D cI cO)  : ∀ (n : Nat), ∀ (x1 : Int32), ∀ (σ : fw_T), pX7_runScript_34 n x1 σ = some (r, σ') → ∀ (H : Heap) (locs : List Loc) (ls : Array Slot), fcH D cI cO adr A s H locs σ → lv_has ls 2 [(0, .ref (adr 0)), (1, .int x1)] → W p l e rmX7_runScript s m args below meth c H locs 0 0 (fw_Qi D 96 adr (fw_C cI cO adr) A below args s r σ') (F0 m 34 ls []) := by
  have hx := X.1.1
  have hb := X.1.2.1
  intro n
  induction n with
  | zero =>
    intro x1 σ hf
    exact absurd hf (by simp [pX7_runScript_34])
  | succ n ih =>
    intro x1 σ hf H locs ls hH hl
    rw [pX7_runScript_34] at hf
    refine lv_iload_n hx hb dX7_runScript_34 rfl (lv_at hl 1 rfl) ?_
    refine lv_aload_n hx hb dX7_runScript_35 rfl (lv_at hl 0 rfl) ?_
    refine fw_get (id := 0) (k := 3) (v := .ref (adr 4)) X hH (by decide) (fc_0 (by decide)) rfl inX7 (by decide) rfl tw_1_180 dX7_runScript_36 ?_
    refine fw_getN (id := 4) (k := 3) (v := .int (fw_g σ 4 3)) X hH (by decide) (fc_4 (by decide)) rfl inX4 (by decide) rfl nw_1_163 dX7_runScript_39 ?_
    refine lv_icmp_ge (tgt := 79) hx hb dX7_runScript_42 (by decide) (fun hc => ?_) (fun hc => ?_)
    · have hf := fw_pos hc hf
      refine lv_aload_n hx hb dX7_runScript_79 rfl (lv_at hl 0 rfl) ?_
      refine fw_get (id := 0) (k := 2) (v := .ref (adr 2)) X hH (by decide) (fc_0 (by decide)) rfl inX7 (by decide) rfl tw_1_179 dX7_runScript_80 ?_
      obtain ⟨τ7, g6, hf⟩ := fw_bd hf
      refine fw_cv hH (fw_rV (As := []) (rest := []) (id := 2) X hH (kX1_keepDraft  g6 _) qX1_keepDraft tw_2_5 ⟨Nat.le_of_ble_eq_true rfl, Nat.le_of_ble_eq_true rfl⟩ rfl rfl (by decide) (fc_2 (by decide)) rfl rfl hl.1 rfl (Nat.le_of_ble_eq_true rfl) dX7_runScript_83) (fun H locs hH => ?_)
      refine lv_aload_n hx hb dX7_runScript_86 rfl (lv_at hl 0 rfl) ?_
      refine fw_get (id := 0) (k := 3) (v := .ref (adr 4)) X hH (by decide) (fc_0 (by decide)) rfl inX7 (by decide) rfl tw_1_180 dX7_runScript_87 ?_
      refine fw_getN (id := 4) (k := 3) (v := .int (fw_g τ7 4 3)) X hH (by decide) (fc_4 (by decide)) rfl inX4 (by decide) rfl nw_1_163 dX7_runScript_90 ?_
      obtain ⟨rfl, rfl⟩ := fw_s2 hf
      exact fw_reti X hH dX7_runScript_93
    · have hf := fw_neg hc hf
      refine lv_aload_n hx hb dX7_runScript_45 rfl (lv_at hl 0 rfl) ?_
      refine lv_iload_n hx hb dX7_runScript_46 rfl (lv_at hl 1 rfl) ?_
      obtain ⟨w10, τ9, g8, hf⟩ := fw_b2s hf
      refine fw_ci hH (fw_rV (As := [.int x1]) (rest := []) (id := 0) X hH (kX7_perform  g8 _) qX7_perform tw_3_143 ⟨Nat.le_of_ble_eq_true rfl, Nat.le_of_ble_eq_true rfl⟩ rfl rfl (by decide) (fc_0 (by decide)) rfl rfl hl.1 rfl (Nat.le_of_ble_eq_true rfl) dX7_runScript_47) (fun H locs hH => ?_)
      obtain ⟨w13, τ12, g11, hf⟩ := fw_b2s hf
      refine fw_ci hH (fw_rS (As := [.int w10]) (rest := []) X hH (kX7_isError  g11 _) qX7_isError tw_2_2 ⟨Nat.le_of_ble_eq_true rfl, Nat.le_of_ble_eq_true rfl⟩ rfl rfl rfl hl.1 rfl (Nat.le_of_ble_eq_true rfl) dX7_runScript_50) (fun H locs hH => ?_)
      refine lv_if_eq (tgt := 73) hx hb dX7_runScript_53 (by decide) (fun hc => ?_) (fun hc => ?_)
      · have hf := fw_pos hc hf
        refine lv_iinc (v := (x1 + (1 : Int32))) (lv' := [(1, .int (x1 + (1 : Int32))), (0, .ref (adr 0))]) hx hb dX7_runScript_73 hl (k := 1) rfl rfl (by decide) rfl (fun ls hl => ?_)
        refine lv_goto (tgt := 34) hx hb dX7_runScript_76 (by decide) ?_
        exact ih (x1 + (1 : Int32)) τ12 hf _ _ _ hH (lv_sub hl [1, 0] rfl)
      · have hf := fw_neg hc hf
        refine lv_aload_n hx hb dX7_runScript_56 rfl (lv_at hl 0 rfl) ?_
        refine fw_get (id := 0) (k := 2) (v := .ref (adr 2)) X hH (by decide) (fc_0 (by decide)) rfl inX7 (by decide) rfl tw_1_179 dX7_runScript_57 ?_
        refine lv_aload_n hx hb dX7_runScript_60 rfl (lv_at hl 0 rfl) ?_
        refine fw_get (id := 0) (k := 1) (v := .ref (adr 12)) X hH (by decide) (fc_0 (by decide)) rfl inX7 (by decide) rfl tw_1_178 dX7_runScript_61 ?_
        obtain ⟨τ15, g14, hf⟩ := fw_bd hf
        refine fw_cv hH (fw_rV (As := [.ref (adr 12)]) (rest := []) (id := 2) X hH (kX1_returnToDraft (by unfold fw_ST fw_PL fw_FL; decide) g14 _) qX1_returnToDraft tw_3_155 ⟨Nat.le_of_ble_eq_true rfl, Nat.le_of_ble_eq_true rfl⟩ rfl rfl (by decide) (fc_2 (by decide)) rfl rfl hl.1 rfl (Nat.le_of_ble_eq_true rfl) dX7_runScript_64) (fun H locs hH => ?_)
        refine lv_sipush (v := (-1000 : Int32)) hx hb dX7_runScript_67 (by decide) ?_
        refine lv_iload_n hx hb dX7_runScript_70 rfl (lv_at hl 1 rfl) ?_
        refine lv_isub hx hb dX7_runScript_71 ?_
        obtain ⟨rfl, rfl⟩ := fw_s2 hf
        exact fw_reti X hH dX7_runScript_72
def pX7_runScript (σ : fw_T) : Option (Int32 × fw_T) :=
  fw_b2 (pX4_parse σ) fun w3 τ2 =>
  if w3 = 0 then
    some (((-10 : Int32) - (fw_g τ2 4 4)), τ2)
  else
    (pX1_draft 12 τ2).bind fun τ5 =>
    pX7_runScript_34 400 (0 : Int32) τ5
set_option maxRecDepth 100000 in
set_option maxHeartbeats 4000000 in
theorem kX7_runScript {r : Int32} {σ σ' : fw_T} (hf : pX7_runScript σ = some (r, σ')) : fw_Ci l yX7_runScript (Cond.code yX7_runScript cX7_runScript 2 (some .int) :: lwT) rmX7_runScript [.ref (adr 0)] D 96 adr (fw_C cI cO adr) (fcT cI cO) nwC σ r σ' := by
  refine fw_start (Qc := (fun A => va_Qi (fun r' (_ : Unit) => r' = r) (fun _ t => va_P D vwCl (fw_ws 96 adr (fw_C cI cO adr σ')) t.heap) A)) (by decide) (by simp [lg_sl, Value.category]) rfl ?_
  intro p e s m below meth c A X hH ls hl
  have hx := X.1.1
  have hb := X.1.2.1
  have hl : lv_has ls 2 [(0, .ref (adr 0))] := hl
  unfold pX7_runScript at hf
  refine lv_aload_n hx hb dX7_runScript_0 rfl (lv_at hl 0 rfl) ?_
  refine fw_get (id := 0) (k := 3) (v := .ref (adr 4)) X hH (by decide) (fc_0 (by decide)) rfl inX7 (by decide) rfl tw_1_180 dX7_runScript_1 ?_
  obtain ⟨w3, τ2, g1, hf⟩ := fw_b2s hf
  refine fw_ci hH (fw_rV (As := []) (rest := []) (id := 4) X hH (kX4_parse  g1 _) qX4_parse tw_3_117 ⟨Nat.le_of_ble_eq_true rfl, Nat.le_of_ble_eq_true rfl⟩ rfl rfl (by decide) (fc_4 (by decide)) rfl rfl hl.1 rfl (Nat.le_of_ble_eq_true rfl) dX7_runScript_4) (fun H locs hH => ?_)
  refine lv_if_ne (tgt := 21) hx hb dX7_runScript_7 (by decide) (fun hc => ?_) (fun hc => ?_)
  · have hf := fw_neg hc hf
    refine lv_aload_n hx hb dX7_runScript_21 rfl (lv_at hl 0 rfl) ?_
    refine fw_get (id := 0) (k := 2) (v := .ref (adr 2)) X hH (by decide) (fc_0 (by decide)) rfl inX7 (by decide) rfl tw_1_179 dX7_runScript_22 ?_
    refine lv_aload_n hx hb dX7_runScript_25 rfl (lv_at hl 0 rfl) ?_
    refine fw_get (id := 0) (k := 1) (v := .ref (adr 12)) X hH (by decide) (fc_0 (by decide)) rfl inX7 (by decide) rfl tw_1_178 dX7_runScript_26 ?_
    obtain ⟨τ5, g4, hf⟩ := fw_bd hf
    refine fw_cv hH (fw_rV (As := [.ref (adr 12)]) (rest := []) (id := 2) X hH (kX1_draft (by unfold fw_ST fw_PL fw_FL; decide) g4 _) qX1_draft tw_1_200 ⟨Nat.le_of_ble_eq_true rfl, Nat.le_of_ble_eq_true rfl⟩ rfl rfl (by decide) (fc_2 (by decide)) rfl rfl hl.1 rfl (Nat.le_of_ble_eq_true rfl) dX7_runScript_29) (fun H locs hH => ?_)
    refine lv_iconst (v := (0 : Int32)) hx hb dX7_runScript_32 (by decide) ?_
    refine lv_istore_n (lv' := [(1, .int (0 : Int32)), (0, .ref (adr 0))]) hx hb dX7_runScript_33 rfl hl (by decide) rfl (fun ls hl => ?_)
    exact wX7_runScript_34 X 400 (0 : Int32) τ5 hf _ _ _ hH (lv_sub hl [1, 0] rfl)
  · have hf := fw_pos hc hf
    refine lv_bipush (v := (-10 : Int32)) hx hb dX7_runScript_10 (by decide) ?_
    refine lv_aload_n hx hb dX7_runScript_12 rfl (lv_at hl 0 rfl) ?_
    refine fw_get (id := 0) (k := 3) (v := .ref (adr 4)) X hH (by decide) (fc_0 (by decide)) rfl inX7 (by decide) rfl tw_1_180 dX7_runScript_13 ?_
    refine fw_getN (id := 4) (k := 4) (v := .int (fw_g τ2 4 4)) X hH (by decide) (fc_4 (by decide)) rfl inX4 (by decide) rfl nw_1_165 dX7_runScript_16 ?_
    refine lv_isub hx hb dX7_runScript_19 ?_
    obtain ⟨rfl, rfl⟩ := fw_s2 hf
    exact fw_reti X hH dX7_runScript_20
abbrev rmX1_stepBack : Room := { frames := 4, cells := 0, slots := 0, locals := 89 }
theorem qX1_stepBack : fw_QV RX1 yX1_stepBack cX1_stepBack 2 (some .int) 1 := ⟨⟨tw_3_164, tw_3_165, tw_1_7, tw_3_166⟩, by decide +kernel⟩
def pX1_stepBack (h2 : Nat) (σ : fw_T) : Option (Int32 × fw_T) :=
  if (fw_g σ 2 2) = 0 then
    some ((-10003 : Int32), σ)
  else
    (pX1_returnToDraft h2 (fw_u (fw_u σ 2 1 ((((fw_g σ 2 1) + (6 : Int32)) - (1 : Int32)) - (((fw_g σ 2 1) + (6 : Int32)) - (1 : Int32)) / (6 : Int32) * (6 : Int32))) 2 2 ((fw_g (fw_u σ 2 1 ((((fw_g σ 2 1) + (6 : Int32)) - (1 : Int32)) - (((fw_g σ 2 1) + (6 : Int32)) - (1 : Int32)) / (6 : Int32) * (6 : Int32))) 2 2) - (1 : Int32)))).bind fun τ2 =>
    some ((fw_g τ2 2 2), τ2)
set_option maxRecDepth 100000 in
set_option maxHeartbeats 4000000 in
theorem kX1_stepBack {h2 : Nat} (hk2 : fw_ST h2) {r : Int32} {σ σ' : fw_T} (hf : pX1_stepBack h2 σ = some (r, σ')) : fw_Ci l yX1_stepBack (Cond.code yX1_stepBack cX1_stepBack 2 (some .int) :: lwT) rmX1_stepBack [.ref (adr 2), .ref (adr h2)] D 96 adr (fw_C cI cO adr) (fcT cI cO) nwC σ r σ' := by
  refine fw_start (Qc := (fun A => va_Qi (fun r' (_ : Unit) => r' = r) (fun _ t => va_P D vwCl (fw_ws 96 adr (fw_C cI cO adr σ')) t.heap) A)) (by decide) (by simp [lg_sl, Value.category]) rfl ?_
  intro p e s m below meth c A X hH ls hl
  have hx := X.1.1
  have hb := X.1.2.1
  have hl : lv_has ls 2 [(0, .ref (adr 2)), (1, .ref (adr h2))] := hl
  unfold pX1_stepBack at hf
  refine lv_aload_n hx hb dX1_stepBack_0 rfl (lv_at hl 0 rfl) ?_
  refine fw_get (id := 2) (k := 2) (v := .int (fw_g σ 2 2)) X hH (by decide) (fc_2 (by decide)) rfl inX1 (by decide) rfl tw_1_128 dX1_stepBack_1 ?_
  refine lv_if_ne (tgt := 11) hx hb dX1_stepBack_4 (by decide) (fun hc => ?_) (fun hc => ?_)
  · have hf := fw_neg hc hf
    refine lv_aload_n hx hb dX1_stepBack_11 rfl (lv_at hl 0 rfl) ?_
    refine lv_aload_n hx hb dX1_stepBack_12 rfl (lv_at hl 0 rfl) ?_
    refine fw_get (id := 2) (k := 1) (v := .int (fw_g σ 2 1)) X hH (by decide) (fc_2 (by decide)) rfl inX1 (by decide) rfl tw_1_127 dX1_stepBack_13 ?_
    refine lv_bipush (v := (6 : Int32)) hx hb dX1_stepBack_16 (by decide) ?_
    refine lv_iadd hx hb dX1_stepBack_18 ?_
    refine lv_iconst (v := (1 : Int32)) hx hb dX1_stepBack_19 (by decide) ?_
    refine lv_isub hx hb dX1_stepBack_20 ?_
    refine lv_bipush (v := (6 : Int32)) hx hb dX1_stepBack_21 (by decide) ?_
    refine lv_irem hx hb dX1_stepBack_23 (by decide) ?_
    refine fw_put (id := 2) (k := 1) (v := .int ((((fw_g σ 2 1) + (6 : Int32)) - (1 : Int32)) - (((fw_g σ 2 1) + (6 : Int32)) - (1 : Int32)) / (6 : Int32) * (6 : Int32))) (ty := .int) (σ' := (fw_u σ 2 1 ((((fw_g σ 2 1) + (6 : Int32)) - (1 : Int32)) - (((fw_g σ 2 1) + (6 : Int32)) - (1 : Int32)) / (6 : Int32) * (6 : Int32)))) X hH (by decide) (fc_2 (by decide)) (fp_2_1 (by decide)) (fun j h => fc_ne h) rfl inX1 tyX1 tyX1_ok nmX1 (by decide) (Nat.le_of_ble_eq_true rfl) rfl (by decide +kernel) rfl rfl tw_1_127 dX1_stepBack_24 (fun H locs hH => ?_)
    refine lv_aload_n hx hb dX1_stepBack_27 rfl (lv_at hl 0 rfl) ?_
    refine lv_dup hx hb dX1_stepBack_28 rfl ?_
    refine fw_get (id := 2) (k := 2) (v := .int (fw_g (fw_u σ 2 1 ((((fw_g σ 2 1) + (6 : Int32)) - (1 : Int32)) - (((fw_g σ 2 1) + (6 : Int32)) - (1 : Int32)) / (6 : Int32) * (6 : Int32))) 2 2)) X hH (by decide) (fc_2 (by decide)) rfl inX1 (by decide) rfl tw_1_128 dX1_stepBack_29 ?_
    refine lv_iconst (v := (1 : Int32)) hx hb dX1_stepBack_32 (by decide) ?_
    refine lv_isub hx hb dX1_stepBack_33 ?_
    refine fw_put (id := 2) (k := 2) (v := .int ((fw_g (fw_u σ 2 1 ((((fw_g σ 2 1) + (6 : Int32)) - (1 : Int32)) - (((fw_g σ 2 1) + (6 : Int32)) - (1 : Int32)) / (6 : Int32) * (6 : Int32))) 2 2) - (1 : Int32))) (ty := .int) (σ' := (fw_u (fw_u σ 2 1 ((((fw_g σ 2 1) + (6 : Int32)) - (1 : Int32)) - (((fw_g σ 2 1) + (6 : Int32)) - (1 : Int32)) / (6 : Int32) * (6 : Int32))) 2 2 ((fw_g (fw_u σ 2 1 ((((fw_g σ 2 1) + (6 : Int32)) - (1 : Int32)) - (((fw_g σ 2 1) + (6 : Int32)) - (1 : Int32)) / (6 : Int32) * (6 : Int32))) 2 2) - (1 : Int32)))) X hH (by decide) (fc_2 (by decide)) (fp_2_2 (by decide)) (fun j h => fc_ne h) rfl inX1 tyX1 tyX1_ok nmX1 (by decide) (Nat.le_of_ble_eq_true rfl) rfl (by decide +kernel) rfl rfl tw_1_128 dX1_stepBack_34 (fun H locs hH => ?_)
    refine lv_aload_n hx hb dX1_stepBack_37 rfl (lv_at hl 0 rfl) ?_
    refine lv_aload_n hx hb dX1_stepBack_38 rfl (lv_at hl 1 rfl) ?_
    obtain ⟨τ2, g1, hf⟩ := fw_bd hf
    refine fw_cv hH (fw_rV (As := [.ref (adr h2)]) (rest := []) (id := 2) X hH (kX1_returnToDraft hk2 g1 _) qX1_returnToDraft tw_3_167 ⟨Nat.le_of_ble_eq_true rfl, Nat.le_of_ble_eq_true rfl⟩ rfl rfl (by decide) (fc_2 (by decide)) rfl rfl hl.1 rfl (Nat.le_of_ble_eq_true rfl) dX1_stepBack_39) (fun H locs hH => ?_)
    refine lv_aload_n hx hb dX1_stepBack_42 rfl (lv_at hl 0 rfl) ?_
    refine fw_get (id := 2) (k := 2) (v := .int (fw_g τ2 2 2)) X hH (by decide) (fc_2 (by decide)) rfl inX1 (by decide) rfl tw_1_128 dX1_stepBack_43 ?_
    obtain ⟨rfl, rfl⟩ := fw_s2 hf
    exact fw_reti X hH dX1_stepBack_46
  · have hf := fw_pos hc hf
    refine lv_sipush (v := (-10003 : Int32)) hx hb dX1_stepBack_7 (by decide) ?_
    obtain ⟨rfl, rfl⟩ := fw_s2 hf
    exact fw_reti X hH dX1_stepBack_10
abbrev rmX7_undo : Room := { frames := 5, cells := 0, slots := 0, locals := 110 }
theorem qX7_undo : fw_QV RX7 yX7_undo cX7_undo 1 (some .int) 0 := ⟨⟨tw_3_160, tw_3_161, tw_1_1, tw_3_162⟩, by decide +kernel⟩
def pX7_undo (σ : fw_T) : Option (Int32 × fw_T) :=
  fw_b2 (pX1_stepBack 12 σ) fun w3 τ2 =>
  fw_b2 (pX7_report w3 τ2) fun w6 τ5 =>
  some (w6, τ5)
set_option maxRecDepth 100000 in
set_option maxHeartbeats 4000000 in
theorem kX7_undo {r : Int32} {σ σ' : fw_T} (hf : pX7_undo σ = some (r, σ')) : fw_Ci l yX7_undo (Cond.code yX7_undo cX7_undo 1 (some .int) :: lwT) rmX7_undo [.ref (adr 0)] D 96 adr (fw_C cI cO adr) (fcT cI cO) nwC σ r σ' := by
  refine fw_start (Qc := (fun A => va_Qi (fun r' (_ : Unit) => r' = r) (fun _ t => va_P D vwCl (fw_ws 96 adr (fw_C cI cO adr σ')) t.heap) A)) (by decide) (by simp [lg_sl, Value.category]) rfl ?_
  intro p e s m below meth c A X hH ls hl
  have hx := X.1.1
  have hb := X.1.2.1
  have hl : lv_has ls 1 [(0, .ref (adr 0))] := hl
  unfold pX7_undo at hf
  refine lv_aload_n hx hb dX7_undo_0 rfl (lv_at hl 0 rfl) ?_
  refine lv_aload_n hx hb dX7_undo_1 rfl (lv_at hl 0 rfl) ?_
  refine fw_get (id := 0) (k := 2) (v := .ref (adr 2)) X hH (by decide) (fc_0 (by decide)) rfl inX7 (by decide) rfl tw_1_179 dX7_undo_2 ?_
  refine lv_aload_n hx hb dX7_undo_5 rfl (lv_at hl 0 rfl) ?_
  refine fw_get (id := 0) (k := 1) (v := .ref (adr 12)) X hH (by decide) (fc_0 (by decide)) rfl inX7 (by decide) rfl tw_1_178 dX7_undo_6 ?_
  obtain ⟨w3, τ2, g1, hf⟩ := fw_b2s hf
  refine fw_ci hH (fw_rV (As := [.ref (adr 12)]) (rest := [.ref (adr 0)]) (id := 2) X hH (kX1_stepBack (by unfold fw_ST fw_PL fw_FL; decide) g1 _) qX1_stepBack tw_3_163 ⟨Nat.le_of_ble_eq_true rfl, Nat.le_of_ble_eq_true rfl⟩ rfl rfl (by decide) (fc_2 (by decide)) rfl rfl hl.1 rfl (Nat.le_of_ble_eq_true rfl) dX7_undo_9) (fun H locs hH => ?_)
  obtain ⟨w6, τ5, g4, hf⟩ := fw_b2s hf
  refine fw_ci hH (fw_rV (As := [.int w3]) (rest := []) (id := 0) X hH (kX7_report  g4 _) qX7_report tw_2_10 ⟨Nat.le_of_ble_eq_true rfl, Nat.le_of_ble_eq_true rfl⟩ rfl rfl (by decide) (fc_0 (by decide)) rfl rfl hl.1 rfl (Nat.le_of_ble_eq_true rfl) dX7_undo_12) (fun H locs hH => ?_)
  obtain ⟨rfl, rfl⟩ := fw_s2 hf
  exact fw_reti X hH dX7_undo_15
abbrev rmX7_errorCount : Room := { frames := 2, cells := 0, slots := 0, locals := 41 }
theorem qX7_errorCount : fw_QV RX7 yX7_errorCount cX7_errorCount 2 (some .int) 1 := ⟨⟨tw_3_169, tw_3_170, tw_1_1, tw_3_171⟩, by decide +kernel⟩
def pX7_errorCount (x1 : Int32) (σ : fw_T) : Option (Int32 × fw_T) :=
  if x1 < 0 then
    fw_b2 (pX7_report (-10002 : Int32) σ) fun w3 τ2 =>
    some (w3, τ2)
  else
    if x1 < (3 : Int32) then
      (fw_rd σ 9 3 x1).bind fun w4 =>
      some (w4, σ)
    else
      fw_b2 (pX7_report (-10002 : Int32) σ) fun w8 τ7 =>
      some (w8, τ7)
set_option maxRecDepth 100000 in
set_option maxHeartbeats 4000000 in
theorem kX7_errorCount {x1 : Int32} {r : Int32} {σ σ' : fw_T} (hf : pX7_errorCount x1 σ = some (r, σ')) : fw_Ci l yX7_errorCount (Cond.code yX7_errorCount cX7_errorCount 2 (some .int) :: lwT) rmX7_errorCount [.ref (adr 0), .int x1] D 96 adr (fw_C cI cO adr) (fcT cI cO) nwC σ r σ' := by
  refine fw_start (Qc := (fun A => va_Qi (fun r' (_ : Unit) => r' = r) (fun _ t => va_P D vwCl (fw_ws 96 adr (fw_C cI cO adr σ')) t.heap) A)) (by decide) (by simp [lg_sl, Value.category]) rfl ?_
  intro p e s m below meth c A X hH ls hl
  have hx := X.1.1
  have hb := X.1.2.1
  have hl : lv_has ls 2 [(0, .ref (adr 0)), (1, .int x1)] := hl
  unfold pX7_errorCount at hf
  refine lv_iload_n hx hb dX7_errorCount_0 rfl (lv_at hl 1 rfl) ?_
  refine lv_if_lt (tgt := 9) hx hb dX7_errorCount_1 (by decide) (fun hc => ?_) (fun hc => ?_)
  · have hf := fw_pos hc hf
    refine lv_aload_n hx hb dX7_errorCount_9 rfl (lv_at hl 0 rfl) ?_
    refine lv_sipush (v := (-10002 : Int32)) hx hb dX7_errorCount_10 (by decide) ?_
    obtain ⟨w3, τ2, g1, hf⟩ := fw_b2s hf
    refine fw_ci hH (fw_rV (As := [.int (-10002 : Int32)]) (rest := []) (id := 0) X hH (kX7_report  g1 _) qX7_report tw_2_10 ⟨Nat.le_of_ble_eq_true rfl, Nat.le_of_ble_eq_true rfl⟩ rfl rfl (by decide) (fc_0 (by decide)) rfl rfl hl.1 rfl (Nat.le_of_ble_eq_true rfl) dX7_errorCount_13) (fun H locs hH => ?_)
    obtain ⟨rfl, rfl⟩ := fw_s2 hf
    exact fw_reti X hH dX7_errorCount_16
  · have hf := fw_neg hc hf
    refine lv_iload_n hx hb dX7_errorCount_4 rfl (lv_at hl 1 rfl) ?_
    refine lv_iconst (v := (3 : Int32)) hx hb dX7_errorCount_5 (by decide) ?_
    refine lv_icmp_lt (tgt := 17) hx hb dX7_errorCount_6 (by decide) (fun hc => ?_) (fun hc => ?_)
    · have hf := fw_pos hc hf
      refine lv_aload_n hx hb dX7_errorCount_17 rfl (lv_at hl 0 rfl) ?_
      refine fw_get (id := 0) (k := 5) (v := .ref (adr 9)) X hH (by decide) (fc_0 (by decide)) rfl inX7 (by decide) rfl tw_1_182 dX7_errorCount_18 ?_
      refine lv_iload_n hx hb dX7_errorCount_21 rfl (lv_at hl 1 rfl) ?_
      obtain ⟨w4, g5, hf⟩ := fw_bd hf
      refine fw_iald (id := 9) (n := 3) X hH (by decide) (fc_9 (by decide)) rfl g5 dX7_errorCount_22 ?_
      obtain ⟨rfl, rfl⟩ := fw_s2 hf
      exact fw_reti X hH dX7_errorCount_23
    · have hf := fw_neg hc hf
      refine lv_aload_n hx hb dX7_errorCount_9 rfl (lv_at hl 0 rfl) ?_
      refine lv_sipush (v := (-10002 : Int32)) hx hb dX7_errorCount_10 (by decide) ?_
      obtain ⟨w8, τ7, g6, hf⟩ := fw_b2s hf
      refine fw_ci hH (fw_rV (As := [.int (-10002 : Int32)]) (rest := []) (id := 0) X hH (kX7_report  g6 _) qX7_report tw_2_10 ⟨Nat.le_of_ble_eq_true rfl, Nat.le_of_ble_eq_true rfl⟩ rfl rfl (by decide) (fc_0 (by decide)) rfl rfl hl.1 rfl (Nat.le_of_ble_eq_true rfl) dX7_errorCount_13) (fun H locs hH => ?_)
      obtain ⟨rfl, rfl⟩ := fw_s2 hf
      exact fw_reti X hH dX7_errorCount_16
abbrev rmX7_mix : Room := { frames := 0, cells := 0, slots := 0, locals := 0 }
theorem qX7_mix : fw_QS yX7_mix cX7_mix 4 (some .long) 2 := ⟨⟨tw_3_178, tw_1_1, tw_3_179⟩, by decide +kernel⟩
def pX7_mix (x0 : Int64) (x2 : Int64) (σ : fw_T) : Option (Int64 × fw_T) :=
  some ((((31 : Int64) * x0) + x2), σ)
set_option maxRecDepth 100000 in
set_option maxHeartbeats 4000000 in
theorem kX7_mix {x0 : Int64} {x2 : Int64} {r : Int64} {σ σ' : fw_T} (hf : pX7_mix x0 x2 σ = some (r, σ')) : fw_Cl l yX7_mix (Cond.code yX7_mix cX7_mix 4 (some .long) :: lwT) rmX7_mix [.long x0, .long x2] D 96 adr (fw_C cI cO adr) (fcT cI cO) nwC σ r σ' := by
  refine fw_start (Qc := (fun A => va_Ql (fun r' (_ : Unit) => r' = r) (fun _ t => va_P D vwCl (fw_ws 96 adr (fw_C cI cO adr σ')) t.heap) A)) (by decide) (by simp [lg_sl, Value.category]) rfl ?_
  intro p e s m below meth c A X hH ls hl
  have hx := X.1.1
  have hb := X.1.2.1
  have hl : lv_has ls 4 [(0, .long x0), (2, .long x2)] := hl
  unfold pX7_mix at hf
  refine lv_ldc2 (v := (31 : Int64)) hx hb X.1.2.2.2.1 (X.1.2.2.2.2 _ tw_3_180) dX7_mix_0 ?_
  refine lv_lload_n hx hb dX7_mix_3 rfl (lv_at hl 0 rfl) ?_
  refine lv_lmul hx hb dX7_mix_4 ?_
  refine lv_lload_n hx hb dX7_mix_5 rfl (lv_at hl 1 rfl) ?_
  refine lv_ladd hx hb dX7_mix_6 ?_
  obtain ⟨rfl, rfl⟩ := fw_s2 hf
  exact fw_retl X hH dX7_mix_7
end
