/-! THE CLAIM OUT OF ONE WALK OF THE LAW'S BODY. Your part is whole_start (and what it stands on); all else here is the same for every law, but numbers. -/
def R_law : String := "WhyNotJoinLaw"
def lw_P (b : Addr) (xs : List Int32) (args : Array Value) (s : State) : Prop := args = #[.ref b] ∧ s.IntsAt b xs ∧ xs.length ≤ 2560 ∧ (Jvm.Cond.and given_1 narrow_1).before args s = true
def lw_Q (_ : Array Value) (s : State) (o : Outcome) (t : State) : Prop := o = .returned (some (.int 1)) ∧ Framed s o t [] 600000 7302250
def lw_Z (below : List Frame) (a : Array Value) (s : State) : State → Prop := fun t => ∃ o, t.status = .running ∧ Ended t below o ∧ lw_Q a s o t
/-- the law's own end, with 1 on the stack, nothing written that was there before, its room as the claim has it -/
theorem lw_ret {p : Program} {l : Launch} {e : Env} {s : State} {m : MethodId} {below : List Frame} {meth : Method} {c : Code} {b : Nat} (hx : p.tables.exec = Jvm.exec) (hb : c.code = code) (hr : meth.sig.returnType = ret) (hlocks : meth.locks = false) {pc : Nat} {H : Heap} {ls : Array Slot} (hdg : decode code pc = .ok (.ireturn, 1)) : W p l e room_1 s m #[Value.ref b] below meth c H [] 600000 7302250 (lw_Z below #[Value.ref b] s) (F0 m pc ls [.int 1]) := by
  intro T hT X
  obtain ⟨fs, hret, hrun, hended, hW, hframe⟩ := X.leave (v := some (.int 1)) (hlocks := hlocks) (fun h => by rw [hr] at h; cases h)
  have hmeth' : T.vm.method? m = some meth := X.method'
  refine ⟨T.setFrames fs, ?_, .returned (some (.int 1)), hrun, hended, rfl, ⟨_, rfl⟩, hW, hframe⟩
  jvm_step X.here [X.here.top, hx, hb, hdg, hmeth', hr, ret, narrow_b1]
  (try refine ⟨rfl, ?_⟩); (try refine ⟨rfl, ?_⟩)
  first | (intro acts; rw [hret _ acts rfl rfl rfl]) | rw [hret _ _ rfl rfl rfl]
  exact Steps.refl _
/-- what holds at the law's entry: the machine, the code, the tables' words (any of lw_tbl by 'hts w (by decide +kernel)'), the script of L ints xs at the cell b, what the Statement gives of the start (any of its parts by flat_of_before) -/
def lw_At (p : Program) (s : State) (m : MethodId) (meth : Method) (c : Code) (b L : Nat) (xs : Nat → Int32) : Prop :=
  p.tables.exec = Jvm.exec ∧ c.code = code ∧ meth.sig.returnType = ret ∧ c.maxLocals = 4 ∧ s.vm.findClass R_law = some m.cls ∧ (∀ w ∈ lw_tbl, w.before #[Value.ref b] s = true) ∧ va_X b L xs s s.heap ∧ b < s.heap.size ∧ meth.locks = false ∧ (Jvm.Cond.and given_1 narrow_1).before #[Value.ref b] s = true

def sm0 (Rel : fw_T → fw_T → Prop) (f g : fw_T → Option (Int32 × fw_T)) : Prop := ∀ σ τ, Rel σ τ → ∃ r σ' τ', f σ = some (r, σ') ∧ g τ = some (r, τ') ∧ Rel σ' τ'
def smL (Rel : fw_T → fw_T → Prop) (f g : fw_T → Option (Int64 × fw_T)) : Prop := ∀ σ τ, Rel σ τ → ∃ r σ' τ', f σ = some (r, σ') ∧ g τ = some (r, τ') ∧ Rel σ' τ'
def sm1 (Rel : fw_T → fw_T → Prop) (f g : Int32 → fw_T → Option (Int32 × fw_T)) : Prop := ∀ x, sm0 Rel (f x) (g x)
def sm2 (Rel : fw_T → fw_T → Prop) (f g : Int32 → Int32 → fw_T → Option (Int32 × fw_T)) : Prop := ∀ x y, sm0 Rel (f x y) (g x y)
def sm3 (Rel : fw_T → fw_T → Prop) (f g : Int32 → Int32 → Int32 → fw_T → Option (Int32 × fw_T)) : Prop := ∀ x y z, sm0 Rel (f x y z) (g x y z)
def sm4 (Rel : fw_T → fw_T → Prop) (f g : Int32 → Int32 → Int32 → Int32 → fw_T → Option (Int32 × fw_T)) : Prop := ∀ x y z w, sm0 Rel (f x y z w) (g x y z w)
theorem lw_Pl {D : va_G} {cl : List vw_C} {w1 w2 : va_W} {H : Heap} (h : va_P D cl (w1 ++ w2) H) : va_P D cl w1 H := fun k q hq => h k q (by rw [List.getElem?_append_left (List.getElem?_eq_some_iff.mp hq).1]; exact hq)
theorem lw_Pr {D : va_G} {cl : List vw_C} {w1 w2 : va_W} {H : Heap} (h : va_P D cl (w1 ++ w2) H) : va_P D cl w2 H := fun k q hq => h (w1.length + k) q (by rw [List.getElem?_append_right (by omega), Nat.add_sub_cancel_left]; exact hq)
theorem lw_Dl {A : Nat → Prop} {w1 w2 : va_W} (h : va_D A (w1 ++ w2)) : va_D A w1 := by
  have at' : ∀ (k : Nat) (q : Nat × va_E), w1[k]? = some q → (w1 ++ w2)[k]? = some q := fun k q hq => by rw [List.getElem?_append_left (List.getElem?_eq_some_iff.mp hq).1]; exact hq
  exact ⟨fun i j x y hi hj hxy => h.1 i j x y (at' i x hi) (at' j y hj) hxy, fun k q hq => h.2 k q (at' k q hq)⟩
theorem lw_Dr {A : Nat → Prop} {w1 w2 : va_W} (h : va_D A (w1 ++ w2)) : va_D A w2 := by
  have at' : ∀ (k : Nat) (q : Nat × va_E), w2[k]? = some q → (w1 ++ w2)[w1.length + k]? = some q := fun k q hq => by rw [List.getElem?_append_right (by omega), Nat.add_sub_cancel_left]; exact hq
  exact ⟨fun i j x y hi hj hxy => by have := h.1 _ _ x y (at' i x hi) (at' j y hj) hxy; omega, fun k q hq => h.2 _ q (at' k q hq)⟩
theorem lw_ap {A : Nat → Prop} {w1 w2 : va_W} (h : va_D A (w1 ++ w2)) {i j : Nat} {x y : Nat × va_E} (hi : w1[i]? = some x) (hj : w2[j]? = some y) : x.1 ≠ y.1 := by
  intro hxy
  have hl := (List.getElem?_eq_some_iff.mp hi).1
  have h1 : (w1 ++ w2)[i]? = some x := by rw [List.getElem?_append_left hl]; exact hi
  have h2 : (w1 ++ w2)[w1.length + j]? = some y := by rw [List.getElem?_append_right (by omega), Nat.add_sub_cancel_left]; exact hj
  have := h.1 _ _ x y h1 h2 hxy
  omega
theorem lw_kr {D : va_G} {cl : List vw_C} {A : Nat → Prop} {w1 w2 : va_W} {H H1 : Heap} (hD : va_D A (w1 ++ w2)) (hP : va_P D cl w2 H) (hk : ∀ q : Nat, q < H.size → ¬ va_A w1 H.size q → H1[q]? = H[q]?) : va_P D cl w2 H1 := by
  refine hP.kept (fun k q hq => hk q.1 (hP k q hq).lt (fun h => ?_))
  rcases h with ⟨j, e, h⟩ | h
  · exact lw_ap hD h hq rfl
  · exact absurd (hP k q hq).lt (Nat.not_lt.mpr h)
theorem lw_kl {D : va_G} {cl : List vw_C} {A : Nat → Prop} {w1 w2 : va_W} {H H1 : Heap} (hD : va_D A (w1 ++ w2)) (hP : va_P D cl w1 H) (hk : ∀ q : Nat, q < H.size → ¬ va_A w2 H.size q → H1[q]? = H[q]?) : va_P D cl w1 H1 := by
  refine hP.kept (fun k q hq => hk q.1 (hP k q hq).lt (fun h => ?_))
  rcases h with ⟨j, e, h⟩ | h
  · exact lw_ap hD hq h rfl
  · exact absurd (hP k q hq).lt (Nat.not_lt.mpr h)
theorem lw_D2 {N1 N2 : Nat} {a1 a2 : Nat → Nat} {c1 c1' c2 c2' : Nat → va_E} {A : Nat → Prop} (h : va_D A (fw_ws N1 a1 c1 ++ fw_ws N2 a2 c2)) : va_D A (fw_ws N1 a1 c1' ++ fw_ws N2 a2 c2') :=
  va_D.app (fw_D (lw_Dl h)) (fw_D (lw_Dr h)) (fun i j x y hi hj => by
    obtain ⟨h1, rfl⟩ := fw_inv hi
    obtain ⟨h2, rfl⟩ := fw_inv hj
    exact lw_ap h (x := (a1 i, c1 i)) (y := (a2 j, c2 j)) (fw_at h1 rfl) (fw_at h2 rfl))
/-- the heap holds the class's store and the reference's, apart -/
def lw_I (D : va_G) (cI cO cB : ClassId) (adc adm : Nat → Nat) (s : State) (H : Heap) (locs : List Loc) (σ τ : fw_T) : Prop :=
  va_P D vwCl (fw_ws 96 adc (fw_C cI cO adc σ)) H ∧ va_P D vwCl (fw_ws 7 adm (fw_M cI cB adm τ)) H ∧ va_D (fun q : Nat => s.heap.size ≤ q) (fw_ws 96 adc (fw_C cI cO adc σ) ++ fw_ws 7 adm (fw_M cI cB adm τ)) ∧ va_S (fun q : Nat => s.heap.size ≤ q) s.heap H locs
def lw_Cx (p : Program) (s : State) (m : MethodId) (meth : Method) (c : Code) (D : va_G) (cI cO cB : ClassId) (b L : Nat) (xs : Nat → Int32) : Prop :=
  fw_X D (fcT cI cO) nwC p m c code 4 s #[Value.ref b] RL meth ret ∧ fw_X D (fmT cI cB) [] p m c code 4 s #[Value.ref b] RL meth ret ∧ va_X b L xs s s.heap ∧ b < s.heap.size
section LW
variable {p : Program} {l : Launch} {e : Env} {s : State} {m : MethodId} {args : Array Value} {below : List Frame} {meth : Method} {c : Code} {H : Heap} {locs : List Loc} {Q : State → Prop} {R : Room} {k0 n0 : Nat}
variable {D : va_G} {cI cO cB : ClassId} {adc adm : Nat → Nat} {σ τ σ' τ' : fw_T} {cc : ByteArray} {nL : Nat} {own : String} {rt0 : Option FieldType} {pc : Nat} {ls : Array Slot} {rest st As : List Value}
variable {y : MethodName} {bytes : ByteArray} {maxL n index : Nat} {rt : Option FieldType} {rm : Room}
theorem lw_Hc (h : lw_I D cI cO cB adc adm s H locs σ τ) : fw_H D 96 adc (fw_C cI cO adc) (fun q : Nat => s.heap.size ≤ q) s.heap H locs σ := ⟨h.1, lw_Dl h.2.2.1, h.2.2.2, fun _ h => h⟩
theorem lw_Hm (h : lw_I D cI cO cB adc adm s H locs σ τ) : fw_H D 7 adm (fw_M cI cB adm) (fun q : Nat => s.heap.size ≤ q) s.heap H locs τ := ⟨h.2.1, lw_Dr h.2.2.1, h.2.2.2, fun _ h => h⟩
theorem lw_rV {N : Nat} {adr : Nat → Nat} {F : fw_T → Nat → va_E} {tys : List (ClassId × FieldType)} {nw : List Cond} {A : Nat → Prop} {Qc : Array Value → State → Outcome → State → Prop} {free : Addr → Prop} {ρ : fw_T} (X : fw_X D tys nw p m c cc nL s args own meth rt0) (hH : fw_H D N adr F A s.heap H locs ρ) {id ci : Nat} {fs : List Value} {C : String} {T : u_T} {Nf : Nat} (hM : Met l y (Cond.code y bytes maxL rt :: lwT) rm (va_Pc (.ref (adr id) :: As) (fw_B D N adr F tys nw ρ H.size)) Qc 0 0 free) (q : fw_QV C y bytes maxL rt n) (hml : Cond.methodLink own index y ∈ lwT) (hR : rm.frames + 1 ≤ R.frames ∧ 8 + (maxL + 11) + rm.locals ≤ R.locals) (hrc : rm.cells = 0) (hrs : rm.slots = 0)
    (hid : id < N) (hF : F ρ id = .inr (ci, fs)) (hc : vwCl[ci]? = some (C, T, Nf)) (hn : As.length = n) (hl : ls.size = nL) (hst : st = As.reverse ++ .ref (adr id) :: rest) (hr : (rest.map fun v => v.category).sum ≤ 8) (hdg : decode cc pc = .ok (.invokevirtual index, 3)) (hk : k0 ≤ R.cells ∧ n0 ≤ R.slots) :
    va_Run p l e R s m args below meth c H locs k0 n0 0 0 (F0 m pc ls st) rest (Qc (Value.ref (adr id) :: As).toArray) free :=
  va_runV X.1 hM (cwV n X.1.2.2.2.2 (fw_gV hml q.1) rfl hrc hrs q.2 hR) ⟨fw_blind, va_recv (q := (C, T, Nf)) X.2.1 hH.1 hc (fw_at hid hF), fw_pre X hH _⟩ rfl hn hl hst (lv_room hr) hdg hk
theorem lw_ci {r : Int32} (X : fw_X D (fcT cI cO) nwC p m c cc nL s args own meth rt0) (hI : lw_I D cI cO cB adc adm s H locs σ τ) (hM : fw_Ci l y (Cond.code y bytes maxL rt :: lwT) rm (.ref (adc 0) :: As) D 96 adc (fw_C cI cO adc) (fcT cI cO) nwC σ r σ') (q : fw_QV RX7 y bytes maxL rt n) (hml : Cond.methodLink own index y ∈ lwT) (hR : rm.frames + 1 ≤ R.frames ∧ 8 + (maxL + 11) + rm.locals ≤ R.locals) (hrc : rm.cells = 0) (hrs : rm.slots = 0) (hn : As.length = n) (hl : ls.size = nL) (hst : st = As.reverse ++ .ref (adc 0) :: rest) (hr : (rest.map fun v => v.category).sum ≤ 8) (hdg : decode cc pc = .ok (.invokevirtual index, 3)) (hk : k0 ≤ R.cells ∧ n0 ≤ R.slots)
    (kk : ∀ (H1 : Heap) (locs1 : List Loc), lw_I D cI cO cB adc adm s H1 locs1 σ' τ → W p l e R s m args below meth c H1 locs1 k0 n0 Q (F0 m (pc + 3) ls (.int r :: rest))) : W p l e R s m args below meth c H locs k0 n0 Q (F0 m pc ls st) := by
  have hH := lw_Hc hI
  refine va_calli (lw_rV (id := 0) (T := TX7) (Nf := 6) X hH (hM H.size) q hml hR hrc hrs (by decide) (fc_0 (by decide)) rfl hn hl hst hr hdg hk) hH.2.2.1 (fun q _ h => fw_sub hH q h) (fw_sub hH) (fun r' u t H1 locs1 ht hvm hw hB hz hk hS => ?_)
  subst hw
  exact kk H1 locs1 ⟨by rw [← ht]; exact hB, lw_kr hI.2.2.1 hI.2.1 hk, lw_D2 hI.2.2.1, hS⟩
theorem lw_mi {r : Int32} (X : fw_X D (fmT cI cB) [] p m c cc nL s args own meth rt0) (hI : lw_I D cI cO cB adc adm s H locs σ τ) (hM : fw_Ci l y (Cond.code y bytes maxL rt :: lwT) rm (.ref (adm 0) :: As) D 7 adm (fw_M cI cB adm) (fmT cI cB) [] τ r τ') (q : fw_QV RX8 y bytes maxL rt n) (hml : Cond.methodLink own index y ∈ lwT) (hR : rm.frames + 1 ≤ R.frames ∧ 8 + (maxL + 11) + rm.locals ≤ R.locals) (hrc : rm.cells = 0) (hrs : rm.slots = 0) (hn : As.length = n) (hl : ls.size = nL) (hst : st = As.reverse ++ .ref (adm 0) :: rest) (hr : (rest.map fun v => v.category).sum ≤ 8) (hdg : decode cc pc = .ok (.invokevirtual index, 3)) (hk : k0 ≤ R.cells ∧ n0 ≤ R.slots)
    (kk : ∀ (H1 : Heap) (locs1 : List Loc), lw_I D cI cO cB adc adm s H1 locs1 σ τ' → W p l e R s m args below meth c H1 locs1 k0 n0 Q (F0 m (pc + 3) ls (.int r :: rest))) : W p l e R s m args below meth c H locs k0 n0 Q (F0 m pc ls st) := by
  have hH := lw_Hm hI
  refine va_calli (lw_rV (id := 0) (T := TX8) (Nf := 14) X hH (hM H.size) q hml hR hrc hrs (by decide) rfl rfl hn hl hst hr hdg hk) hH.2.2.1 (fun q _ h => fw_sub hH q h) (fw_sub hH) (fun r' u t H1 locs1 ht hvm hw hB hz hk hS => ?_)
  subst hw
  exact kk H1 locs1 ⟨lw_kl hI.2.2.1 hI.1 hk, by rw [← ht]; exact hB, lw_D2 hI.2.2.1, hS⟩
theorem lw_cl {r : Int64} (X : fw_X D (fcT cI cO) nwC p m c cc nL s args own meth rt0) (hI : lw_I D cI cO cB adc adm s H locs σ τ) (hM : fw_Cl l y (Cond.code y bytes maxL rt :: lwT) rm (.ref (adc 0) :: As) D 96 adc (fw_C cI cO adc) (fcT cI cO) nwC σ r σ') (q : fw_QV RX7 y bytes maxL rt n) (hml : Cond.methodLink own index y ∈ lwT) (hR : rm.frames + 1 ≤ R.frames ∧ 8 + (maxL + 11) + rm.locals ≤ R.locals) (hrc : rm.cells = 0) (hrs : rm.slots = 0) (hn : As.length = n) (hl : ls.size = nL) (hst : st = As.reverse ++ .ref (adc 0) :: rest) (hr : (rest.map fun v => v.category).sum ≤ 8) (hdg : decode cc pc = .ok (.invokevirtual index, 3)) (hk : k0 ≤ R.cells ∧ n0 ≤ R.slots)
    (kk : ∀ (H1 : Heap) (locs1 : List Loc), lw_I D cI cO cB adc adm s H1 locs1 σ' τ → W p l e R s m args below meth c H1 locs1 k0 n0 Q (F0 m (pc + 3) ls (.long r :: rest))) : W p l e R s m args below meth c H locs k0 n0 Q (F0 m pc ls st) := by
  have hH := lw_Hc hI
  refine va_calll (lw_rV (id := 0) (T := TX7) (Nf := 6) X hH (hM H.size) q hml hR hrc hrs (by decide) (fc_0 (by decide)) rfl hn hl hst hr hdg hk) hH.2.2.1 (fun q _ h => fw_sub hH q h) (fw_sub hH) (fun r' u t H1 locs1 ht hvm hw hB hz hk hS => ?_)
  subst hw
  exact kk H1 locs1 ⟨by rw [← ht]; exact hB, lw_kr hI.2.2.1 hI.2.1 hk, lw_D2 hI.2.2.1, hS⟩
theorem lw_ml {r : Int64} (X : fw_X D (fmT cI cB) [] p m c cc nL s args own meth rt0) (hI : lw_I D cI cO cB adc adm s H locs σ τ) (hM : fw_Cl l y (Cond.code y bytes maxL rt :: lwT) rm (.ref (adm 0) :: As) D 7 adm (fw_M cI cB adm) (fmT cI cB) [] τ r τ') (q : fw_QV RX8 y bytes maxL rt n) (hml : Cond.methodLink own index y ∈ lwT) (hR : rm.frames + 1 ≤ R.frames ∧ 8 + (maxL + 11) + rm.locals ≤ R.locals) (hrc : rm.cells = 0) (hrs : rm.slots = 0) (hn : As.length = n) (hl : ls.size = nL) (hst : st = As.reverse ++ .ref (adm 0) :: rest) (hr : (rest.map fun v => v.category).sum ≤ 8) (hdg : decode cc pc = .ok (.invokevirtual index, 3)) (hk : k0 ≤ R.cells ∧ n0 ≤ R.slots)
    (kk : ∀ (H1 : Heap) (locs1 : List Loc), lw_I D cI cO cB adc adm s H1 locs1 σ τ' → W p l e R s m args below meth c H1 locs1 k0 n0 Q (F0 m (pc + 3) ls (.long r :: rest))) : W p l e R s m args below meth c H locs k0 n0 Q (F0 m pc ls st) := by
  have hH := lw_Hm hI
  refine va_calll (lw_rV (id := 0) (T := TX8) (Nf := 14) X hH (hM H.size) q hml hR hrc hrs (by decide) rfl rfl hn hl hst hr hdg hk) hH.2.2.1 (fun q _ h => fw_sub hH q h) (fw_sub hH) (fun r' u t H1 locs1 ht hvm hw hB hz hk hS => ?_)
  subst hw
  exact kk H1 locs1 ⟨lw_kl hI.2.2.1 hI.1 hk, by rw [← ht]; exact hB, lw_D2 hI.2.2.1, hS⟩
end LW
theorem lw_31 (v : Int32) : ∃ k : Nat, k < 32 ∧ v &&& (31 : Int32) = nI k := by
  refine ⟨v.toBitVec.toNat % 32, Nat.mod_lt _ (by decide), ?_⟩
  apply Int32.toBitVec_inj.mp
  apply BitVec.eq_of_toNat_eq
  have e1 : (v &&& (31 : Int32)).toBitVec = v.toBitVec &&& 31#32 := rfl
  have e2 : (nI (v.toBitVec.toNat % 32)).toBitVec = BitVec.ofNat 32 (v.toBitVec.toNat % 32) := rfl
  have h1 : v.toBitVec.toNat &&& (31#32).toNat = v.toBitVec.toNat % 2 ^ 5 := by
    rw [show (31#32).toNat = 2 ^ 5 - 1 from rfl, Nat.and_two_pow_sub_one_eq_mod]
  rw [e1, e2, BitVec.toNat_and, h1, BitVec.toNat_ofNat]
  have h2 : v.toBitVec.toNat % 32 < 32 := Nat.mod_lt _ (by decide)
  rw [Nat.mod_eq_of_lt (a := v.toBitVec.toNat % 32) (by omega)]
theorem lw_len {i L : Nat} (hL : L ≤ 2560) (hi : i ≤ L) (h : ¬ (Int32.ofNat L - (5 : Int32) < nI i)) : i + 5 ≤ L := by
  rcases Nat.lt_or_ge L 5 with hl | hl
  · exfalso
    apply h
    rcases (show L = 0 ∨ L = 1 ∨ L = 2 ∨ L = 3 ∨ L = 4 by omega) with rfl | rfl | rfl | rfl | rfl <;>
      rcases (show i = 0 ∨ i = 1 ∨ i = 2 ∨ i = 3 ∨ i = 4 by omega) with rfl | rfl | rfl | rfl | rfl <;> decide
  · obtain ⟨k, rfl⟩ : ∃ k, L = k + 5 := ⟨L - 5, by omega⟩
    have e : Int32.ofNat (k + 5) - (5 : Int32) = nI k := by
      show nI (k + 5) - 5 = nI k
      rw [← nI_add k 5]
      show nI k + 5 - 5 = nI k
      exact Int32.add_sub_cancel _ _
    rw [e, nI_ltI (by omega) (by omega)] at h
    omega
