/-! ===== constructors: a list of cells that grows at its end; the object that is made stands first ===== -/
abbrev cn_T (cI cO cB : ClassId) : List (ClassId × FieldType) := [(cI, .int), (cO, .object "WhyNotJoin$State"), (cB, .byte)]
def cn_B (D : va_G) (tys : List (ClassId × FieldType)) (nw : List Cond) (x : Nat × va_E) (sz : Nat) (U : State) : Prop :=
  U.heap.size = sz ∧ va_P D vwCl [x] U.heap ∧ va_K D vwCl tys U ∧ va_D (fun _ => True) [x] ∧ (∀ w ∈ nw, fw_nest w = true ∧ va_Nw w U) ∧ va_AO "WhyNotJoin$State" U
theorem cn_blind {D : va_G} {tys : List (ClassId × FieldType)} {nw : List Cond} {x : Nat × va_E} {sz : Nat} {av : List Value} : FrameBlind (va_Pc av (cn_B D tys nw x sz)) := by
  intro a U g mk q
  obtain ⟨q0, q1, qP, qK, qD, qN, qA⟩ := q
  exact ⟨q0, q1, qP, va_K.moved (u := U) (U := U.calling g mk a) (Vm.Alike.refl U.vm) qK, qD, fun w hw => ⟨(qN w hw).1, va_Nw.same (fw_nt (qN w hw).1) (u := U) (U := U.calling g mk a) rfl (qN w hw).2⟩, va_AO.moved (u := U) (U := U.calling g mk a) (Vm.Alike.refl U.vm) qA⟩
def cn_H (D : va_G) (A : Nat → Prop) (s : State) (H : Heap) (locs : List Loc) (ws : va_W) : Prop := va_P D vwCl ws H ∧ va_D A ws ∧ va_S A s.heap H locs ∧ ∀ q, s.heap.size ≤ q → A q
def cn_X (D : va_G) (tys : List (ClassId × FieldType)) (nw : List Cond) (p : Program) (m : MethodId) (c : Code) (cc : ByteArray) (nL : Nat) (s : State) (args : Array Value) (own : String) (meth : Method) : Prop :=
  fw_X D tys nw p m c cc nL s args own meth none ∧ va_AO "WhyNotJoin$State" s ∧ meth.name = "<init>"
abbrev cn_C (l : Launch) (y : MethodName) (bytes : ByteArray) (maxL : Nat) (rm : Room) (As : List Value) (D : va_G) (tys : List (ClassId × FieldType)) (nw : List Cond) (x : Nat × va_E) (cw : (Nat → Nat) → va_W) (mc ms : Nat) : Prop :=
  ∀ sz : Nat, Met l y (Cond.code y bytes maxL none :: lwT) rm (va_Pc (.ref x.1 :: As) (cn_B D tys nw x sz)) (va_Qv (fun a : Nat → Nat => a 0 = x.1) (fun a t => va_P D vwCl (cw a) t.heap ∧ va_D (va_A [x] sz) (cw a)) (va_A [x] sz)) mc ms (va_A [x] sz)
def cn_ap (n : Nat) (f g : Nat → Nat) : Nat → Nat := fun i => if i < n then f i else g (i - n)
section CN
variable {p : Program} {l : Launch} {e : Env} {R : Room} {s : State} {m : MethodId} {args : Array Value} {below : List Frame} {meth : Method} {c : Code} {H : Heap} {locs : List Loc} {Q : State → Prop} {k n : Nat}
variable {D : va_G} {tys : List (ClassId × FieldType)} {nw : List Cond} {A : Nat → Prop} {ws : va_W}
variable {cc : ByteArray} {nL : Nat} {own : String}
variable {pc : Nat} {ls : Array Slot} {rest : List Value}
theorem cn_start {y : MethodName} {rm : Room} {As : List Value} {maxL mc ms : Nat} {x : Nat × va_E} {cw : (Nat → Nat) → va_W} (hy : plainName y.cls = true) (hle : (lg_sl (.ref x.1 :: As)).length ≤ maxL) (ho : y.cls = own) (hyn : y.name = "<init>")
    (body : ∀ (p : Program) (e : Env) (s : State) (m : MethodId) (below : List Frame) (meth : Method) (c : Code) (A : Nat → Prop), cn_X D tys nw p m c cc maxL s (Value.ref x.1 :: As).toArray own meth → cn_H D A s s.heap [] [x] → ∀ ls : Array Slot, lv_has ls maxL (lv_args 0 (.ref x.1 :: As)) →
      W p l e rm s m (Value.ref x.1 :: As).toArray below meth c s.heap [] 0 0 (MQ below (va_Qv (fun a : Nat → Nat => a 0 = x.1) (fun a t => va_P D vwCl (cw a) t.heap ∧ va_D A (cw a)) A) (Value.ref x.1 :: As).toArray s mc ms A) (F0 m 0 ls [])) : cn_C l y cc maxL rm As D tys nw x cw mc ms := by
  intro sz
  refine Met.ofW (cc := cc) (maxL := maxL) (ret := none) hy rfl ?_
  intro p e s m args below meth c s₁ B hml hv
  obtain ⟨rfl, hsz, hP, hK, hD0, hN, hAO⟩ := hv
  subst hsz
  rw [lg_entry_eq]
  have hts := atoms_spec (ws := Cond.code y cc maxL none :: lwT) B.pre
  exact body p e s m below meth c _ ⟨⟨⟨B.exec, B.bytes, hml, ho ▸ findClass_of_methodNamed B.named, fun w h => hts w (List.mem_cons_of_mem _ h)⟩, hK, hN, B.returns, B.notSynchronized⟩, hAO, (name_of_methodNamed B.named B.method).1.trans hyn⟩ ⟨hP, hD0.self, va_S.rf, fun q h => Or.inr h⟩ _ (lv_entry _ hle)
theorem cn_obj {idx h0 : Nat} (X : cn_X D tys nw p m c cc nL s args own meth) (hls : ls.size = nL) (hlink : Cond.methodLink own idx ⟨"java/lang/Object", "<init>", "()V"⟩ ∈ lwT) (hinst : Cond.instanceMethod ⟨"java/lang/Object", "<init>", "()V"⟩ ∈ lwT) (hcode : Cond.code ⟨"java/lang/Object", "<init>", "()V"⟩ ⟨#[0xb1]⟩ 1 none ∈ lwT) (hfr : 1 ≤ R.frames) (hlo : 12 ≤ R.locals) (hdg : decode cc pc = .ok (.invokespecial idx, 3))
    (kk : W p l e R s m args below meth c H locs k n Q (F0 m (pc + 3) ls [])) : W p l e R s m args below meth c H locs k n Q (F0 m pc ls [.ref h0]) := by
  refine W.objInit X.1.1.1 X.1.1.2.1 X.1.1.2.2.2.1 (X.1.1.2.2.2.2 _ hlink) (X.1.1.2.2.2.2 _ hinst) (X.1.1.2.2.2.2 _ hcode) rfl (hls.trans X.1.1.2.2.1.symm) rfl hdg hfr ?_ ?_
  · show 2 * 0 + _ + 12 ≤ _
    simpa using hlo
  · exact W.eq (g2 := F0 m (pc + 3) ls []) rfl kk
theorem cn_new {C : String} {T : u_T} {N ci index : Nat} {fs : List Value} (X : cn_X D tys nw p m c cc nL s args own meth) (hH : cn_H D A s H locs ws) (hin : ∀ w ∈ u_ws C T N, w ∈ lwT) (ty : Nat → FieldType) (hty : ∀ k, k < N → parseFieldDescriptor (T k).2.2.1 = some (ty k)) (hcl : Cond.classLink own index C ∈ lwT) (hinst : Cond.instantiable C N ∈ lwT) (hini : Cond.initialized C ∈ lwT) (hc : vwCl[ci]? = some (C, T, N)) (hfs : ∀ j, j < N → defaultValue (ty j) = vp_V fs j) (hcells : k + 1 ≤ R.cells) (hslots : n + N ≤ R.slots) (hdg : decode cc pc = .ok (.new index, 3))
    (kk : ∀ (q : Nat) (H1 : Heap), cn_H D A s H1 locs (ws ++ [(q, .inr (ci, fs))]) → W p l e R s m args below meth c H1 locs (k + 1) (n + N) Q (F0 m (pc + 3) ls (.ref q :: rest))) : W p l e R s m args below meth c H locs k n Q (F0 m pc ls rest) :=
  va_new (D := D) X.1.1.1 X.1.1.2.1 X.1.1.2.2.2.2 hin ty hty X.1.1.2.2.2.1 (X.1.1.2.2.2.2 _ hcl) (X.1.1.2.2.2.2 _ hinst) (X.1.1.2.2.2.2 _ hini) X.1.2.1 hH.1 hH.2.1 hH.2.2.1 hH.2.2.2 hc hfs hcells hslots hdg (fun q H1 h1 h2 h3 => kk q H1 ⟨h1, h2, h3, hH.2.2.2⟩)
theorem cn_cls {D : va_G} {cl : List vw_C} {cA cB : ClassId} {ty : FieldType} {t0 : Nat} {U : State} (h : va_K D cl (tys ++ [(cA, ty)]) U) (ht : tys[t0]? = some (cB, ty)) : cA = cB := by
  have hl : t0 < tys.length := (List.getElem?_eq_some_iff.mp ht).1
  have h1 := (h.2 t0 (cB, ty) (by rw [List.getElem?_append_left hl]; exact ht)).2
  have h2 := (h.2 tys.length (cA, ty) (by simp)).2
  cases ty with
  | object C =>
    obtain ⟨k1, c1, a1, b1, e1, f1⟩ := h1
    obtain ⟨k2, c2, a2, b2, e2, f2⟩ := h2
    exact Option.some.inj (f2.symm.trans f1)
  | _ => exact Option.some.inj (Eq.trans (Eq.symm h2) h1)
theorem cn_arr {cI : ClassId} {i0 : Int32} {N' : Nat} (X : cn_X D tys nw p m c cc nL s args own meth) (hH : cn_H D A s H locs ws) (harr : Cond.arrayClass .int ∈ lwT) (ht : tys[0]? = some (cI, .int)) (hn : ¬ i0 < 0) (hN : i0.toNatClampNeg = N') (hbytes : N' * 4 ≤ 536870912) (hcells : k + 1 ≤ R.cells) (hslots : n + N' ≤ R.slots) (hdg : decode cc pc = .ok (.newarray .int, 2))
    (kk : ∀ (q : Nat) (H1 : Heap), cn_H D A s H1 locs (ws ++ [(q, .inl (cI, N', .inl (fun _ => 0)))]) → W p l e R s m args below meth c H1 locs (k + 1) (n + N') Q (F0 m (pc + 2) ls (.ref q :: rest))) : W p l e R s m args below meth c H locs k n Q (F0 m pc ls (.int i0 :: rest)) := by
  refine va_newa (atype := .int) (ty := .int) (a0 := (N', .inl (fun _ => 0))) X.1.1.1 X.1.1.2.1 (X.1.1.2.2.2.2 _ harr) rfl X.1.2.1 hH.1 hH.2.1 hH.2.2.1 hH.2.2.2 (fun _ => rfl) hn hN hbytes hcells hslots hdg (fun q cA H1 hK h1 h2 h3 => ?_)
  have he := cn_cls hK ht
  subst he
  exact kk q H1 ⟨h1, h2, h3, hH.2.2.2⟩
theorem cn_arb {cB : ClassId} {i0 : Int32} {N' : Nat} (X : cn_X D tys nw p m c cc nL s args own meth) (hH : cn_H D A s H locs ws) (harr : Cond.arrayClass .byte ∈ lwT) (ht : tys[2]? = some (cB, .byte)) (hn : ¬ i0 < 0) (hN : i0.toNatClampNeg = N') (hbytes : N' * 1 ≤ 536870912) (hcells : k + 1 ≤ R.cells) (hslots : n + N' ≤ R.slots) (hdg : decode cc pc = .ok (.newarray .byte, 2))
    (kk : ∀ (q : Nat) (H1 : Heap), cn_H D A s H1 locs (ws ++ [(q, .inl (cB, N', .inl (fun _ => 0)))]) → W p l e R s m args below meth c H1 locs (k + 1) (n + N') Q (F0 m (pc + 2) ls (.ref q :: rest))) : W p l e R s m args below meth c H locs k n Q (F0 m pc ls (.int i0 :: rest)) := by
  refine va_newa (atype := .byte) (ty := .byte) (a0 := (N', .inl (fun _ => 0))) X.1.1.1 X.1.1.2.1 (X.1.1.2.2.2.2 _ harr) rfl X.1.2.1 hH.1 hH.2.1 hH.2.2.1 hH.2.2.2 (fun _ => rfl) hn hN hbytes hcells hslots hdg (fun q cA H1 hK h1 h2 h3 => ?_)
  have he := cn_cls hK ht
  subst he
  exact kk q H1 ⟨h1, h2, h3, hH.2.2.2⟩
theorem cn_arq {cO : ClassId} {i0 : Int32} {N' index : Nat} (X : cn_X D tys nw p m c cc nL s args own meth) (hH : cn_H D A s H locs ws) (hcl : Cond.classLink own index "WhyNotJoin$State" ∈ lwT) (ht : tys[1]? = some (cO, .object "WhyNotJoin$State")) (hn : ¬ i0 < 0) (hN : i0.toNatClampNeg = N') (hbytes : N' * 4 ≤ 536870912) (hcells : k + 1 ≤ R.cells) (hslots : n + N' ≤ R.slots) (hdg : decode cc pc = .ok (.anewarray index, 3))
    (kk : ∀ (q : Nat) (H1 : Heap), cn_H D A s H1 locs (ws ++ [(q, .inl (cO, N', .inr (.inr (.inr (.inr (fun _ => none))))))]) → W p l e R s m args below meth c H1 locs (k + 1) (n + N') Q (F0 m (pc + 3) ls (.ref q :: rest))) : W p l e R s m args below meth c H locs k n Q (F0 m pc ls (.int i0 :: rest)) := by
  refine va_newq X.1.1.1 X.1.1.2.1 X.1.1.2.2.2.1 (X.1.1.2.2.2.2 _ hcl) X.2.1 X.1.2.1 hH.1 hH.2.1 hH.2.2.1 hH.2.2.2 hn hN hbytes hcells hslots hdg (fun q cA H1 hK h1 h2 h3 => ?_)
  have he := cn_cls hK ht
  subst he
  exact kk q H1 ⟨h1, h2, h3, hH.2.2.2⟩
theorem cn_put {h0 ci Nf j index : Nat} {fs : List Value} {C : String} {T : u_T} {v : Value} {ty : FieldType} (X : cn_X D tys nw p m c cc nL s args own meth) (hH : cn_H D A s H locs ((h0, .inr (ci, fs)) :: ws)) (hc : vwCl[ci]? = some (C, T, Nf)) (hin : ∀ w ∈ u_ws C T Nf, w ∈ lwT) (ty0 : Nat → FieldType) (hty : ∀ k, k < Nf → parseFieldDescriptor (T k).2.2.1 = some (ty0 k)) (hnm : ∀ a, a < Nf → ∀ b, b < Nf → a ≠ b → (T a).2.1 ≠ (T b).2.1) (hj : j < Nf) (hjl : j < fs.length)
    (hfin : (T j).2.2.2 = true) (hdecl : (T j).1 = own) (hd : parseFieldDescriptor (T j).2.2.1 = some ty) (hn : narrow ty v = v) (hfit : fits ty v = true) (hl : Cond.fieldLink own index (T j).1 (T j).2.1 (T j).2.2.1 ∈ lwT) (hdg : decode cc pc = .ok (.putfield index, 3))
    (kk : ∀ (H1 : Heap) (locs1 : List Loc), cn_H D A s H1 locs1 ((h0, .inr (ci, fs.set j v)) :: ws) → W p l e R s m args below meth c H1 locs1 k n Q (F0 m (pc + 3) ls rest)) : W p l e R s m args below meth c H locs k n Q (F0 m pc ls (v :: .ref h0 :: rest)) :=
  va_putF (D := D) X.1.1.1 X.1.1.2.1 X.1.1.2.2.2.2 hin ty0 hty hnm X.1.1.2.2.2.1 X.1.2.1 hH.1 hH.2.1 hH.2.2.1 0 rfl hc j hj (X.1.1.2.2.2.2 _ hl) (fun _ h => h) hfin X.2.2 hdecl hd hn hfit hjl hdg (fun H1 locs1 h1 h2 h3 => kk H1 locs1 ⟨h1, h2, h3, hH.2.2.2⟩)
theorem cn_get {a ci Nf j index q0 : Nat} {fs : List Value} {C : String} {T : u_T} {v : Value} (X : cn_X D tys nw p m c cc nL s args own meth) (hH : cn_H D A s H locs ws) (he : ws[q0]? = some (a, .inr (ci, fs))) (hc : vwCl[ci]? = some (C, T, Nf)) (hin : ∀ w ∈ u_ws C T Nf, w ∈ lwT) (hj : j < Nf) (hv : fs[j]? = some v) (hl : Cond.fieldLink own index (T j).1 (T j).2.1 (T j).2.2.1 ∈ lwT) (hdg : decode cc pc = .ok (.getfield index, 3))
    (kk : W p l e R s m args below meth c H locs k n Q (F0 m (pc + 3) ls (v :: rest))) : W p l e R s m args below meth c H locs k n Q (F0 m pc ls (.ref a :: rest)) :=
  va_get (D := D) X.1.1.1 X.1.1.2.1 X.1.1.2.2.2.2 hin X.1.1.2.2.2.1 X.1.2.1 hH.1 q0 he hc j hj (X.1.1.2.2.2.2 _ hl) (fun _ h => h) hv hdg kk
theorem cn_getN {a ci Nf j index q0 : Nat} {fs : List Value} {C host : String} {T : u_T} {v : Value} (X : cn_X D tys nw p m c cc nL s args own meth) (hH : cn_H D A s H locs ws) (he : ws[q0]? = some (a, .inr (ci, fs))) (hc : vwCl[ci]? = some (C, T, Nf)) (hin : ∀ w ∈ u_ws C T Nf, w ∈ lwT) (hj : j < Nf) (hv : fs[j]? = some v) (hl : Cond.fieldLinkNest own index (T j).1 (T j).2.1 (T j).2.2.1 host ∈ nw) (hdg : decode cc pc = .ok (.getfield index, 3))
    (kk : W p l e R s m args below meth c H locs k n Q (F0 m (pc + 3) ls (v :: rest))) : W p l e R s m args below meth c H locs k n Q (F0 m pc ls (.ref a :: rest)) :=
  va_getN (D := D) X.1.1.1 X.1.1.2.1 X.1.1.2.2.2.2 hin X.1.1.2.2.2.1 X.1.2.1 hH.1 q0 he hc j hj (va_Nw.use rfl (X.1.2.2.1 _ hl).2) (fun _ h => h) hv hdg kk
theorem cn_join {D : va_G} {cl : List vw_C} {A0 : Nat → Prop} {ws w1 : va_W} {x : Nat × va_E} {H H1 : Heap} (hP : va_P D cl (ws ++ [x]) H) (hD : va_D A0 (ws ++ [x])) (hk : ∀ q : Nat, q < H.size → ¬ va_A [x] H.size q → H1[q]? = H[q]?) (hF : ∀ q, va_A [x] H.size q → A0 q) (hP1 : va_P D cl w1 H1) (hD1 : va_D (va_A [x] H.size) w1) : va_P D cl (ws ++ w1) H1 ∧ va_D A0 (ws ++ w1) := by
  have at' : ∀ (k : Nat) (q : Nat × va_E), ws[k]? = some q → k < ws.length ∧ (ws ++ [x])[k]? = some q := fun k q hq => by
    have hl := (List.getElem?_eq_some_iff.mp hq).1
    exact ⟨hl, by rw [List.getElem?_append_left hl]; exact hq⟩
  have apart : ∀ (k : Nat) (q : Nat × va_E), ws[k]? = some q → q.1 < H.size ∧ ¬ va_A [x] H.size q.1 := by
    intro k q hq
    obtain ⟨hl, h2⟩ := at' k q hq
    have hlt := (hP k q h2).lt
    refine ⟨hlt, fun h => ?_⟩
    rcases h with ⟨k2, e, h⟩ | h
    · have h0 : k2 < 1 := (List.getElem?_eq_some_iff.mp h).1
      have : k2 = 0 := by omega
      subst this
      cases h
      have := hD.1 k ws.length q (q.1, e) h2 (by simp) rfl
      omega
    · omega
  refine ⟨va_P.app (fun k q hq => ?_) hP1, va_D.app ⟨fun i j a b hi hj hab => hD.1 i j a b (at' i a hi).2 (at' j b hj).2 hab, fun k q hq => hD.2 k q (at' k q hq).2⟩ (hD1.weaken (fun k q _ h => hF q.1 h)) (fun i j a b ha hb hab => ?_)⟩
  · obtain ⟨g1, g2⟩ := apart k q hq
    exact (hP k q (at' k q hq).2).kept (hk q.1 g1 g2)
  · exact (apart i a ha).2 (by rw [hab]; exact hD1.2 j b hb)
theorem cn_one {D : va_G} {cl : List vw_C} {ws : va_W} {x : Nat × va_E} {H : Heap} (hP : va_P D cl (ws ++ [x]) H) : va_P D cl [x] H := by
  intro k q hq
  have h0 : k < 1 := (List.getElem?_eq_some_iff.mp hq).1
  have : k = 0 := by omega
  subst this
  exact hP ws.length q (by simpa using hq)
theorem cn_oneD {A0 : Nat → Prop} {ws : va_W} {x : Nat × va_E} (hD : va_D A0 (ws ++ [x])) : va_D A0 [x] := by
  refine ⟨fun i j a b hi hj hab => ?_, fun k q hq => ?_⟩
  · have h1 : i < 1 := (List.getElem?_eq_some_iff.mp hi).1
    have h2 : j < 1 := (List.getElem?_eq_some_iff.mp hj).1
    omega
  · have h0 : k < 1 := (List.getElem?_eq_some_iff.mp hq).1
    have : k = 0 := by omega
    subst this
    exact hD.2 ws.length q (by simpa using hq)
section CALL
variable {y : MethodName} {bytes : ByteArray} {maxL nn index mc ms : Nat} {rm : Room} {As st : List Value} {x : Nat × va_E} {cw : (Nat → Nat) → va_W}
def fw_QI (y : MethodName) (bytes : ByteArray) (maxL : Nat) (n : Nat) : Prop :=
  (Cond.instanceMethod y ∈ lwT ∧ Cond.initialized y.cls ∈ lwT ∧ Cond.code y bytes maxL none ∈ lwT) ∧ y.name = "<init>" ∧ (y.cls ≠ "java/lang/invoke/MethodHandle" ∧ y.cls ≠ "java/lang/invoke/VarHandle" ∧ (parseMethodDescriptor y.desc).map (fun d => d.parameters.length) = some n)
theorem cn_pre (hK : va_K D vwCl tys s) (hN : ∀ w ∈ nw, fw_nest w = true ∧ va_Nw w s) (hAO : va_AO "WhyNotJoin$State" s) (hP : va_P D vwCl (ws ++ [x]) H) (hD : va_D A (ws ++ [x])) (av : List Value) : ∀ U : State, U.heap = H → s.WarmedH U.vm → va_Pc av (cn_B D tys nw x H.size) av.toArray U := by
  intro U hU hW
  exact ⟨rfl, by rw [hU], by rw [hU]; exact cn_one hP, va_K.moved hW.alike hK, (cn_oneD hD).weaken (fun _ _ _ _ => trivial), fun w hw => ⟨(hN w hw).1, fw_nw (hN w hw).1 hW (hN w hw).2⟩, hAO.moved hW.alike⟩
theorem cn_subA (hD : va_D A (ws ++ [x])) (hS : va_S A s.heap H locs) (hA : ∀ q, s.heap.size ≤ q → A q) : ∀ q, va_A [x] H.size q → A q := by
  intro q h
  rcases h with ⟨k, e, h⟩ | h
  · have h0 : k < 1 := (List.getElem?_eq_some_iff.mp h).1
    have : k = 0 := by omega
    subst this
    cases h
    exact hD.2 ws.length (q, e) (by simp)
  · exact hA q (Nat.le_trans hS.1 h)
theorem cn_after (hH : cn_H D A s H locs (ws ++ [x])) (hR : va_Run p l e R s m args below meth c H locs k n mc ms (F0 m pc ls st) rest (va_Qv (fun a : Nat → Nat => a 0 = x.1) (fun a t => va_P D vwCl (cw a) t.heap ∧ va_D (va_A [x] H.size) (cw a)) (va_A [x] H.size) (Value.ref x.1 :: As).toArray) (va_A [x] H.size))
    (kk : ∀ (a : Nat → Nat) (H1 : Heap) (locs1 : List Loc), a 0 = x.1 → cn_H D A s H1 locs1 (ws ++ cw a) → W p l e R s m args below meth c H1 locs1 (k + mc) (n + ms) Q (F0 m (pc + 3) ls rest)) : W p l e R s m args below meth c H locs k n Q (F0 m pc ls st) := by
  have hF := cn_subA hH.2.1 hH.2.2.1 hH.2.2.2
  refine va_callv hR hH.2.2.1 (fun q _ h => hF q h) hF (fun a t H1 locs1 ht hvm hw hB hz hk hS => ?_)
  obtain ⟨hB1, hB2⟩ := hB
  rw [ht] at hB1
  obtain ⟨h1, h2⟩ := cn_join hH.1 hH.2.1 hk hF hB1 hB2
  exact kk a H1 locs1 hw ⟨h1, h2, hS, hH.2.2.2⟩
theorem cn_call (X : cn_X D tys nw p m c cc nL s args own meth) (hH : cn_H D A s H locs (ws ++ [x])) (hM : cn_C l y bytes maxL rm As D tys nw x cw mc ms) (q : fw_QI y bytes maxL nn) (hml : Cond.methodLink own index y ∈ lwT) (hR : rm.frames + 1 ≤ R.frames ∧ 8 + (maxL + 11) + rm.locals ≤ R.locals) (hrc : rm.cells = mc) (hrs : rm.slots = ms) (hn : As.length = nn) (hl : ls.size = nL) (hst : st = As.reverse ++ .ref x.1 :: rest) (hr : (rest.map fun v => v.category).sum ≤ 8) (hdg : decode cc pc = .ok (.invokespecial index, 3)) (hroom : k + mc ≤ R.cells ∧ n + ms ≤ R.slots)
    (kk : ∀ (a : Nat → Nat) (H1 : Heap) (locs1 : List Loc), a 0 = x.1 → cn_H D A s H1 locs1 (ws ++ cw a) → W p l e R s m args below meth c H1 locs1 (k + mc) (n + ms) Q (F0 m (pc + 3) ls rest)) : W p l e R s m args below meth c H locs k n Q (F0 m pc ls st) :=
  cn_after hH (va_runI X.1.1 (hM H.size) (cwI nn X.1.1.2.2.2.2 (fw_gC q.1.2.2) rfl hrc hrs (X.1.1.2.2.2.2 _ q.1.2.1) (X.1.1.2.2.2.2 _ hml) (X.1.1.2.2.2.2 _ q.1.1) q.2.1 q.2.2 hR) ⟨cn_blind, cn_pre X.1.2.1 X.1.2.2.1 X.2.1 hH.1 hH.2.1 _⟩ rfl hn hl hst (lv_room hr) hdg hroom) kk
theorem cn_callN {host : String} (X : cn_X D tys nw p m c cc nL s args own meth) (hH : cn_H D A s H locs (ws ++ [x])) (hM : cn_C l y bytes maxL rm As D tys nw x cw mc ms) (q : fw_QI y bytes maxL nn) (hml : Cond.methodLinkNest own index y host ∈ nw) (hR : rm.frames + 1 ≤ R.frames ∧ 8 + (maxL + 11) + rm.locals ≤ R.locals) (hrc : rm.cells = mc) (hrs : rm.slots = ms) (hn : As.length = nn) (hl : ls.size = nL) (hst : st = As.reverse ++ .ref x.1 :: rest) (hr : (rest.map fun v => v.category).sum ≤ 8) (hdg : decode cc pc = .ok (.invokespecial index, 3)) (hroom : k + mc ≤ R.cells ∧ n + ms ≤ R.slots)
    (kk : ∀ (a : Nat → Nat) (H1 : Heap) (locs1 : List Loc), a 0 = x.1 → cn_H D A s H1 locs1 (ws ++ cw a) → W p l e R s m args below meth c H1 locs1 (k + mc) (n + ms) Q (F0 m (pc + 3) ls rest)) : W p l e R s m args below meth c H locs k n Q (F0 m pc ls st) :=
  cn_after hH (va_runIN X.1.1 (hM H.size) ⟨va_cnB nn X.1.1.2.2.2.2 (fw_gC q.1.2.2) rfl hrc hrs (X.1.2.2.1 _ hml).2 (X.1.1.2.2.2.2 _ q.1.2.1) q.2.2 hR, q.2.1, X.1.1.2.2.2.2 _ q.1.1⟩ ⟨cn_blind, cn_pre X.1.2.1 X.1.2.2.1 X.2.1 hH.1 hH.2.1 _⟩ rfl hn hl hst (lv_room hr) hdg hroom) kk
end CALL
theorem cn_ret {h0 : Nat} {cw : (Nat → Nat) → va_W} (a : Nat → Nat) (X : cn_X D tys nw p m c cc nL s args own meth) (hH : cn_H D A s H locs (cw a)) (ha : a 0 = h0) (hdg : decode cc pc = .ok (.return_, 1)) : W p l e R s m args below meth c H locs k n (MQ below (va_Qv (fun a : Nat → Nat => a 0 = h0) (fun a t => va_P D vwCl (cw a) t.heap ∧ va_D A (cw a)) A) args s k n A) (F0 m pc ls []) :=
  W.vret X.1.1.1 X.1.1.2.1 X.1.2.2.2.1 (fun t ht hW => ⟨⟨a, rfl, ha, by show va_P D vwCl _ t.heap; rw [ht]; exact hH.1, hH.2.1⟩, hH.2.2.1.F ht⟩) hH.2.2.1.2.2 hdg X.1.2.2.2.2
theorem cn_ast {q0 qk ci N' v : Nat} {a : Nat} {cO : ClassId} {vs : List Value} {r : vw_C} {f : Nat → Option Nat} {i : Int32} (X : cn_X D tys nw p m c cc nL s args own meth) (hH : cn_H D A s H locs ws) (ha : ws[q0]? = some (a, .inl (cO, N', .inr (.inr (.inr (.inr f)))))) (ht : tys[1]? = some (cO, .object r.1)) (hv : ws[qk]? = some (v, .inr (ci, vs))) (hc : vwCl[ci]? = some r) (hin : vp_in i N') (hdg : decode cc pc = .ok (.aastore, 1))
    (kk : ∀ (H1 : Heap) (locs1 : List Loc), cn_H D A s H1 locs1 (ws.set q0 (a, .inl (cO, N', .inr (.inr (.inr (.inr (va_up f i.toNatClampNeg (some v)))))))) → W p l e R s m args below meth c H1 locs1 k n Q (F0 m (pc + 1) ls rest)) : W p l e R s m args below meth c H locs k n Q (F0 m pc ls (.ref v :: .int i :: .ref a :: rest)) :=
  va_astq X.1.1.1 X.1.1.2.1 X.1.2.1 hH.1 hH.2.1 hH.2.2.1 q0 1 qk ci ha ht hv hc hin hdg (fun H1 locs1 h1 h2 h3 => kk H1 locs1 ⟨h1, h2, h3, hH.2.2.2⟩)
end CN
theorem cn_arrV {cO : ClassId} {n : Nat} {f g : Nat → Value} (h : ∀ j, j < n → f j = g j) : arrV cO n f = arrV cO n g := by
  have e : (fun j : Fin n => f j.val) = fun j => g j.val := funext fun j => h j.val j.isLt
  unfold arrV
  rw [e]
theorem cn_arrq {D : va_G} {cl : List vw_C} {x : Nat × va_E} {qa n : Nat} {cO : ClassId} {f g : Nat → Option Nat} {wr : va_W} {H : Heap} (hP : va_P D cl (x :: (qa, .inl (cO, n, .inr (.inr (.inr (.inr f))))) :: wr) H) (h : ∀ j, j < n → f j = g j) : va_P D cl (x :: (qa, .inl (cO, n, .inr (.inr (.inr (.inr g))))) :: wr) H := by
  intro k q hk
  match k, hk with
  | 0, hk => exact hP 0 q hk
  | 1, hk =>
    cases hk
    have h1 : H[qa]? = some (vp_cell cO (n, .inr (.inr (.inr (.inr f))))) := hP 1 _ rfl
    show H[qa]? = some (vp_cell cO (n, .inr (.inr (.inr (.inr g)))))
    rw [h1, vp_cell_q, vp_cell_q, cn_arrV (fun j hj => by rw [h j hj])]
  | k + 2, hk => exact hP (k + 2) q hk
theorem cn_arrs {D : va_G} {cl : List vw_C} {q0 qa n : Nat} {cO : ClassId} {f g : Nat → Option Nat} {ws : va_W} {H : Heap} (hP : va_P D cl ws H) (hq : ws[q0]? = some (qa, .inl (cO, n, .inr (.inr (.inr (.inr f)))))) (h : ∀ j, j < n → f j = g j) : va_P D cl (ws.set q0 (qa, .inl (cO, n, .inr (.inr (.inr (.inr g)))))) H := by
  have hl := (List.getElem?_eq_some_iff.mp hq).1
  intro k q hk
  by_cases hkq : k = q0
  · subst hkq
    rw [List.getElem?_set_self hl] at hk
    cases hk
    have h1 : H[qa]? = some (vp_cell cO (n, .inr (.inr (.inr (.inr f))))) := hP k _ hq
    show H[qa]? = some (vp_cell cO (n, .inr (.inr (.inr (.inr g)))))
    rw [h1, vp_cell_q, vp_cell_q, cn_arrV (fun j hj => by rw [h j hj])]
  · rw [List.getElem?_set_ne (Ne.symm hkq)] at hk
    exact hP k q hk
theorem cn_arrqD {A : Nat → Prop} {x : Nat × va_E} {qa : Nat} {e e' : va_E} {wr : va_W} (hD : va_D A (x :: (qa, e) :: wr)) : va_D A (x :: (qa, e') :: wr) := by
  have h := hD.set (p := 1) (a := qa) (e0 := e) (e := e') rfl
  exact h
def cw6 (cI : ClassId) (a : Nat → Nat) : va_W := [(a 0, .inr (6, [.ref (a 1), .int 0])), (a 1, .inl (cI, 120, .inl (fun _ => 0)))]
def cw2 (cI : ClassId) (lim : Int32) (a : Nat → Nat) : va_W := [(a 0, .inr (2, [.ref (a 1), .int lim, .int 0])), (a 1, .inl (cI, 10, .inl (fun _ => 0)))]
def cw0 (cI : ClassId) (a : Nat → Nat) : va_W := [(a 0, .inr (0, [.ref (a 1), .ref (a 2), .ref (a 3), .ref (a 4), .int 0])), (a 1, .inl (cI, 6, .inl (fun _ => 0))), (a 2, .inl (cI, 6, .inl (fun _ => 0))), (a 3, .inl (cI, 6, .inl (fun _ => 0))), (a 4, .inl (cI, 6, .inl (fun _ => 0)))]
def cw5 (cI : ClassId) (a : Nat → Nat) : va_W := (a 0, .inr (5, [.ref (a 1), .ref (a 3), .ref (a 5), .ref (a 10)])) :: (((cw2 cI 10 (fun i => a (i + 1)) ++ cw2 cI 10 (fun i => a (i + 3))) ++ cw0 cI (fun i => a (i + 5))) ++ cw2 cI 4 (fun i => a (i + 10)))
def cw3 (cI : ClassId) (a : Nat → Nat) : va_W := (a 0, .inr (3, [.ref (a 1), .ref (a 13), .ref (a 14)])) :: ((cw5 cI (fun i => a (i + 1)) ++ [(a 13, .inl (cI, 100, .inl (fun _ => 0)))]) ++ [(a 14, .inl (cI, 40, .inl (fun _ => 0)))])
def cw4 (cI : ClassId) (a : Nat → Nat) : va_W := (a 0, .inr (4, [.ref (a 1), .ref (a 3), .ref (a 4), .int 0, .int 0])) :: ((cw6 cI (fun i => a (i + 1)) ++ [(a 3, .inl (cI, 60, .inl (fun _ => 0)))]) ++ [(a 4, .inl (cI, 240, .inl (fun _ => 0)))])
def cw1 (cI cO : ClassId) (a : Nat → Nat) : va_W := (a 0, .inr (1, [.ref (a 1), .int 0, .int 0])) :: (a 1, .inl (cO, 6, .inr (.inr (.inr (.inr (fun j => some (a (2 + 12 * j)))))))) :: (((((cw5 cI (fun i => a (i + 2)) ++ cw5 cI (fun i => a (i + 14))) ++ cw5 cI (fun i => a (i + 26))) ++ cw5 cI (fun i => a (i + 38))) ++ cw5 cI (fun i => a (i + 50))) ++ cw5 cI (fun i => a (i + 62)))
