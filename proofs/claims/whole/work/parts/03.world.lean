/-! ===== the flat world: cells 0 .. N-1 at the addresses adr 0 .. adr (N-1); what they hold is read off one store ===== -/
abbrev fw_T : Type := (Nat → Nat → Int32) × Int64
def fw_g (σ : fw_T) (i k : Nat) : Int32 := σ.1 i k
def fw_h (σ : fw_T) : Int64 := σ.2
def fw_u (σ : fw_T) (i k : Nat) (v : Int32) : fw_T := (fun j l => if j = i ∧ l = k then v else σ.1 j l, σ.2)
def fw_uh (σ : fw_T) (h : Int64) : fw_T := (σ.1, h)
def fw_cp (σ : fw_T) (src dst n : Nat) : fw_T := (fun j l => if j = dst ∧ l < n then σ.1 src l else σ.1 j l, σ.2)
def fw_rd (σ : fw_T) (id n : Nat) (i : Int32) : Option Int32 := if i < 0 ∨ n ≤ i.toNatClampNeg then none else some (fw_g σ id i.toNatClampNeg)
def fw_wr (σ : fw_T) (id n : Nat) (i x : Int32) : Option fw_T := if i < 0 ∨ n ≤ i.toNatClampNeg then none else some (fw_u σ id i.toNatClampNeg x)
def fw_ix (i : Int32) (n : Nat) : Option Nat := if i < 0 ∨ n ≤ i.toNatClampNeg then none else some i.toNatClampNeg
def fw_z (v : Int32) : Option Int32 := if v = 0 ∨ v = 1 then some v else none
def fw_rz (v : Int32) (σ : fw_T) : Option (Int32 × fw_T) := if v = 0 ∨ v = 1 then some (v, σ) else none
def fw_b2 {α β : Type} (o : Option (α × fw_T)) (k : α → fw_T → Option β) : Option β := match o with
  | none => none
  | some q => k q.1 q.2
theorem fw_bd {α β : Type} {o : Option α} {k : α → Option β} {z : β} (h : o.bind k = some z) : ∃ v, o = some v ∧ k v = some z := by
  cases o with
  | none => cases h
  | some v => exact ⟨v, rfl, h⟩
theorem fw_b2s {α β : Type} {o : Option (α × fw_T)} {k : α → fw_T → Option β} {z : β} (h : fw_b2 o k = some z) : ∃ v σ, o = some (v, σ) ∧ k v σ = some z := by
  cases o with
  | none => cases h
  | some q => exact ⟨q.1, q.2, rfl, h⟩
theorem fw_s2 {α β : Type} {a r : α} {b z : β} (h : some (a, b) = some (r, z)) : a = r ∧ b = z := by
  have h := Option.some.inj h
  exact ⟨congrArg Prod.fst h, congrArg Prod.snd h⟩
theorem fw_rzs {v r : Int32} {σ σ' : fw_T} (h : fw_rz v σ = some (r, σ')) : v = r ∧ σ = σ' ∧ (v = 0 ∨ v = 1) := by
  unfold fw_rz at h
  split at h
  · rename_i hz
    cases h
    exact ⟨rfl, rfl, hz⟩
  · cases h
theorem fw_zs {v w : Int32} (h : fw_z v = some w) : v = w ∧ (v = 0 ∨ v = 1) := by
  unfold fw_z at h
  split at h
  · rename_i hz
    cases h
    exact ⟨rfl, hz⟩
  · cases h
theorem fw_rds {σ : fw_T} {id n : Nat} {i v : Int32} (h : fw_rd σ id n i = some v) : vp_in i n ∧ fw_g σ id i.toNatClampNeg = v := by
  unfold fw_rd at h
  split at h
  · cases h
  · rename_i hz
    cases h
    exact ⟨hz, rfl⟩
theorem fw_wrs {σ σ' : fw_T} {id n : Nat} {i x : Int32} (h : fw_wr σ id n i x = some σ') : vp_in i n ∧ fw_u σ id i.toNatClampNeg x = σ' := by
  unfold fw_wr at h
  split at h
  · cases h
  · rename_i hz
    cases h
    exact ⟨hz, rfl⟩
theorem fw_ixs {n k : Nat} {i : Int32} (h : fw_ix i n = some k) : vp_in i n ∧ i.toNatClampNeg = k ∧ k < n := by
  unfold fw_ix at h
  split at h
  · cases h
  · rename_i hz
    cases h
    exact ⟨hz, rfl, Nat.not_le.mp fun q => hz (Or.inr q)⟩
theorem fw_gu (σ : fw_T) (i k : Nat) (v : Int32) : fw_g (fw_u σ i k v) i = upd (fw_g σ i) k v := by
  funext l
  simp [fw_g, fw_u, upd]
theorem fw_gn (σ : fw_T) {i k j : Nat} {v : Int32} (h : j ≠ i) : fw_g (fw_u σ i k v) j = fw_g σ j := by
  funext l
  simp [fw_g, fw_u, h]
theorem fw_guh (σ : fw_T) (h : Int64) (j : Nat) : fw_g (fw_uh σ h) j = fw_g σ j := rfl
theorem fw_hu (σ : fw_T) (i k : Nat) (v : Int32) : fw_h (fw_u σ i k v) = fw_h σ := rfl
theorem fw_huh (σ : fw_T) (h : Int64) : fw_h (fw_uh σ h) = h := rfl
theorem fw_gcp (σ : fw_T) (a b n : Nat) : fw_g (fw_cp σ a b n) b = va_cpy (fw_g σ a) (fw_g σ b) 0 0 n := by
  funext l
  simp [fw_g, fw_cp, va_cpy]
theorem fw_gcn (σ : fw_T) {a b n j : Nat} (h : j ≠ b) : fw_g (fw_cp σ a b n) j = fw_g σ j := by
  funext l
  simp [fw_g, fw_cp, h]
def fw_ws (N : Nat) (adr : Nat → Nat) (cf : Nat → va_E) : va_W := (List.range N).map (fun i => (adr i, cf i))
theorem fw_at {N : Nat} {adr : Nat → Nat} {cf : Nat → va_E} {i : Nat} (h : i < N) {e : va_E} (he : cf i = e) : (fw_ws N adr cf)[i]? = some (adr i, e) := by
  subst he
  simp [fw_ws, List.getElem?_range, h]
theorem fw_inv {N : Nat} {adr : Nat → Nat} {cf : Nat → va_E} {k : Nat} {q : Nat × va_E} (h : (fw_ws N adr cf)[k]? = some q) : k < N ∧ q = (adr k, cf k) := by
  have hk : k < (fw_ws N adr cf).length := (List.getElem?_eq_some_iff.mp h).1
  have hk : k < N := by simpa [fw_ws] using hk
  rw [fw_at hk rfl] at h
  cases h
  exact ⟨hk, rfl⟩
theorem fw_set {N : Nat} {adr : Nat → Nat} {cf cf' : Nat → va_E} {i : Nat} (h : i < N) {e : va_E} (he : cf' i = e) (hn : ∀ j, j ≠ i → cf' j = cf j) : (fw_ws N adr cf).set i (adr i, e) = fw_ws N adr cf' := by
  apply List.ext_getElem?
  intro k
  by_cases hk : k = i
  · subst hk
    rw [List.getElem?_set_self (by simpa [fw_ws] using h), fw_at h he]
  · rw [List.getElem?_set_ne (Ne.symm hk)]
    by_cases hN : k < N
    · rw [fw_at hN rfl, fw_at hN (hn k hk)]
    · rw [List.getElem?_eq_none (by simpa [fw_ws] using Nat.not_lt.mp hN), List.getElem?_eq_none (by simpa [fw_ws] using Nat.not_lt.mp hN)]
theorem fw_D {N : Nat} {adr : Nat → Nat} {cf cf' : Nat → va_E} {A : Nat → Prop} (h : va_D A (fw_ws N adr cf)) : va_D A (fw_ws N adr cf') := by
  refine ⟨fun i j x y hi hj hxy => ?_, fun k q hk => ?_⟩
  · obtain ⟨h1, rfl⟩ := fw_inv hi
    obtain ⟨h2, rfl⟩ := fw_inv hj
    exact h.1 i j _ _ (fw_at h1 rfl) (fw_at h2 rfl) hxy
  · obtain ⟨h1, rfl⟩ := fw_inv hk
    exact h.2 k (adr k, cf k) (fw_at h1 rfl)
theorem fw_A {N : Nat} {adr : Nat → Nat} {cf cf' : Nat → va_E} {sz q : Nat} (h : va_A (fw_ws N adr cf) sz q) : va_A (fw_ws N adr cf') sz q := by
  rcases h with ⟨k, e, h⟩ | h
  · obtain ⟨h1, h2⟩ := fw_inv h
    cases h2
    exact Or.inl ⟨k, _, fw_at h1 rfl⟩
  · exact Or.inr h
def fw_nest : Cond → Bool
  | .fieldLinkNest _ _ _ _ _ _ => true
  | .methodLinkNest _ _ _ _ => true
  | _ => false
theorem fw_nw {w : Cond} (h : fw_nest w = true) {s U : State} (hW : s.WarmedH U.vm) (hZ : va_Nw w s) : va_Nw w U := by
  cases w <;> first | (exfalso; revert h; simp [fw_nest]; done) | exact va_Nw.warmF hW hZ | exact va_Nw.warmM hW hZ
theorem fw_nt {w : Cond} (h : fw_nest w = true) : w.onTables = true := by
  cases w <;> first | rfl | (exfalso; revert h; simp [fw_nest]; done)
/-- a method's own words -/
def fw_QV (C : String) (y : MethodName) (bytes : ByteArray) (maxL : Nat) (ret : Option FieldType) (n : Nat) : Prop :=
  (Cond.instanceMethod y ∈ lwT ∧ Cond.selects C y y ∈ lwT ∧ Cond.initialized C ∈ lwT ∧ Cond.code y bytes maxL ret ∈ lwT) ∧ (y.cls = C ∧ y.cls ≠ "java/lang/invoke/MethodHandle" ∧ y.cls ≠ "java/lang/invoke/VarHandle" ∧ (parseMethodDescriptor y.desc).map (fun d => d.parameters.length) = some n)
def fw_QS (y : MethodName) (bytes : ByteArray) (maxL : Nat) (ret : Option FieldType) (n : Nat) : Prop :=
  (Cond.static y ∈ lwT ∧ Cond.initialized y.cls ∈ lwT ∧ Cond.code y bytes maxL ret ∈ lwT) ∧ (y.cls ≠ "java/lang/invoke/MethodHandle" ∧ y.cls ≠ "java/lang/invoke/VarHandle" ∧ (parseMethodDescriptor y.desc).map (fun d => d.parameters.length) = some n)
theorem fw_good {w : Cond} (h : w ∈ lwT) : w ∈ lwT ∧ ((w.onTables && w.keeps) = true ∨ ∃ ty, w = .arrayClass ty) := ⟨h, (tw_out h).2⟩
theorem fw_gC {y : MethodName} {bytes : ByteArray} {maxL : Nat} {ret : Option FieldType} (h : Cond.code y bytes maxL ret ∈ lwT) : GoodIn lwT (Cond.code y bytes maxL ret :: lwT) := by
  intro w hw
  rcases List.mem_cons.mp hw with rfl | hw
  · exact fw_good h
  · exact fw_good hw
theorem fw_gV {own C : String} {index maxL : Nat} {y : MethodName} {bytes : ByteArray} {ret : Option FieldType} (h0 : Cond.methodLink own index y ∈ lwT) (h : Cond.instanceMethod y ∈ lwT ∧ Cond.selects C y y ∈ lwT ∧ Cond.initialized C ∈ lwT ∧ Cond.code y bytes maxL ret ∈ lwT) : GoodIn lwT (wsV own index C y (Cond.code y bytes maxL ret :: lwT)) := by
  intro w hw
  unfold wsV at hw
  rcases List.mem_append.mp hw with hw | hw
  · rcases List.mem_cons.mp hw with rfl | hw
    · exact fw_good h0
    · rcases List.mem_cons.mp hw with rfl | hw
      · exact fw_good h.1
      · rcases List.mem_cons.mp hw with rfl | hw
        · exact fw_good h.2.1
        · rcases List.mem_cons.mp hw with rfl | hw
          · exact fw_good h.2.2.1
          · exact absurd hw List.not_mem_nil
  · exact fw_gC h.2.2.2 w hw
theorem fw_gS {own : String} {index maxL : Nat} {y : MethodName} {bytes : ByteArray} {ret : Option FieldType} (h0 : Cond.methodLink own index y ∈ lwT) (h : Cond.static y ∈ lwT ∧ Cond.initialized y.cls ∈ lwT ∧ Cond.code y bytes maxL ret ∈ lwT) : GoodIn lwT (va_wsS own index y (Cond.code y bytes maxL ret :: lwT)) := by
  intro w hw
  unfold va_wsS at hw
  rcases List.mem_append.mp hw with hw | hw
  · rcases List.mem_cons.mp hw with rfl | hw
    · exact fw_good h0
    · rcases List.mem_cons.mp hw with rfl | hw
      · exact fw_good h.1
      · rcases List.mem_cons.mp hw with rfl | hw
        · exact fw_good h.2.1
        · exact absurd hw List.not_mem_nil
  · exact fw_gC h.2.2 w hw
theorem fw_pos {c : Prop} [Decidable c] {α : Type} {a b z : α} (h : c) (hf : (if c then a else b) = z) : a = z := by rw [if_pos h] at hf; exact hf
theorem fw_neg {c : Prop} [Decidable c] {α : Type} {a b z : α} (h : ¬ c) (hf : (if c then a else b) = z) : b = z := by rw [if_neg h] at hf; exact hf
theorem fw_nz {v : Int32} (h : v = 0 ∨ v = 1) : narrow .boolean (.int v) = .int v := by rcases h with rfl | rfl <;> decide
theorem fw_fz {v : Int32} (h : v = 0 ∨ v = 1) : fits .boolean (.int v) = true := by rcases h with rfl | rfl <;> decide
/-- a method's start: the heap holds the store; the tables' words of nest mates -/
def fw_B (D : va_G) (N : Nat) (adr : Nat → Nat) (F : fw_T → Nat → va_E) (tys : List (ClassId × FieldType)) (nw : List Cond) (σ : fw_T) (sz : Nat) (U : State) : Prop :=
  U.heap.size = sz ∧ va_P D vwCl (fw_ws N adr (F σ)) U.heap ∧ va_K D vwCl tys U ∧ va_D (fun _ => True) (fw_ws N adr (F σ)) ∧ ∀ w ∈ nw, fw_nest w = true ∧ va_Nw w U
theorem fw_blind {D : va_G} {N : Nat} {adr : Nat → Nat} {F : fw_T → Nat → va_E} {tys : List (ClassId × FieldType)} {nw : List Cond} {σ : fw_T} {sz : Nat} {av : List Value} : FrameBlind (va_Pc av (fw_B D N adr F tys nw σ sz)) := by
  intro a U g mk q
  obtain ⟨q0, q1, qP, qK, qD, qN⟩ := q
  exact ⟨q0, q1, qP, va_K.moved (u := U) (U := U.calling g mk a) (Vm.Alike.refl U.vm) qK, qD, fun w hw => ⟨(qN w hw).1, va_Nw.same (fw_nt (qN w hw).1) (u := U) (U := U.calling g mk a) rfl (qN w hw).2⟩⟩
/-- what stands fixed through a method's body -/
def fw_X (D : va_G) (tys : List (ClassId × FieldType)) (nw : List Cond) (p : Program) (m : MethodId) (c : Code) (cc : ByteArray) (nL : Nat) (s : State) (args : Array Value) (own : String) (meth : Method) (ret : Option FieldType) : Prop :=
  CallFix p m c cc nL s args lwT own ∧ va_K D vwCl tys s ∧ (∀ w ∈ nw, fw_nest w = true ∧ va_Nw w s) ∧ meth.sig.returnType = ret ∧ meth.locks = false
/-- the heap now holds the store -/
def fw_H (D : va_G) (N : Nat) (adr : Nat → Nat) (F : fw_T → Nat → va_E) (A : Nat → Prop) (H0 H : Heap) (locs : List Loc) (σ : fw_T) : Prop :=
  va_P D vwCl (fw_ws N adr (F σ)) H ∧ va_D A (fw_ws N adr (F σ)) ∧ va_S A H0 H locs ∧ ∀ q, H0.size ≤ q → A q
abbrev fw_Ci (l : Launch) (y : MethodName) (ws : List Cond) (rm : Room) (av : List Value) (D : va_G) (N : Nat) (adr : Nat → Nat) (F : fw_T → Nat → va_E) (tys : List (ClassId × FieldType)) (nw : List Cond) (σ : fw_T) (r : Int32) (σ' : fw_T) : Prop :=
  ∀ sz : Nat, Met l y ws rm (va_Pc av (fw_B D N adr F tys nw σ sz)) (va_Qi (fun r' (_ : Unit) => r' = r) (fun _ t => va_P D vwCl (fw_ws N adr (F σ')) t.heap) (va_A (fw_ws N adr (F σ)) sz)) 0 0 (va_A (fw_ws N adr (F σ)) sz)
abbrev fw_Cl (l : Launch) (y : MethodName) (ws : List Cond) (rm : Room) (av : List Value) (D : va_G) (N : Nat) (adr : Nat → Nat) (F : fw_T → Nat → va_E) (tys : List (ClassId × FieldType)) (nw : List Cond) (σ : fw_T) (r : Int64) (σ' : fw_T) : Prop :=
  ∀ sz : Nat, Met l y ws rm (va_Pc av (fw_B D N adr F tys nw σ sz)) (va_Ql (fun r' (_ : Unit) => r' = r) (fun _ t => va_P D vwCl (fw_ws N adr (F σ')) t.heap) (va_A (fw_ws N adr (F σ)) sz)) 0 0 (va_A (fw_ws N adr (F σ)) sz)
abbrev fw_Cv (l : Launch) (y : MethodName) (ws : List Cond) (rm : Room) (av : List Value) (D : va_G) (N : Nat) (adr : Nat → Nat) (F : fw_T → Nat → va_E) (tys : List (ClassId × FieldType)) (nw : List Cond) (σ : fw_T) (σ' : fw_T) : Prop :=
  ∀ sz : Nat, Met l y ws rm (va_Pc av (fw_B D N adr F tys nw σ sz)) (va_Qv (fun (_ : Unit) => True) (fun _ t => va_P D vwCl (fw_ws N adr (F σ')) t.heap) (va_A (fw_ws N adr (F σ)) sz)) 0 0 (va_A (fw_ws N adr (F σ)) sz)
abbrev fw_Qi (D : va_G) (N : Nat) (adr : Nat → Nat) (F : fw_T → Nat → va_E) (A : Nat → Prop) (below : List Frame) (args : Array Value) (s : State) (r : Int32) (σ' : fw_T) : State → Prop :=
  MQ below (va_Qi (fun r' (_ : Unit) => r' = r) (fun _ t => va_P D vwCl (fw_ws N adr (F σ')) t.heap) A) args s 0 0 A
abbrev fw_Ql (D : va_G) (N : Nat) (adr : Nat → Nat) (F : fw_T → Nat → va_E) (A : Nat → Prop) (below : List Frame) (args : Array Value) (s : State) (r : Int64) (σ' : fw_T) : State → Prop :=
  MQ below (va_Ql (fun r' (_ : Unit) => r' = r) (fun _ t => va_P D vwCl (fw_ws N adr (F σ')) t.heap) A) args s 0 0 A
abbrev fw_Qv (D : va_G) (N : Nat) (adr : Nat → Nat) (F : fw_T → Nat → va_E) (A : Nat → Prop) (below : List Frame) (args : Array Value) (s : State) (σ' : fw_T) : State → Prop :=
  MQ below (va_Qv (fun (_ : Unit) => True) (fun _ t => va_P D vwCl (fw_ws N adr (F σ')) t.heap) A) args s 0 0 A
section FW
variable {p : Program} {l : Launch} {e : Env} {R : Room} {s : State} {m : MethodId} {args : Array Value} {below : List Frame} {meth : Method} {c : Code} {H : Heap} {locs : List Loc} {Q : State → Prop}
variable {D : va_G} {N : Nat} {adr : Nat → Nat} {F : fw_T → Nat → va_E} {tys : List (ClassId × FieldType)} {nw : List Cond} {A : Nat → Prop} {σ σ' : fw_T}
variable {cc : ByteArray} {nL : Nat} {own : String} {ret : Option FieldType}
variable {pc : Nat} {ls : Array Slot} {rest : List Value}
theorem fw_start {y : MethodName} {rm : Room} {av : List Value} {maxL : Nat} {Qc : (Nat → Prop) → Array Value → State → Outcome → State → Prop} (hy : plainName y.cls = true) (hle : (lg_sl av).length ≤ maxL) (ho : y.cls = own)
    (body : ∀ (p : Program) (e : Env) (s : State) (m : MethodId) (below : List Frame) (meth : Method) (c : Code) (A : Nat → Prop), fw_X D tys nw p m c cc maxL s av.toArray own meth ret → fw_H D N adr F A s.heap s.heap [] σ → ∀ ls : Array Slot, lv_has ls maxL (lv_args 0 av) →
      W p l e rm s m av.toArray below meth c s.heap [] 0 0 (MQ below (Qc A) av.toArray s 0 0 A) (F0 m 0 ls [])) : ∀ sz : Nat, Met l y (Cond.code y cc maxL ret :: lwT) rm (va_Pc av (fw_B D N adr F tys nw σ sz)) (Qc (va_A (fw_ws N adr (F σ)) sz)) 0 0 (va_A (fw_ws N adr (F σ)) sz) := by
  intro sz
  refine Met.ofW (cc := cc) (maxL := maxL) (ret := ret) hy rfl ?_
  intro p e s m args below meth c s₁ B hml hv
  obtain ⟨rfl, hsz, hP, hK, hD0, hN⟩ := hv
  subst hsz
  rw [lg_entry_eq]
  have hts := atoms_spec (ws := Cond.code y cc maxL ret :: lwT) B.pre
  exact body p e s m below meth c _ ⟨⟨B.exec, B.bytes, hml, ho ▸ findClass_of_methodNamed B.named, fun w h => hts w (List.mem_cons_of_mem _ h)⟩, hK, hN, B.returns, B.notSynchronized⟩ ⟨hP, hD0.self, va_S.rf, fun q h => Or.inr h⟩ _ (lv_entry av hle)
theorem fw_sub (hH : fw_H D N adr F A s.heap H locs σ) : ∀ q, va_A (fw_ws N adr (F σ)) H.size q → A q := by
  intro q h
  rcases h with ⟨k, e, h⟩ | h
  · exact hH.2.1.2 k (q, e) h
  · exact hH.2.2.2 q (Nat.le_trans hH.2.2.1.1 h)
section CALL
variable {y : MethodName} {bytes : ByteArray} {maxL n index : Nat} {rt : Option FieldType} {ws : List Cond} {rm : Room} {Qc : Array Value → State → Outcome → State → Prop} {free : Addr → Prop} {As : List Value} {st : List Value}
theorem fw_pre (X : fw_X D tys nw p m c cc nL s args own meth ret) (hH : fw_H D N adr F A s.heap H locs σ) (av : List Value) : ∀ U : State, U.heap = H → s.WarmedH U.vm → va_Pc av (fw_B D N adr F tys nw σ H.size) av.toArray U := by
  intro U hU hW
  exact ⟨rfl, by rw [hU], by rw [hU]; exact hH.1, va_K.moved hW.alike X.2.1, hH.2.1.weaken (fun _ _ _ _ => trivial), fun w hw => ⟨(X.2.2.1 w hw).1, fw_nw (X.2.2.1 w hw).1 hW (X.2.2.1 w hw).2⟩⟩
theorem fw_rV (X : fw_X D tys nw p m c cc nL s args own meth ret) (hH : fw_H D N adr F A s.heap H locs σ) {id ci : Nat} {fs : List Value} {C : String} {T : u_T} {Nf : Nat} (hM : Met l y (Cond.code y bytes maxL rt :: lwT) rm (va_Pc (.ref (adr id) :: As) (fw_B D N adr F tys nw σ H.size)) Qc 0 0 free) (q : fw_QV C y bytes maxL rt n) (hml : Cond.methodLink own index y ∈ lwT) (hR : rm.frames + 1 ≤ R.frames ∧ 8 + (maxL + 11) + rm.locals ≤ R.locals) (hrc : rm.cells = 0) (hrs : rm.slots = 0)
    (hid : id < N) (hF : F σ id = .inr (ci, fs)) (hc : vwCl[ci]? = some (C, T, Nf)) (hn : As.length = n) (hl : ls.size = nL) (hst : st = As.reverse ++ .ref (adr id) :: rest) (hr : (rest.map fun v => v.category).sum ≤ 8) (hdg : decode cc pc = .ok (.invokevirtual index, 3)) :
    va_Run p l e R s m args below meth c H locs 0 0 0 0 (F0 m pc ls st) rest (Qc (Value.ref (adr id) :: As).toArray) free :=
  va_runV X.1 hM (cwV n X.1.2.2.2.2 (fw_gV hml q.1) rfl hrc hrs q.2 hR) ⟨fw_blind, va_recv (q := (C, T, Nf)) X.2.1 hH.1 hc (fw_at hid hF), fw_pre X hH _⟩ rfl hn hl hst (lv_room hr) hdg ⟨Nat.zero_le _, Nat.zero_le _⟩
theorem fw_rS (X : fw_X D tys nw p m c cc nL s args own meth ret) (hH : fw_H D N adr F A s.heap H locs σ) (hM : Met l y (Cond.code y bytes maxL rt :: lwT) rm (va_Pc As (fw_B D N adr F tys nw σ H.size)) Qc 0 0 free) (q : fw_QS y bytes maxL rt n) (hml : Cond.methodLink own index y ∈ lwT) (hR : rm.frames + 1 ≤ R.frames ∧ 8 + (maxL + 11) + rm.locals ≤ R.locals) (hrc : rm.cells = 0) (hrs : rm.slots = 0)
    (hn : As.length = n) (hl : ls.size = nL) (hst : st = As.reverse ++ rest) (hr : (rest.map fun v => v.category).sum ≤ 8) (hdg : decode cc pc = .ok (.invokestatic index, 3)) :
    va_Run p l e R s m args below meth c H locs 0 0 0 0 (F0 m pc ls st) rest (Qc As.toArray) free :=
  va_runS X.1 hM (va_cwS n X.1.2.2.2.2 (fw_gS hml q.1) rfl hrc hrs q.2 hR) ⟨fw_blind, fw_pre X hH _⟩ rfl hn hl hst (lv_room hr) hdg ⟨Nat.zero_le _, Nat.zero_le _⟩
theorem fw_rN (X : fw_X D tys nw p m c cc nL s args own meth ret) (hH : fw_H D N adr F A s.heap H locs σ) {host : String} (hM : Met l y (Cond.code y bytes maxL rt :: lwT) rm (va_Pc As (fw_B D N adr F tys nw σ H.size)) Qc 0 0 free) (q : fw_QS y bytes maxL rt n) (hml : Cond.methodLinkNest own index y host ∈ nw) (hR : rm.frames + 1 ≤ R.frames ∧ 8 + (maxL + 11) + rm.locals ≤ R.locals) (hrc : rm.cells = 0) (hrs : rm.slots = 0)
    (hn : As.length = n) (hl : ls.size = nL) (hst : st = As.reverse ++ rest) (hr : (rest.map fun v => v.category).sum ≤ 8) (hdg : decode cc pc = .ok (.invokestatic index, 3)) :
    va_Run p l e R s m args below meth c H locs 0 0 0 0 (F0 m pc ls st) rest (Qc As.toArray) free :=
  va_runSN X.1 hM ⟨va_cnB n X.1.2.2.2.2 (fw_gC q.1.2.2) rfl hrc hrs (X.2.2.1 _ hml).2 (X.1.2.2.2.2 _ q.1.2.1) q.2 hR, X.1.2.2.2.2 _ q.1.1, trivial⟩ ⟨fw_blind, fw_pre X hH _⟩ rfl hn hl hst (lv_room hr) hdg ⟨Nat.zero_le _, Nat.zero_le _⟩
theorem fw_ci {r : Int32} {a : Array Value} (hH : fw_H D N adr F A s.heap H locs σ) (hR : va_Run p l e R s m args below meth c H locs 0 0 0 0 (F0 m pc ls st) rest (va_Qi (fun r' (_ : Unit) => r' = r) (fun _ t => va_P D vwCl (fw_ws N adr (F σ')) t.heap) (va_A (fw_ws N adr (F σ)) H.size) a) (va_A (fw_ws N adr (F σ)) H.size))
    (kk : ∀ (H1 : Heap) (locs1 : List Loc), fw_H D N adr F A s.heap H1 locs1 σ' → W p l e R s m args below meth c H1 locs1 0 0 Q (F0 m (pc + 3) ls (.int r :: rest))) : W p l e R s m args below meth c H locs 0 0 Q (F0 m pc ls st) := by
  refine va_calli hR hH.2.2.1 (fun q _ h => fw_sub hH q h) (fw_sub hH) (fun r' u t H1 locs1 ht hvm hw hB hz hk hS => ?_)
  subst hw
  exact kk H1 locs1 ⟨by rw [← ht]; exact hB, fw_D hH.2.1, hS, hH.2.2.2⟩
theorem fw_cl {r : Int64} {a : Array Value} (hH : fw_H D N adr F A s.heap H locs σ) (hR : va_Run p l e R s m args below meth c H locs 0 0 0 0 (F0 m pc ls st) rest (va_Ql (fun r' (_ : Unit) => r' = r) (fun _ t => va_P D vwCl (fw_ws N adr (F σ')) t.heap) (va_A (fw_ws N adr (F σ)) H.size) a) (va_A (fw_ws N adr (F σ)) H.size))
    (kk : ∀ (H1 : Heap) (locs1 : List Loc), fw_H D N adr F A s.heap H1 locs1 σ' → W p l e R s m args below meth c H1 locs1 0 0 Q (F0 m (pc + 3) ls (.long r :: rest))) : W p l e R s m args below meth c H locs 0 0 Q (F0 m pc ls st) := by
  refine va_calll hR hH.2.2.1 (fun q _ h => fw_sub hH q h) (fw_sub hH) (fun r' u t H1 locs1 ht hvm hw hB hz hk hS => ?_)
  subst hw
  exact kk H1 locs1 ⟨by rw [← ht]; exact hB, fw_D hH.2.1, hS, hH.2.2.2⟩
theorem fw_cv {a : Array Value} (hH : fw_H D N adr F A s.heap H locs σ) (hR : va_Run p l e R s m args below meth c H locs 0 0 0 0 (F0 m pc ls st) rest (va_Qv (fun (_ : Unit) => True) (fun _ t => va_P D vwCl (fw_ws N adr (F σ')) t.heap) (va_A (fw_ws N adr (F σ)) H.size) a) (va_A (fw_ws N adr (F σ)) H.size))
    (kk : ∀ (H1 : Heap) (locs1 : List Loc), fw_H D N adr F A s.heap H1 locs1 σ' → W p l e R s m args below meth c H1 locs1 0 0 Q (F0 m (pc + 3) ls rest)) : W p l e R s m args below meth c H locs 0 0 Q (F0 m pc ls st) := by
  refine va_callv hR hH.2.2.1 (fun q _ h => fw_sub hH q h) (fw_sub hH) (fun u t H1 locs1 ht hvm hw hB hz hk hS => ?_)
  exact kk H1 locs1 ⟨by rw [← ht]; exact hB, fw_D hH.2.1, hS, hH.2.2.2⟩
end CALL
theorem fw_reti {r : Int32} (X : fw_X D tys nw p m c cc nL s args own meth (some .int)) (hH : fw_H D N adr F A s.heap H locs σ) (hdg : decode cc pc = .ok (.ireturn, 1)) : W p l e R s m args below meth c H locs 0 0 (fw_Qi D N adr F A below args s r σ) (F0 m pc ls [.int r]) :=
  W.iret (v := r) X.1.1 X.1.2.1 X.2.2.2.1 (fun t ht hW => ⟨⟨r, (), rfl, rfl, by show va_P D vwCl _ t.heap; rw [ht]; exact hH.1⟩, hH.2.2.1.F ht⟩) hH.2.2.1.2.2 hdg X.2.2.2.2
theorem fw_retz {r : Int32} (X : fw_X D tys nw p m c cc nL s args own meth (some .boolean)) (hH : fw_H D N adr F A s.heap H locs σ) (hz : r = 0 ∨ r = 1) (hdg : decode cc pc = .ok (.ireturn, 1)) : W p l e R s m args below meth c H locs 0 0 (fw_Qi D N adr F A below args s r σ) (F0 m pc ls [.int r]) :=
  W.zret (v := r) (ty := .boolean) X.1.1 X.1.2.1 X.2.2.2.1 (by rcases hz with rfl | rfl <;> decide) (fun t ht hW => ⟨⟨r, (), rfl, rfl, by show va_P D vwCl _ t.heap; rw [ht]; exact hH.1⟩, hH.2.2.1.F ht⟩) hH.2.2.1.2.2 hdg X.2.2.2.2
theorem fw_retl {r : Int64} (X : fw_X D tys nw p m c cc nL s args own meth (some .long)) (hH : fw_H D N adr F A s.heap H locs σ) (hdg : decode cc pc = .ok (.lreturn, 1)) : W p l e R s m args below meth c H locs 0 0 (fw_Ql D N adr F A below args s r σ) (F0 m pc ls [.long r]) :=
  W.lret (v := r) X.1.1 X.1.2.1 X.2.2.2.1 (fun t ht hW => ⟨⟨r, (), rfl, rfl, by show va_P D vwCl _ t.heap; rw [ht]; exact hH.1⟩, hH.2.2.1.F ht⟩) hH.2.2.1.2.2 hdg X.2.2.2.2
theorem fw_retv (X : fw_X D tys nw p m c cc nL s args own meth none) (hH : fw_H D N adr F A s.heap H locs σ) (hdg : decode cc pc = .ok (.return_, 1)) : W p l e R s m args below meth c H locs 0 0 (fw_Qv D N adr F A below args s σ) (F0 m pc ls []) :=
  W.vret X.1.1 X.1.2.1 X.2.2.2.1 (fun t ht hW => ⟨⟨(), rfl, trivial, by show va_P D vwCl _ t.heap; rw [ht]; exact hH.1⟩, hH.2.2.1.F ht⟩) hH.2.2.1.2.2 hdg X.2.2.2.2
theorem fw_get {id ci Nf k index : Nat} {fs : List Value} {C : String} {T : u_T} {v : Value} (X : fw_X D tys nw p m c cc nL s args own meth ret) (hH : fw_H D N adr F A s.heap H locs σ) (hid : id < N) (hF : F σ id = .inr (ci, fs)) (hc : vwCl[ci]? = some (C, T, Nf)) (hin : ∀ w ∈ u_ws C T Nf, w ∈ lwT) (hk : k < Nf) (hv : fs[k]? = some v)
    (hl : Cond.fieldLink own index (T k).1 (T k).2.1 (T k).2.2.1 ∈ lwT) (hdg : decode cc pc = .ok (.getfield index, 3)) (kk : W p l e R s m args below meth c H locs 0 0 Q (F0 m (pc + 3) ls (v :: rest))) : W p l e R s m args below meth c H locs 0 0 Q (F0 m pc ls (.ref (adr id) :: rest)) :=
  va_get (D := D) X.1.1 X.1.2.1 X.1.2.2.2.2 hin X.1.2.2.2.1 X.2.1 hH.1 id (fw_at hid hF) hc k hk (X.1.2.2.2.2 _ hl) (fun _ h => h) hv hdg kk
theorem fw_getN {id ci Nf k index : Nat} {fs : List Value} {C host : String} {T : u_T} {v : Value} (X : fw_X D tys nw p m c cc nL s args own meth ret) (hH : fw_H D N adr F A s.heap H locs σ) (hid : id < N) (hF : F σ id = .inr (ci, fs)) (hc : vwCl[ci]? = some (C, T, Nf)) (hin : ∀ w ∈ u_ws C T Nf, w ∈ lwT) (hk : k < Nf) (hv : fs[k]? = some v)
    (hl : Cond.fieldLinkNest own index (T k).1 (T k).2.1 (T k).2.2.1 host ∈ nw) (hdg : decode cc pc = .ok (.getfield index, 3)) (kk : W p l e R s m args below meth c H locs 0 0 Q (F0 m (pc + 3) ls (v :: rest))) : W p l e R s m args below meth c H locs 0 0 Q (F0 m pc ls (.ref (adr id) :: rest)) :=
  va_getN (D := D) X.1.1 X.1.2.1 X.1.2.2.2.2 hin X.1.2.2.2.1 X.2.1 hH.1 id (fw_at hid hF) hc k hk (va_Nw.use rfl (X.2.2.1 _ hl).2) (fun _ h => h) hv hdg kk
theorem fw_put {id ci Nf k index : Nat} {fs : List Value} {C : String} {T : u_T} {v : Value} {ty : FieldType} (X : fw_X D tys nw p m c cc nL s args own meth ret) (hH : fw_H D N adr F A s.heap H locs σ) (hid : id < N) (hF : F σ id = .inr (ci, fs)) (hF' : F σ' id = .inr (ci, fs.set k v)) (hne : ∀ j, j ≠ id → F σ' j = F σ j) (hc : vwCl[ci]? = some (C, T, Nf)) (hin : ∀ w ∈ u_ws C T Nf, w ∈ lwT) (ty0 : Nat → FieldType) (hty : ∀ k, k < Nf → parseFieldDescriptor (T k).2.2.1 = some (ty0 k)) (hnm : ∀ a, a < Nf → ∀ b, b < Nf → a ≠ b → (T a).2.1 ≠ (T b).2.1) (hk : k < Nf) (hkl : k < fs.length)
    (hfin : (T k).2.2.2 = false) (hd : parseFieldDescriptor (T k).2.2.1 = some ty) (hn : narrow ty v = v) (hfit : fits ty v = true) (hl : Cond.fieldLink own index (T k).1 (T k).2.1 (T k).2.2.1 ∈ lwT) (hdg : decode cc pc = .ok (.putfield index, 3))
    (kk : ∀ (H1 : Heap) (locs1 : List Loc), fw_H D N adr F A s.heap H1 locs1 σ' → W p l e R s m args below meth c H1 locs1 0 0 Q (F0 m (pc + 3) ls rest)) : W p l e R s m args below meth c H locs 0 0 Q (F0 m pc ls (v :: .ref (adr id) :: rest)) := by
  refine va_put (D := D) X.1.1 X.1.2.1 X.1.2.2.2.2 hin ty0 hty hnm X.1.2.2.2.1 X.2.1 hH.1 hH.2.1 hH.2.2.1 id (fw_at hid hF) hc k hk (X.1.2.2.2.2 _ hl) (fun _ h => h) hfin hd hn hfit hkl hdg (fun H1 locs1 hP hD hS => ?_)
  rw [fw_set hid hF' hne] at hP
  exact kk H1 locs1 ⟨hP, fw_D hH.2.1, hS, hH.2.2.2⟩
theorem fw_iald {id n : Nat} {cA : ClassId} {i v : Int32} (X : fw_X D tys nw p m c cc nL s args own meth ret) (hH : fw_H D N adr F A s.heap H locs σ) (hid : id < N) (hF : F σ id = .inl (cA, n, .inl (fw_g σ id))) (ht : tys[0]? = some (cA, .int)) (hr : fw_rd σ id n i = some v) (hdg : decode cc pc = .ok (.iaload, 1))
    (kk : W p l e R s m args below meth c H locs 0 0 Q (F0 m (pc + 1) ls (.int v :: rest))) : W p l e R s m args below meth c H locs 0 0 Q (F0 m pc ls (.int i :: .ref (adr id) :: rest)) := by
  obtain ⟨h1, h2⟩ := fw_rds hr
  subst h2
  exact va_iald X.1.1 X.1.2.1 X.2.1 hH.1 id 0 (fw_at hid hF) ht h1 hdg kk
theorem fw_bald {id n : Nat} {cA : ClassId} {i v : Int32} (X : fw_X D tys nw p m c cc nL s args own meth ret) (hH : fw_H D N adr F A s.heap H locs σ) (hid : id < N) (hF : F σ id = .inl (cA, n, .inl (fw_g σ id))) (ht : tys[1]? = some (cA, .byte)) (hr : fw_rd σ id n i = some v) (hdg : decode cc pc = .ok (.baload, 1))
    (kk : W p l e R s m args below meth c H locs 0 0 Q (F0 m (pc + 1) ls (.int v :: rest))) : W p l e R s m args below meth c H locs 0 0 Q (F0 m pc ls (.int i :: .ref (adr id) :: rest)) := by
  obtain ⟨h1, h2⟩ := fw_rds hr
  subst h2
  exact va_bald X.1.1 X.1.2.1 X.2.1 hH.1 id 1 (fw_at hid hF) ht h1 hdg kk
theorem fw_iast {id n : Nat} {cA : ClassId} {i x : Int32} (X : fw_X D tys nw p m c cc nL s args own meth ret) (hH : fw_H D N adr F A s.heap H locs σ) (hid : id < N) (hF : ∀ σ, F σ id = .inl (cA, n, .inl (fw_g σ id))) (hne : ∀ k x j, j ≠ id → F (fw_u σ id k x) j = F σ j) (ht : tys[0]? = some (cA, .int)) (hr : fw_wr σ id n i x = some σ') (hdg : decode cc pc = .ok (.iastore, 1))
    (kk : ∀ (H1 : Heap) (locs1 : List Loc), fw_H D N adr F A s.heap H1 locs1 σ' → W p l e R s m args below meth c H1 locs1 0 0 Q (F0 m (pc + 1) ls rest)) : W p l e R s m args below meth c H locs 0 0 Q (F0 m pc ls (.int x :: .int i :: .ref (adr id) :: rest)) := by
  obtain ⟨h1, h2⟩ := fw_wrs hr
  subst h2
  refine va_iast X.1.1 X.1.2.1 X.2.1 hH.1 hH.2.1 hH.2.2.1 id 0 (fw_at hid (hF σ)) ht h1 hdg (fun H1 locs1 hP hD hS => ?_)
  rw [fw_set (cf' := F (fw_u σ id i.toNatClampNeg x)) hid (by rw [hF, fw_gu]) (hne _ _)] at hP
  exact kk H1 locs1 ⟨hP, fw_D hH.2.1, hS, hH.2.2.2⟩
theorem fw_bast {id n : Nat} {cA : ClassId} {i x : Int32} (X : fw_X D tys nw p m c cc nL s args own meth ret) (hH : fw_H D N adr F A s.heap H locs σ) (hid : id < N) (hF : ∀ σ, F σ id = .inl (cA, n, .inl (fw_g σ id))) (hne : ∀ k x j, j ≠ id → F (fw_u σ id k x) j = F σ j) (ht : tys[1]? = some (cA, .byte)) (hr : fw_wr σ id n i (vp_nar .byte x) = some σ') (hdg : decode cc pc = .ok (.bastore, 1))
    (kk : ∀ (H1 : Heap) (locs1 : List Loc), fw_H D N adr F A s.heap H1 locs1 σ' → W p l e R s m args below meth c H1 locs1 0 0 Q (F0 m (pc + 1) ls rest)) : W p l e R s m args below meth c H locs 0 0 Q (F0 m pc ls (.int x :: .int i :: .ref (adr id) :: rest)) := by
  obtain ⟨h1, h2⟩ := fw_wrs hr
  subst h2
  refine va_bast X.1.1 X.1.2.1 X.2.1 hH.1 hH.2.1 hH.2.2.1 id 1 (fw_at hid (hF σ)) ht h1 hdg (fun H1 locs1 hP hD hS => ?_)
  rw [fw_set (cf' := F (fw_u σ id i.toNatClampNeg (vp_nar .byte x))) hid (by rw [hF, fw_gu]) (hne _ _)] at hP
  exact kk H1 locs1 ⟨hP, fw_D hH.2.1, hS, hH.2.2.2⟩
theorem fw_aald {id n k : Nat} {cA : ClassId} {C : String} {i : Int32} {f : Nat → Nat} (X : fw_X D tys nw p m c cc nL s args own meth ret) (hH : fw_H D N adr F A s.heap H locs σ) (hid : id < N) (hF : F σ id = .inl (cA, n, .inr (.inr (.inr (.inr (fun j => some (adr (f j)))))))) (ht : tys[1]? = some (cA, .object C)) (hr : fw_ix i n = some k) (hdg : decode cc pc = .ok (.aaload, 1))
    (kk : W p l e R s m args below meth c H locs 0 0 Q (F0 m (pc + 1) ls (.ref (adr (f k)) :: rest))) : W p l e R s m args below meth c H locs 0 0 Q (F0 m pc ls (.int i :: .ref (adr id) :: rest)) := by
  obtain ⟨h1, h2, -⟩ := fw_ixs hr
  subst h2
  exact va_aldq X.1.1 X.1.2.1 X.2.1 hH.1 id 1 (fw_at hid hF) ht h1 hdg kk
theorem fw_alen {id n : Nat} {cA : ClassId} {v : Int32} (X : fw_X D tys nw p m c cc nL s args own meth ret) (hH : fw_H D N adr F A s.heap H locs σ) (hid : id < N) (hF : F σ id = .inl (cA, n, .inl (fw_g σ id))) (ht : tys[0]? = some (cA, .int)) (hv : Int32.ofNat n = v) (hdg : decode cc pc = .ok (.arraylength, 1))
    (kk : W p l e R s m args below meth c H locs 0 0 Q (F0 m (pc + 1) ls (.int v :: rest))) : W p l e R s m args below meth c H locs 0 0 Q (F0 m pc ls (.ref (adr id) :: rest)) :=
  va_alen X.1.1 X.1.2.1 X.2.1 hH.1 id 0 (fw_at hid hF) ht hv hdg kk
theorem fw_acp {src dst n0 n1 n index : Nat} {cA : ClassId} {nn : Int32} (X : fw_X D tys nw p m c cc nL s args own meth ret) (hH : fw_H D N adr F A s.heap H locs σ) (hls : ls.size = nL) (hid : src < N) (hid' : dst < N) (hF : F σ src = .inl (cA, n0, .inl (fw_g σ src))) (hF1 : ∀ σ, F σ dst = .inl (cA, n1, .inl (fw_g σ dst))) (hne : ∀ j, j ≠ dst → F (fw_cp σ src dst n) j = F σ j) (ht : tys[0]? = some (cA, .int))
    (hn : nn.toNatClampNeg = n) (hn0 : ¬ nn < 0) (h0 : n ≤ n0) (h1 : n ≤ n1) (hlink : Cond.methodLink own index arraycopyName ∈ lwT) (hnat : Cond.native arraycopyName ∈ lwT) (hstat : Cond.static arraycopyName ∈ lwT) (hini : Cond.initialized "java/lang/System" ∈ lwT) (hfr : 1 ≤ R.frames) (hlo : (rest.map fun v => v.category).sum + 18 ≤ R.locals) (hdg : decode cc pc = .ok (.invokestatic index, 3))
    (kk : ∀ (H1 : Heap) (locs1 : List Loc), fw_H D N adr F A s.heap H1 locs1 (fw_cp σ src dst n) → W p l e R s m args below meth c H1 locs1 0 0 Q (F0 m (pc + 3) ls rest)) : W p l e R s m args below meth c H locs 0 0 Q (F0 m pc ls (.int nn :: .int 0 :: .ref (adr dst) :: .int 0 :: .ref (adr src) :: rest)) := by
  subst hn
  have z0 : (0 : Int32).toNatClampNeg = 0 := by decide
  refine va_copyi (ty := .int) X.1.1 X.1.2.1 (X.1.2.2.1.trans hls.symm) X.1.2.2.2.1 (X.1.2.2.2.2 _ hlink) (X.1.2.2.2.2 _ hnat) (X.1.2.2.2.2 _ hstat) (X.1.2.2.2.2 _ hini) X.2.1 hH.1 hH.2.1 hH.2.2.1 src dst 0 0 (fw_at hid hF) (fw_at hid' (hF1 σ)) ht ht rfl (by decide) (by decide) hn0 (by rw [z0]; omega) (by rw [z0]; omega) (fun _ _ => rfl) hfr hlo hdg (fun H1 locs1 hP hD hS => ?_)
  rw [z0, fw_set (cf' := F (fw_cp σ src dst nn.toNatClampNeg)) hid' (by rw [hF1, fw_gcp]) hne] at hP
  exact kk H1 locs1 ⟨hP, fw_D hH.2.1, hS, hH.2.2.2⟩
end FW
/-! ===== the class's cells ===== -/
def fw_sh (id : Nat) : Nat := if id < 12 then id else [12, 13, 14, 13, 14, 15, 16, 16, 16, 16, 13, 14].getD ((id - 12) % 12) 0
def fw_C (cI cO : ClassId) (adr : Nat → Nat) (σ : fw_T) (id : Nat) : va_E := match fw_sh id with
  | 0 => .inr (7, [.ref (adr 1), .ref (adr 12), .ref (adr 2), .ref (adr 4), .ref (adr 7), .ref (adr 9)])
  | 1 => .inr (3, [.ref (adr 12), .ref (adr 10), .ref (adr 11)])
  | 2 => .inr (1, [.ref (adr 3), .int (fw_g σ id 1), .int (fw_g σ id 2)])
  | 3 => .inl (cO, 6, .inr (.inr (.inr (.inr (fun j => some (adr (24 + 12 * j)))))))
  | 4 => .inr (4, [.ref (adr 7), .ref (adr 5), .ref (adr 6), .int (fw_g σ id 3), .int (fw_g σ id 4)])
  | 5 => .inl (cI, 60, .inl (fw_g σ id))
  | 6 => .inl (cI, 240, .inl (fw_g σ id))
  | 7 => .inr (6, [.ref (adr 8), .int (fw_g σ id 1)])
  | 8 => .inl (cI, 120, .inl (fw_g σ id))
  | 9 => .inl (cI, 3, .inl (fw_g σ id))
  | 10 => .inl (cI, 100, .inl (fw_g σ id))
  | 11 => .inl (cI, 40, .inl (fw_g σ id))
  | 12 => .inr (5, [.ref (adr (id + 1)), .ref (adr (id + 3)), .ref (adr (id + 5)), .ref (adr (id + 10))])
  | 13 => .inr (2, [.ref (adr (id + 1)), .int (fw_g σ id 1), .int (fw_g σ id 2)])
  | 14 => .inl (cI, 10, .inl (fw_g σ id))
  | 15 => .inr (0, [.ref (adr (id + 1)), .ref (adr (id + 2)), .ref (adr (id + 3)), .ref (adr (id + 4)), .int (fw_g σ id 4)])
  | _ => .inl (cI, 6, .inl (fw_g σ id))
def fw_PL (h : Nat) : Prop := fw_sh h = 13 ∧ h < 96 ∧ fw_sh (h + 1) = 14 ∧ h + 1 < 96
def fw_FL (h : Nat) : Prop := fw_sh h = 15 ∧ h < 96 ∧ (fw_sh (h + 1) = 16 ∧ h + 1 < 96) ∧ (fw_sh (h + 2) = 16 ∧ h + 2 < 96) ∧ (fw_sh (h + 3) = 16 ∧ h + 3 < 96) ∧ fw_sh (h + 4) = 16 ∧ h + 4 < 96
def fw_ST (h : Nat) : Prop := fw_sh h = 12 ∧ h < 96 ∧ fw_PL (h + 1) ∧ fw_PL (h + 3) ∧ fw_FL (h + 5) ∧ fw_PL (h + 10)
theorem fw_slot {k : Nat} (h : k < 6) : fw_ST (24 + 12 * k) := by
  rcases (show k = 0 ∨ k = 1 ∨ k = 2 ∨ k = 3 ∨ k = 4 ∨ k = 5 by omega) with rfl | rfl | rfl | rfl | rfl | rfl <;> (unfold fw_ST fw_PL fw_FL; decide)
theorem fw_st12 : fw_ST 12 := by unfold fw_ST fw_PL fw_FL; decide
section FC
variable {cI cO : ClassId} {adr : Nat → Nat} {σ : fw_T} {id : Nat}
theorem fc_0 (h : fw_sh id = 0) : fw_C cI cO adr σ id = .inr (7, [.ref (adr 1), .ref (adr 12), .ref (adr 2), .ref (adr 4), .ref (adr 7), .ref (adr 9)]) := by simp only [fw_C, h]
theorem fc_1 (h : fw_sh id = 1) : fw_C cI cO adr σ id = .inr (3, [.ref (adr 12), .ref (adr 10), .ref (adr 11)]) := by simp only [fw_C, h]
theorem fc_2 (h : fw_sh id = 2) : fw_C cI cO adr σ id = .inr (1, [.ref (adr 3), .int (fw_g σ id 1), .int (fw_g σ id 2)]) := by simp only [fw_C, h]
theorem fc_3 (h : fw_sh id = 3) : fw_C cI cO adr σ id = .inl (cO, 6, .inr (.inr (.inr (.inr (fun j => some (adr (24 + 12 * j))))))) := by simp only [fw_C, h]
theorem fc_4 (h : fw_sh id = 4) : fw_C cI cO adr σ id = .inr (4, [.ref (adr 7), .ref (adr 5), .ref (adr 6), .int (fw_g σ id 3), .int (fw_g σ id 4)]) := by simp only [fw_C, h]
theorem fc_5 (h : fw_sh id = 5) : fw_C cI cO adr σ id = .inl (cI, 60, .inl (fw_g σ id)) := by simp only [fw_C, h]
theorem fc_6 (h : fw_sh id = 6) : fw_C cI cO adr σ id = .inl (cI, 240, .inl (fw_g σ id)) := by simp only [fw_C, h]
theorem fc_7 (h : fw_sh id = 7) : fw_C cI cO adr σ id = .inr (6, [.ref (adr 8), .int (fw_g σ id 1)]) := by simp only [fw_C, h]
theorem fc_8 (h : fw_sh id = 8) : fw_C cI cO adr σ id = .inl (cI, 120, .inl (fw_g σ id)) := by simp only [fw_C, h]
theorem fc_9 (h : fw_sh id = 9) : fw_C cI cO adr σ id = .inl (cI, 3, .inl (fw_g σ id)) := by simp only [fw_C, h]
theorem fc_10 (h : fw_sh id = 10) : fw_C cI cO adr σ id = .inl (cI, 100, .inl (fw_g σ id)) := by simp only [fw_C, h]
theorem fc_11 (h : fw_sh id = 11) : fw_C cI cO adr σ id = .inl (cI, 40, .inl (fw_g σ id)) := by simp only [fw_C, h]
theorem fc_12 (h : fw_sh id = 12) : fw_C cI cO adr σ id = .inr (5, [.ref (adr (id + 1)), .ref (adr (id + 3)), .ref (adr (id + 5)), .ref (adr (id + 10))]) := by simp only [fw_C, h]
theorem fc_13 (h : fw_sh id = 13) : fw_C cI cO adr σ id = .inr (2, [.ref (adr (id + 1)), .int (fw_g σ id 1), .int (fw_g σ id 2)]) := by simp only [fw_C, h]
theorem fc_14 (h : fw_sh id = 14) : fw_C cI cO adr σ id = .inl (cI, 10, .inl (fw_g σ id)) := by simp only [fw_C, h]
theorem fc_15 (h : fw_sh id = 15) : fw_C cI cO adr σ id = .inr (0, [.ref (adr (id + 1)), .ref (adr (id + 2)), .ref (adr (id + 3)), .ref (adr (id + 4)), .int (fw_g σ id 4)]) := by simp only [fw_C, h]
theorem fc_16 (h : fw_sh id = 16) : fw_C cI cO adr σ id = .inl (cI, 6, .inl (fw_g σ id)) := by simp only [fw_C, h]
theorem fc_ne {k j : Nat} {v : Int32} (h : j ≠ id) : fw_C cI cO adr (fw_u σ id k v) j = fw_C cI cO adr σ j := by
  simp only [fw_C, fw_gn σ h]
theorem fc_cn {src n j : Nat} (h : j ≠ id) : fw_C cI cO adr (fw_cp σ src id n) j = fw_C cI cO adr σ j := by
  simp only [fw_C, fw_gcn σ h]
theorem fc_p {ci k : Nat} {v : Int32} {fs : List Value} (h : fw_C cI cO adr (fw_u σ id k v) id = .inr (ci, fs)) {gs : List Value} (hg : fs = gs) : fw_C cI cO adr (fw_u σ id k v) id = .inr (ci, gs) := by rw [h, hg]
end FC
theorem fw_us (σ : fw_T) (i k : Nat) (v : Int32) : fw_g (fw_u σ i k v) i k = v := by simp [fw_g, fw_u]
theorem fw_uo (σ : fw_T) (i k l : Nat) (v : Int32) (h : l ≠ k) : fw_g (fw_u σ i k v) i l = fw_g σ i l := by simp [fw_g, fw_u, h]
/-! ===== the reference's cells ===== -/
def fw_M (cI cB : ClassId) (adr : Nat → Nat) (σ : fw_T) (id : Nat) : va_E := match id with
  | 0 => .inr (8, [.ref (adr 1), .ref (adr 2), .ref (adr 3), .int (fw_g σ 0 3), .ref (adr 4), .int (fw_g σ 0 5), .ref (adr 5), .int (fw_g σ 0 7), .int (fw_g σ 0 8), .ref (adr 6), .int (fw_g σ 0 10), .int (fw_g σ 0 11), .int (fw_g σ 0 12), .long (fw_h σ)])
  | 1 => .inl (cI, 52, .inl (fw_g σ 1))
  | 2 => .inl (cI, 52, .inl (fw_g σ 2))
  | 3 => .inl (cI, 260, .inl (fw_g σ 3))
  | 4 => .inl (cI, 3, .inl (fw_g σ 4))
  | 5 => .inl (cB, 120, .inl (fw_g σ 5))
  | n + 6 => .inl (cI, 320, .inl (fw_g σ (n + 6)))
section FM
variable {cI cB : ClassId} {adr : Nat → Nat} {σ : fw_T} {id : Nat}
theorem fm_ne {k j : Nat} {v : Int32} (h : j ≠ id) : fw_M cI cB adr (fw_u σ id k v) j = fw_M cI cB adr σ j := by
  match j, h with
  | 0, h => simp only [fw_M, fw_gn σ h, fw_hu]
  | 1, h => simp only [fw_M, fw_gn σ h]
  | 2, h => simp only [fw_M, fw_gn σ h]
  | 3, h => simp only [fw_M, fw_gn σ h]
  | 4, h => simp only [fw_M, fw_gn σ h]
  | 5, h => simp only [fw_M, fw_gn σ h]
  | n + 6, h => simp only [fw_M, fw_gn σ h]
theorem fm_nh {j : Nat} {v : Int64} (h : j ≠ 0) : fw_M cI cB adr (fw_uh σ v) j = fw_M cI cB adr σ j := by
  match j, h with
  | 0, h => exact absurd rfl h
  | 1, h => rfl
  | 2, h => rfl
  | 3, h => rfl
  | 4, h => rfl
  | 5, h => rfl
  | n + 6, h => rfl
end FM
section FP
variable {cI cO cB : ClassId} {adr : Nat → Nat} {σ : fw_T} {id : Nat} {v : Int32}
theorem fp_2_1 (h : fw_sh id = 2) : fw_C cI cO adr (fw_u σ id 1 v) id = .inr (1, [.ref (adr 3), .int v, .int (fw_g σ id 2)]) := by rw [fc_2 h, fw_us, fw_uo _ _ _ _ _ (by decide)]
theorem fp_2_2 (h : fw_sh id = 2) : fw_C cI cO adr (fw_u σ id 2 v) id = .inr (1, [.ref (adr 3), .int (fw_g σ id 1), .int v]) := by rw [fc_2 h, fw_us, fw_uo _ _ _ _ _ (by decide)]
theorem fp_4_3 (h : fw_sh id = 4) : fw_C cI cO adr (fw_u σ id 3 v) id = .inr (4, [.ref (adr 7), .ref (adr 5), .ref (adr 6), .int v, .int (fw_g σ id 4)]) := by rw [fc_4 h, fw_us, fw_uo _ _ _ _ _ (by decide)]
theorem fp_4_4 (h : fw_sh id = 4) : fw_C cI cO adr (fw_u σ id 4 v) id = .inr (4, [.ref (adr 7), .ref (adr 5), .ref (adr 6), .int (fw_g σ id 3), .int v]) := by rw [fc_4 h, fw_us, fw_uo _ _ _ _ _ (by decide)]
theorem fp_7_1 (h : fw_sh id = 7) : fw_C cI cO adr (fw_u σ id 1 v) id = .inr (6, [.ref (adr 8), .int v]) := by rw [fc_7 h, fw_us]
theorem fp_13_2 (h : fw_sh id = 13) : fw_C cI cO adr (fw_u σ id 2 v) id = .inr (2, [.ref (adr (id + 1)), .int (fw_g σ id 1), .int v]) := by rw [fc_13 h, fw_us, fw_uo _ _ _ _ _ (by decide)]
theorem fp_15_4 (h : fw_sh id = 15) : fw_C cI cO adr (fw_u σ id 4 v) id = .inr (0, [.ref (adr (id + 1)), .ref (adr (id + 2)), .ref (adr (id + 3)), .ref (adr (id + 4)), .int v]) := by rw [fc_15 h, fw_us]
theorem fpm_3 : fw_M cI cB adr (fw_u σ 0 3 v) 0 = .inr (8, [.ref (adr 1), .ref (adr 2), .ref (adr 3), .int v, .ref (adr 4), .int (fw_g σ 0 5), .ref (adr 5), .int (fw_g σ 0 7), .int (fw_g σ 0 8), .ref (adr 6), .int (fw_g σ 0 10), .int (fw_g σ 0 11), .int (fw_g σ 0 12), .long (fw_h σ)]) := by simp [fw_M, fw_g, fw_u, fw_h]
theorem fpm_5 : fw_M cI cB adr (fw_u σ 0 5 v) 0 = .inr (8, [.ref (adr 1), .ref (adr 2), .ref (adr 3), .int (fw_g σ 0 3), .ref (adr 4), .int v, .ref (adr 5), .int (fw_g σ 0 7), .int (fw_g σ 0 8), .ref (adr 6), .int (fw_g σ 0 10), .int (fw_g σ 0 11), .int (fw_g σ 0 12), .long (fw_h σ)]) := by simp [fw_M, fw_g, fw_u, fw_h]
theorem fpm_7 : fw_M cI cB adr (fw_u σ 0 7 v) 0 = .inr (8, [.ref (adr 1), .ref (adr 2), .ref (adr 3), .int (fw_g σ 0 3), .ref (adr 4), .int (fw_g σ 0 5), .ref (adr 5), .int v, .int (fw_g σ 0 8), .ref (adr 6), .int (fw_g σ 0 10), .int (fw_g σ 0 11), .int (fw_g σ 0 12), .long (fw_h σ)]) := by simp [fw_M, fw_g, fw_u, fw_h]
theorem fpm_8 : fw_M cI cB adr (fw_u σ 0 8 v) 0 = .inr (8, [.ref (adr 1), .ref (adr 2), .ref (adr 3), .int (fw_g σ 0 3), .ref (adr 4), .int (fw_g σ 0 5), .ref (adr 5), .int (fw_g σ 0 7), .int v, .ref (adr 6), .int (fw_g σ 0 10), .int (fw_g σ 0 11), .int (fw_g σ 0 12), .long (fw_h σ)]) := by simp [fw_M, fw_g, fw_u, fw_h]
theorem fpm_10 : fw_M cI cB adr (fw_u σ 0 10 v) 0 = .inr (8, [.ref (adr 1), .ref (adr 2), .ref (adr 3), .int (fw_g σ 0 3), .ref (adr 4), .int (fw_g σ 0 5), .ref (adr 5), .int (fw_g σ 0 7), .int (fw_g σ 0 8), .ref (adr 6), .int v, .int (fw_g σ 0 11), .int (fw_g σ 0 12), .long (fw_h σ)]) := by simp [fw_M, fw_g, fw_u, fw_h]
theorem fpm_11 : fw_M cI cB adr (fw_u σ 0 11 v) 0 = .inr (8, [.ref (adr 1), .ref (adr 2), .ref (adr 3), .int (fw_g σ 0 3), .ref (adr 4), .int (fw_g σ 0 5), .ref (adr 5), .int (fw_g σ 0 7), .int (fw_g σ 0 8), .ref (adr 6), .int (fw_g σ 0 10), .int v, .int (fw_g σ 0 12), .long (fw_h σ)]) := by simp [fw_M, fw_g, fw_u, fw_h]
theorem fpm_12 : fw_M cI cB adr (fw_u σ 0 12 v) 0 = .inr (8, [.ref (adr 1), .ref (adr 2), .ref (adr 3), .int (fw_g σ 0 3), .ref (adr 4), .int (fw_g σ 0 5), .ref (adr 5), .int (fw_g σ 0 7), .int (fw_g σ 0 8), .ref (adr 6), .int (fw_g σ 0 10), .int (fw_g σ 0 11), .int v, .long (fw_h σ)]) := by simp [fw_M, fw_g, fw_u, fw_h]
end FP
abbrev fcT (cI cO : ClassId) : List (ClassId × FieldType) := [(cI, .int), (cO, .object "WhyNotJoin$State")]
abbrev fmT (cI cB : ClassId) : List (ClassId × FieldType) := [(cI, .int), (cB, .byte)]
abbrev fcX (p : Program) (m : MethodId) (c : Code) (cc : ByteArray) (nL : Nat) (s : State) (args : Array Value) (own : String) (meth : Method) (ret : Option FieldType) (D : va_G) (cI cO : ClassId) : Prop := fw_X D (fcT cI cO) nwC p m c cc nL s args own meth ret
abbrev fmX (p : Program) (m : MethodId) (c : Code) (cc : ByteArray) (nL : Nat) (s : State) (args : Array Value) (own : String) (meth : Method) (ret : Option FieldType) (D : va_G) (cI cB : ClassId) : Prop := fw_X D (fmT cI cB) [] p m c cc nL s args own meth ret
abbrev fcH (D : va_G) (cI cO : ClassId) (adr : Nat → Nat) (A : Nat → Prop) (s : State) (H : Heap) (locs : List Loc) (σ : fw_T) : Prop := fw_H D 96 adr (fw_C cI cO adr) A s.heap H locs σ
abbrev fmH (D : va_G) (cI cB : ClassId) (adr : Nat → Nat) (A : Nat → Prop) (s : State) (H : Heap) (locs : List Loc) (σ : fw_T) : Prop := fw_H D 7 adr (fw_M cI cB adr) A s.heap H locs σ
