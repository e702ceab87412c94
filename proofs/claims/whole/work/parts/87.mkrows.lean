/-! making the objects: walks of constructors over a list of cells -/
abbrev nB : Type := va_G × (Nat → ClassId)
abbrev nTy (B : nB) : List (ClassId × FieldType) := [(B.2 0, .int), (B.2 1, .char), (B.2 2, .object "CeilingWorkbench$Task"), (B.2 3, .long), (B.2 4, .double)]
def nF (B : nB) (U : State) : Prop := va_K B.1 zkCl (nTy B) U ∧ (∀ w ∈ zkNw, va_Nw w U) ∧ va_AO "CeilingWorkbench$Task" U
theorem nF_go {B : nB} {s U : State} (hW : s.WarmedH U.vm) (h : nF B s) : nF B U := by
  obtain ⟨h1, h2, h3⟩ := h
  refine ⟨va_K.moved hW.alike h1, fun w hw => ?_, va_AO.moved hW.alike h3⟩
  have hn := (List.mem_filter.mp hw).2
  have hz := h2 w hw
  cases w <;> first
    | exact va_Nw.warmF hW hz
    | exact va_Nw.warmM hW hz
    | exact va_Nw.warmD hW hz
    | exact absurd hn (by simp [zkNest])
def nC (B : nB) (i : zkI) (p : Program) (s : State) (m : MethodId) (args : Array Value) (meth : Method) (c : Code) : Prop :=
  p.tables.exec = Jvm.exec ∧ c.code = iC i ∧ meth.sig.returnType = iR i ∧ c.maxLocals = iL i ∧ s.vm.findClass (zkR (iO i)) = some m.cls ∧ (∀ w ∈ zkGw, w.before args s = true) ∧ nF B s ∧ meth.locks = false ∧ zkOk i ∧ meth.name = "<init>"
def nW (l : Launch) (B : nB) (i : zkI) (R : Room) (A : Nat → Prop) (Z : List Frame → Array Value → State → State → Prop) (cu su pc : Nat) (ls : List (Nat × Value)) (st : List Value) (ws : va_W) : Prop :=
  ∀ (p : Program) (e : Env) (s : State) (m : MethodId) (args : Array Value) (below : List Frame) (meth : Method) (c : Code), nC B i p s m args meth c → (∀ q : Nat, s.heap.size ≤ q → A q) → ∀ (H : Heap) (locs : List Loc) (a : Array Slot), va_P B.1 zkCl ws H → va_D A ws → va_S A s.heap H locs → lv_has a (iL i) ls →
    W p l e R s m args below meth c H locs cu su (Z below args s) (F0 m pc a st)
theorem nC_dec {B : nB} {i : zkI} {p : Program} {s : State} {m : MethodId} {args : Array Value} {meth : Method} {c : Code} (C : nC B i p s m args meth c) {pc nx n : Nat} {ins : Instr} (h : (iT i).lookup pc = some (ins, nx)) (hn : nx = pc + n) : decode (iC i) pc = .ok (ins, n) := zk_dec C.2.2.2.2.2.2.2.2.1 h hn
/-- a constructor's contract: of the bare object at h0 it makes the cells that 'post' tells -/
def nCt (l : Launch) (B : nB) (i : zkI) (d mc ms h0 t : Nat) (fs : List Value) (post : va_W → Prop) : Prop :=
  ∀ sz : Nat, Met l (iY i) (.code (iY i) (iC i) (iL i) (iR i) :: zkGw) (zkRm d mc ms) (va_Pc [.ref h0] (fun U => U.heap.size = sz ∧ va_P B.1 zkCl [(h0, .inr (t, fs))] U.heap ∧ nF B U ∧ va_D (fun _ => True) [(h0, .inr (t, fs))])) (va_Qv post (fun ws u => va_P B.1 zkCl ws u.heap ∧ va_D (va_A [(h0, .inr (t, fs))] sz) ws) (va_A [(h0, .inr (t, fs))] sz)) mc ms (va_A [(h0, .inr (t, fs))] sz)
abbrev nZ (B : nB) (post : va_W → Prop) (A : Nat → Prop) (mc ms : Nat) : List Frame → Array Value → State → State → Prop := fun below args s => MQ below (va_Qv post (fun ws u => va_P B.1 zkCl ws u.heap ∧ va_D A ws) A) args s mc ms A
theorem nCt_of {l : Launch} {B : nB} {i : zkI} {d mc ms h0 t : Nat} {fs : List Value} {post : va_W → Prop} (hO : zkOk i) (hy : plainName (iY i).cls = true) (hw : (iY i).cls = zkR (iO i)) (hn : (iY i).name = "<init>") (h1 : 1 ≤ iL i) (body : ∀ A : Nat → Prop, nW l B i (zkRm d mc ms) A (nZ B post A mc ms) 0 0 0 [(0, .ref h0)] [] [(h0, .inr (t, fs))]) : nCt l B i d mc ms h0 t fs post := by
  intro sz
  refine Met.ofW (cc := iC i) (maxL := iL i) (ret := iR i) hy rfl ?_
  intro p e s m args below meth c s₁ Bd hml hv
  obtain ⟨rfl, hsz, hP, hF, hD0⟩ := hv
  have hts := atoms_spec (ws := Cond.code (iY i) (iC i) (iL i) (iR i) :: zkGw) Bd.pre
  have hown : s.vm.findClass (zkR (iO i)) = some m.cls := by rw [← hw]; exact findClass_of_methodNamed Bd.named
  have hin : meth.name = "<init>" := by rw [← hn]; exact (name_of_methodNamed Bd.named Bd.method).1
  subst hsz
  have hD := hD0.self (sz := s.heap.size)
  generalize hAe : va_A [(h0, .inr (t, fs))] s.heap.size = A at hD ⊢
  have hA : ∀ q : Nat, s.heap.size ≤ q → A q := fun q h => by rw [← hAe]; exact Or.inr h
  have hl := lv_entry ([.ref h0]) (n := iL i) h1
  rw [lg_entry_eq]
  exact body A p e s m _ below meth c ⟨Bd.exec, Bd.bytes, Bd.returns, hml, hown, fun w h => hts w (List.mem_cons_of_mem _ h), hF, Bd.notSynchronized, hO, hin⟩ hA s.heap [] _ hP hD va_S.rf hl
section NROWS
variable {l : Launch} {B : nB} {i ci : zkI} {R : Room} {A : Nat → Prop} {Z : List Frame → Array Value → State → State → Prop} {cu su pc nx : Nat} {ls : List (Nat × Value)} {st : List Value} {ws : va_W}
theorem n_al {n : Fin 4} {q : Nat} (hd : (iT i).lookup pc = some (.aload_n n, nx)) (hn : nx = pc + 1) (hv : ((n : Nat), Value.ref q) ∈ ls) (k : nW l B i R A Z cu su nx ls (.ref q :: st) ws) : nW l B i R A Z cu su pc ls st ws := by
  intro p e s m args below meth c C hA H locs a hP hD hS hl
  subst hn
  exact lv_aload_n C.1 C.2.1 (nC_dec C hd rfl) rfl (hl.2.2 _ hv) (k p e s m args below meth c C hA H locs a hP hD hS hl)
theorem n_il {n : Fin 4} {x : Int32} (hd : (iT i).lookup pc = some (.iload_n n, nx)) (hn : nx = pc + 1) (hv : ((n : Nat), Value.int x) ∈ ls) (k : nW l B i R A Z cu su nx ls (.int x :: st) ws) : nW l B i R A Z cu su pc ls st ws := by
  intro p e s m args below meth c C hA H locs a hP hD hS hl
  subst hn
  exact lv_iload_n C.1 C.2.1 (nC_dec C hd rfl) rfl (hl.2.2 _ hv) (k p e s m args below meth c C hA H locs a hP hD hS hl)
theorem n_ic {n : Int} (hd : (iT i).lookup pc = some (.iconst n, nx)) (hn : nx = pc + 1) (k : nW l B i R A Z cu su nx ls (.int (Int32.ofInt n) :: st) ws) : nW l B i R A Z cu su pc ls st ws := by
  intro p e s m args below meth c C hA H locs a hP hD hS hl
  subst hn
  exact lv_iconst C.1 C.2.1 (nC_dec C hd rfl) rfl (k p e s m args below meth c C hA H locs a hP hD hS hl)
theorem n_bi {n : Int} (hd : (iT i).lookup pc = some (.bipush n, nx)) (hn : nx = pc + 2) (hv : (Int8.ofInt n).toInt32 = Int32.ofInt n) (k : nW l B i R A Z cu su nx ls (.int (Int32.ofInt n) :: st) ws) : nW l B i R A Z cu su pc ls st ws := by
  intro p e s m args below meth c C hA H locs a hP hD hS hl
  subst hn
  exact lv_bipush C.1 C.2.1 (nC_dec C hd rfl) hv (k p e s m args below meth c C hA H locs a hP hD hS hl)
theorem n_si {n : Int} (hd : (iT i).lookup pc = some (.sipush n, nx)) (hn : nx = pc + 3) (hv : (Int16.ofInt n).toInt32 = Int32.ofInt n) (k : nW l B i R A Z cu su nx ls (.int (Int32.ofInt n) :: st) ws) : nW l B i R A Z cu su pc ls st ws := by
  intro p e s m args below meth c C hA H locs a hP hD hS hl
  subst hn
  exact lv_sipush C.1 C.2.1 (nC_dec C hd rfl) hv (k p e s m args below meth c C hA H locs a hP hD hS hl)
theorem n_dup {q : Nat} (hd : (iT i).lookup pc = some (.dup, nx)) (hn : nx = pc + 1) (k : nW l B i R A Z cu su nx ls (.ref q :: .ref q :: st) ws) : nW l B i R A Z cu su pc ls (.ref q :: st) ws := by
  intro p e s m args below meth c C hA H locs a hP hD hS hl
  subst hn
  exact lv_dup C.1 C.2.1 (nC_dec C hd rfl) rfl (k p e s m args below meth c C hA H locs a hP hD hS hl)
theorem n_go {off : Int} {tgt : Nat} (hd : (iT i).lookup pc = some (.goto off, nx)) (hn : nx = pc + 3) (ht : (pc : Int) + off = (tgt : Int)) (k : nW l B i R A Z cu su tgt ls st ws) : nW l B i R A Z cu su pc ls st ws := by
  intro p e s m args below meth c C hA H locs a hP hD hS hl
  subst hn
  exact lv_goto C.1 C.2.1 (nC_dec C hd rfl) ht (k p e s m args below meth c C hA H locs a hP hD hS hl)
theorem n_ge {x y : Int32} {off : Int} {tgt : Nat} (hd : (iT i).lookup pc = some (.if_icmp .ge off, nx)) (hn : nx = pc + 3) (ht : (pc : Int) + off = (tgt : Int)) (kt : y ≤ x → nW l B i R A Z cu su tgt ls st ws) (kf : ¬ y ≤ x → nW l B i R A Z cu su nx ls st ws) : nW l B i R A Z cu su pc ls (.int y :: .int x :: st) ws := by
  intro p e s m args below meth c C hA H locs a hP hD hS hl
  subst hn
  exact lv_icmp_ge C.1 C.2.1 (nC_dec C hd rfl) ht (fun h => kt h p e s m args below meth c C hA H locs a hP hD hS hl) (fun h => kf h p e s m args below meth c C hA H locs a hP hD hS hl)
theorem n_obj {idx q : Nat} (hd : (iT i).lookup pc = some (.invokespecial idx, nx)) (hn : nx = pc + 3) (h1 : Cond.methodLink (zkR (iO i)) idx Lib.objectInit ∈ zkGw) (h2 : Cond.instanceMethod Lib.objectInit ∈ zkGw) (h3 : Cond.code Lib.objectInit ⟨#[0xb1]⟩ 1 none ∈ zkGw) (hf : 1 ≤ R.frames) (hr : (st.map fun v => v.category).sum + 12 ≤ R.locals) (k : nW l B i R A Z cu su nx ls st ws) : nW l B i R A Z cu su pc ls (.ref q :: st) ws := by
  intro p e s m args below meth c C hA H locs a hP hD hS hl
  subst hn
  refine W.objInit C.1 C.2.1 C.2.2.2.2.1 (C.2.2.2.2.2.1 _ h1) (C.2.2.2.2.2.1 _ h2) (C.2.2.2.2.2.1 _ h3) rfl (hl.1.trans C.2.2.2.1.symm) rfl (nC_dec C hd rfl) hf (by show 2 * 0 + _ + 12 ≤ _; omega) ?_
  exact k p e s m args below meth c C hA H locs a hP hD hS hl
theorem n_new {idx t : Nat} {fs : List Value} (hd : (iT i).lookup pc = some (.new idx, nx)) (hn : nx = pc + 3) (ht : t < 8) (h1 : Cond.classLink (zkR (iO i)) idx (zkR t) ∈ zkGw) (h2 : Cond.instantiable (zkR t) (nfl t) ∈ zkGw) (h3 : Cond.initialized (zkR t) ∈ zkGw) (hfs : ∀ j, j < nfl t → defaultValue (zkty t j) = vp_V fs j) (hc : cu + 1 ≤ R.cells) (hs : su + nfl t ≤ R.slots) (k : ∀ q : Nat, nW l B i R A Z (cu + 1) (su + nfl t) nx ls (.ref q :: st) (ws ++ [(q, .inr (t, fs))])) : nW l B i R A Z cu su pc ls st ws := by
  intro p e s m args below meth c C hA H locs a hP hD hS hl
  subst hn
  have hts := C.2.2.2.2.2.1
  exact va_new (ci := t) (fs := fs) (C := zkR t) (T := zkT t) (N := nfl t) C.1 C.2.1 hts (zkLays ht) (zkty t) (zkTy_ok ht) C.2.2.2.2.1 (hts _ h1) (hts _ h2) (hts _ h3) C.2.2.2.2.2.2.1.1 hP hD hS hA (zkCl_at ht) hfs hc hs (nC_dec C hd rfl) (fun q H hP hD hS => k q p e s m args below meth c C hA H locs a hP hD hS hl)
/-- an array of numbers -/
theorem n_nar {atype : ArrayType} {ty : FieldType} {kd N' : Nat} {n : Int} {a0 : vp_A} (hd : (iT i).lookup pc = some (.newarray atype, nx)) (hn : nx = pc + 2) (hty : newarray.typeOf atype = ty) (hkd : (nTy B)[kd]? = some (B.2 kd, ty)) (hno : ∀ C, ty ≠ .object C) (h1 : Cond.arrayClass (newarray.typeOf atype) ∈ zkGw) (ha : ∀ cA : ClassId, vp_cell cA a0 = arrV cA N' (fun _ => defaultValue ty)) (hn0 : ¬ Int32.ofInt n < 0) (hN : (Int32.ofInt n).toNatClampNeg = N') (hby : N' * componentBytes ty ≤ 536870912) (hc : cu + 1 ≤ R.cells) (hs : su + N' ≤ R.slots) (k : ∀ q : Nat, nW l B i R A Z (cu + 1) (su + N') nx ls (.ref q :: st) (ws ++ [(q, .inl (B.2 kd, a0))])) : nW l B i R A Z cu su pc ls (.int (Int32.ofInt n) :: st) ws := by
  intro p e s m args below meth c C hA H locs a hP hD hS hl
  subst hn
  have hts := C.2.2.2.2.2.1
  have hK := C.2.2.2.2.2.2.1.1
  refine va_newa (a0 := a0) C.1 C.2.1 (hts _ h1) hty hK hP hD hS hA ha hn0 hN hby hc hs (nC_dec C hd rfl) (fun q cA H hK2 hP hD hS => ?_)
  have e1 := (hK2.2 (nTy B).length (cA, ty) (by rw [List.getElem?_append_right (Nat.le_refl _), Nat.sub_self]; rfl)).2
  have e2 := (hK.2 kd _ hkd).2
  have e3 : cA = B.2 kd := by
    cases ty <;> first
      | exact absurd rfl (hno _)
      | exact Option.some.inj (e1.symm.trans e2)
  subst e3
  exact k q p e s m args below meth c C hA H locs a hP hD hS hl
/-- a final field -/
theorem n_pf {idx t k q0 a0 : Nat} {fs : List Value} {v : Value} (hd : (iT i).lookup pc = some (.putfield idx, nx)) (hn : nx = pc + 3) (hi : idx < 1000) (hf : zkFl (iO i) idx = some (t, k)) (ht : iO i = t) (hfin : (zkT t k).2.2.2 = true) (he : ws[q0]? = some (a0, .inr (t, fs))) (hna : narrow (zkty t k) v = v) (hfi : fits (zkty t k) v = true) (hl0 : k < fs.length) (kk : nW l B i R A Z cu su nx ls st (ws.set q0 (a0, .inr (t, fs.set k v)))) (h3' : Cond.fieldLink (zkR t) idx (zkR t) (zkT t k).2.1 (zkT t k).2.2.1 ∈ zkGw) : nW l B i R A Z cu su pc ls (v :: .ref a0 :: st) ws := by
  intro p e s m args below meth c C hA H locs a hP hD hS hl
  subst hn
  obtain ⟨h1, h2, -⟩ := zkFl_spec hi hf
  have ht8 := nfl_pos h1
  obtain ⟨hx, hb, -, hml, hown, hts, hF, -, -, hin⟩ := id C
  rw [ht] at hown
  have hsame : ∀ x, s.fieldFound? (zkT t k).1 (zkT t k).2.1 (zkT t k).2.2.1 = some x → s.fieldFound? (zkR t) (zkT t k).2.1 (zkT t k).2.2.1 = some x := fun x hx => by rw [← h2]; exact hx
  exact va_putF hx hb hts (zkLays ht8) (zkty t) (zkTy_ok ht8) (zkNm ht8) hown hF.1 hP hD hS q0 he (zkCl_at ht8) k h1 (hts _ h3') hsame hfin hin h2 (zkTy_ok ht8 k h1) hna hfi hl0 (nC_dec C hd rfl) (fun H locs hP hD hS => kk p e s m args below meth c C hA H locs a hP hD hS hl)
/-- a field that is not final -/
theorem n_pv {idx t k q0 a0 : Nat} {fs : List Value} {v : Value} (hd : (iT i).lookup pc = some (.putfield idx, nx)) (hn : nx = pc + 3) (hi : idx < 1000) (hf : zkFl (iO i) idx = some (t, k)) (ht : iO i = t) (hfin : (zkT t k).2.2.2 = false) (he : ws[q0]? = some (a0, .inr (t, fs))) (hna : narrow (zkty t k) v = v) (hfi : fits (zkty t k) v = true) (hl0 : k < fs.length) (kk : nW l B i R A Z cu su nx ls st (ws.set q0 (a0, .inr (t, fs.set k v)))) (h3' : Cond.fieldLink (zkR t) idx (zkR t) (zkT t k).2.1 (zkT t k).2.2.1 ∈ zkGw) : nW l B i R A Z cu su pc ls (v :: .ref a0 :: st) ws := by
  intro p e s m args below meth c C hA H locs a hP hD hS hl
  subst hn
  obtain ⟨h1, h2, -⟩ := zkFl_spec hi hf
  have ht8 := nfl_pos h1
  obtain ⟨hx, hb, -, hml, hown, hts, hF, -, -, hin⟩ := id C
  rw [ht] at hown
  have hsame : ∀ x, s.fieldFound? (zkT t k).1 (zkT t k).2.1 (zkT t k).2.2.1 = some x → s.fieldFound? (zkR t) (zkT t k).2.1 (zkT t k).2.2.1 = some x := fun x hx => by rw [← h2]; exact hx
  exact va_put hx hb hts (zkLays ht8) (zkty t) (zkTy_ok ht8) (zkNm ht8) hown hF.1 hP hD hS q0 he (zkCl_at ht8) k h1 (hts _ h3') hsame hfin (zkTy_ok ht8 k h1) hna hfi hl0 (nC_dec C hd rfl) (fun H locs hP hD hS => kk p e s m args below meth c C hA H locs a hP hD hS hl)
/-- a field is read -/
theorem n_gf {idx t k q0 a0 : Nat} {fs : List Value} {v : Value} (hd : (iT i).lookup pc = some (.getfield idx, nx)) (hn : nx = pc + 3) (hi : idx < 1000) (hf : zkFl (iO i) idx = some (t, k)) (ht : iO i = t) (he : ws[q0]? = some (a0, .inr (t, fs))) (hv : fs[k]? = some v) (kk : nW l B i R A Z cu su nx ls (v :: st) ws) (h3' : Cond.fieldLink (zkR t) idx (zkR t) (zkT t k).2.1 (zkT t k).2.2.1 ∈ zkGw) : nW l B i R A Z cu su pc ls (.ref a0 :: st) ws := by
  intro p e s m args below meth c C hA H locs a hP hD hS hl
  subst hn
  obtain ⟨h1, h2, -⟩ := zkFl_spec hi hf
  have ht8 := nfl_pos h1
  obtain ⟨hx, hb, -, hml, hown, hts, hF, -, -, hin⟩ := id C
  rw [ht] at hown
  have hsame : ∀ x, s.fieldFound? (zkT t k).1 (zkT t k).2.1 (zkT t k).2.2.1 = some x → s.fieldFound? (zkR t) (zkT t k).2.1 (zkT t k).2.2.1 = some x := fun x hx => by rw [← h2]; exact hx
  exact va_get hx hb hts (zkLays ht8) hown hF.1 hP q0 he (zkCl_at ht8) k h1 (hts _ h3') hsame hv (nC_dec C hd rfl) (kk p e s m args below meth c C hA H locs a hP hD hS hl)
/-- another constructor, of a nest mate -/
theorem n_call {idx d mc ms t h : Nat} {fs : List Value} {post : va_W → Prop} {wr : va_W} (isC isR : List Nat) (hd : (iT i).lookup pc = some (.invokespecial idx, nx)) (hn : nx = pc + 3) (hc : nCt l B ci d mc ms h t fs post) (hlk : Cond.methodLinkNest (zkR (iO i)) idx (iY ci) RX7 ∈ zkNw) (h1 : Cond.code (iY ci) (iC ci) (iL ci) (iR ci) ∈ zkGw) (h2 : Cond.initialized (iY ci).cls ∈ zkGw) (h3 : Cond.instanceMethod (iY ci) ∈ zkGw) (hnm : (iY ci).name = "<init>") (hr : iR ci = none) (hds : (iY ci).cls ≠ "java/lang/invoke/MethodHandle" ∧ (iY ci).cls ≠ "java/lang/invoke/VarHandle" ∧ (parseMethodDescriptor (iY ci).desc).map (fun d => d.parameters.length) = some 0)
    (hC : isC.map (fun i => ws[i]?) = [((h, .inr (t, fs)) : Nat × va_E)].map some) (hC2 : isC.filterMap (fun i => ws[i]?) = [((h, .inr (t, fs)) : Nat × va_E)]) (hCn : va_nd isC = true) (hR : isR.map (fun i => ws[i]?) = wr.map some) (hRn : va_nd isR = true) (hdis : ∀ i ∈ isR, i ∉ isC) (hw : (st.map fun v => v.category).sum ≤ 8) (hf : d + 1 ≤ R.frames) (hlo : 8 + (iL ci + 11) + (40 * d + 100) ≤ R.locals) (hcl : cu + mc ≤ R.cells) (hsl : su + ms ≤ R.slots)
    (k : ∀ w1 : va_W, post w1 → nW l B i R A Z (cu + mc) (su + ms) nx ls st (wr ++ w1)) : nW l B i R A Z cu su pc ls (.ref h :: st) ws := by
  intro p e s m args below meth c C hA H locs a hP hD hS hl
  subst hn
  obtain ⟨hx, hb, -, hml, hown, hts, hF, -, -, hin⟩ := id C
  have hG : GoodIn zkGw (.code (iY ci) (iC ci) (iL ci) (iR ci) :: zkGw) := by
    intro w hw
    rcases List.mem_cons.mp hw with rfl | hw
    · exact zkGw_good _ h1
    · exact zkGw_good w hw
  have hPc := hP.sub isC hC2
  have hDc := hD.sub isC hCn hC
  have hFc := va_free hD hS hA isC hC
  refine va_callv (va_runIN (As := []) (rest := st) ⟨hx, hb, hml, hown, hts⟩ (hc H.size) ⟨by rw [hr] at *; exact va_cnB 0 hts hG rfl rfl rfl (hF.2.1 _ hlk) (hts _ h2) hds ⟨hf, hlo⟩, hnm, hts _ h3⟩ ⟨fun a U g mk q => by obtain ⟨q0, q1, qP, qF, qD⟩ := q; exact ⟨q0, q1, qP, nF_go (s := U) (U := U.calling g mk a) (State.WarmedH.refl U) qF, qD⟩, fun U hU hW => ⟨rfl, by rw [hU], by rw [hU]; exact hPc, nF_go hW hF, hDc.weaken (fun _ _ _ _ => trivial)⟩⟩ rfl rfl hl.1 rfl (lv_room hw) (nC_dec C hd rfl) ⟨hcl, hsl⟩) hS (fun q _ h => hFc q h) hFc (fun u t H1 locs ht hvm hw hB hz1 hk1 hS => ?_)
  obtain ⟨hP1, hD1⟩ := hB
  rw [ht] at hP1
  obtain ⟨hP, hD⟩ := va_join hP hD isC isR hC hR hRn hdis hk1 hFc hP1 hD1
  exact k u hw p e s m args below meth c C hA H1 locs a hP hD hS hl
theorem n_ret {post : va_W → Prop} {mc ms : Nat} (hd : (iT i).lookup pc = some (.return_, nx)) (hn : nx = pc + 1) (hr : iR i = none) (hc : cu ≤ mc) (hs : su ≤ ms) (hq : post ws) : nW l B i R A (nZ B post A mc ms) cu su pc ls [] ws := by
  intro p e s m args below meth c C hA H locs a hP hD hS hl
  subst hn
  refine W.widen (k := mc) (n := ms) hc hs ?_
  exact W.vret C.1 C.2.1 (C.2.2.1.trans hr) (fun t ht hW => ⟨⟨ws, rfl, hq, by rw [ht]; exact hP, hD⟩, hS.F ht⟩) hS.2.2 (nC_dec C hd rfl) C.2.2.2.2.2.2.2.1
end NROWS
