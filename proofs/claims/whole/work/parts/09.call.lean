/-! calls -/
/-- an exception stands over the method -/
def zkX (l : Launch) (G : zkG) (i : zkI) (K : zkK) (cu su pc : Nat) (ls : List (Option zkV)) (E : String) (mem : zkM) : Prop :=
  ∀ (p : Program) (e : Env) (s : State) (m : MethodId) (args : Array Value) (below : List Frame) (meth : Method) (c : Code), zkC l G i K p s m args meth c → ∀ (H : Heap) (locs : List Loc) (a : Array Slot) (q : Addr) (ce : Cell) (rest : List Value), va_P (gD G) zkCl (wl G mem) H → va_S (zkA G s.heap.size) s.heap H locs → zkLv G a (iL i) ls → H[q]? = some ce → ce.vm = .none → s.vm.findClass E = some ce.cls →
    vx_W p l e K.1 s m args below meth c H locs cu su (K.2.1 below args s) (F0 m pc a rest) q
/-- how a call is linked -/
def zkLk (o idx : Nat) (ci : zkI) (st ne : Bool) (n : Nat) : Prop :=
  (if ne then Cond.methodLinkNest (zkR o) idx (iY ci) RX7 ∈ zkNw else Cond.methodLink (zkR o) idx (iY ci) ∈ zkGw) ∧ zkHd ci ∈ zkGw ∧ Cond.initialized (iY ci).cls ∈ zkGw ∧
  (if st then Cond.static (iY ci) ∈ zkGw else Cond.instanceMethod (iY ci) ∈ zkGw ∧ Cond.selects (iY ci).cls (iY ci) (iY ci) ∈ zkGw) ∧
  ((iY ci).cls ≠ "java/lang/invoke/MethodHandle" ∧ (iY ci).cls ≠ "java/lang/invoke/VarHandle") ∧ (parseMethodDescriptor (iY ci).desc).map (fun d => d.parameters.length) = some n ∧ (iY ci).cls = zkR (iO ci)
section ZCALL
variable {l : Launch} {G : zkG} {i ci : zkI} {K : zkK} {cu su pc nx : Nat} {ls : List (Option zkV)} {st : List zkV} {mem : zkM}
theorem zk_named {args : Array Value} {s : State} (h : (zkHd ci).before args s = true) : ∃ (mk : MethodId) (methM : Method), s.methodNamed? (iY ci) = some mk ∧ s.vm.method? mk = some methM ∧ parseMethodDescriptor (iY ci).desc = some methM.sig := by
  unfold zkHd at h
  split at h
  · obtain ⟨mk, hnamed⟩ := Cond.code_named h
    obtain ⟨methM, cM, hmethM, -, -, -, -, -, -, hsigM⟩ := Cond.code_spec hnamed h
    exact ⟨mk, methM, hnamed, hmethM, hsigM⟩
  · obtain ⟨mk, methM, cM, hnamed, hmethM, -, -, -, -, -, -, hsigM⟩ := Cond.codeWith_spec h
    exact ⟨mk, methM, hnamed, hmethM, hsigM⟩
theorem zk_back {R : Room} {p : Program} {e : Env} {below : List Frame} {s : State} {args : Array Value} {d mc ms sz : Nat} {as : List zkV} {Q : zkO → zkM → Prop} (hM : vx_Met l (iY ci) (zkHd ci :: zkGw) (zkRm d mc ms) (zkPc G as mem sz) (zkQc G Q) (zkXc G Q) mc ms (zkA G sz)) (hf : d + 1 ≤ R.frames) (hlo : 40 * d + 119 + iL ci ≤ R.locals) (hts : ∀ w ∈ zkGw, w.before args s = true) (hh : zkHd ci ∈ zkGw) (hini : Cond.initialized (iY ci).cls ∈ zkGw) :
    vx_Back l R p e below s args (iY ci) 3 8 (PreOf R mc ms (zkPc G as mem sz)) (PostOf (zkQc G Q) mc ms (zkA G sz)) (vx_Post (zkXc G Q) mc ms (zkA G sz)) := by
  have hws : ∀ w ∈ zkHd ci :: zkGw, ∀ (a' : Array Value) (U : State), s.WarmedH U.vm → w.before a' U = true := fun w hw => pay_in hts zkGw_good w (by rcases List.mem_cons.mp hw with rfl | h; exact hh; exact h)
  have hin2 : ∀ (a' : Array Value) (U : State), s.WarmedH U.vm → (Cond.initialized (iY ci).cls).before a' U = true := fun a' U hW => pay_in hts zkGw_good _ hini a' U hW
  have hloc : 8 + (iL ci + 11) + (zkRm d mc ms).locals ≤ R.locals := by show 8 + (iL ci + 11) + (40 * d + 100) ≤ R.locals; omega
  by_cases h : iH ci = []
  · have hhd : zkHd ci = .code (iY ci) (iC ci) (iL ci) (iR ci) := by unfold zkHd; rw [h]
    exact vx_back (bytes := iC ci) (maxL := iL ci) (ret := iR ci) hM (zkPc_blind G as mem sz) rfl rfl hf hloc hws (by rw [hhd]; exact List.mem_cons_self) hin2
  · have hhd : zkHd ci = .codeWith (iY ci) (iC ci) (iL ci) (iR ci) (iH ci) := by
      unfold zkHd
      split
      · next h2 => exact absurd h2 h
      · rfl
    exact vx_backW (bytes := iC ci) (maxL := iL ci) (ret := iR ci) (hh := iH ci) hM (zkPc_blind G as mem sz) rfl rfl hf hloc hws (by rw [hhd]; exact List.mem_cons_self) hin2
theorem zk_tau_rev (as : List zkV) (st : List zkV) : (as.reverse ++ st).map (tau G) = (as.map (tau G)).reverse ++ st.map (tau G) := by rw [List.map_append, List.map_reverse]
/-- behind a call: the rest of the walk -/
theorem zk_behind {p : Program} {e : Env} {s : State} {m : MethodId} {args : Array Value} {below : List Frame} {meth : Method} {c : Code} {H : Heap} {locs : List Loc} {a : Array Slot} {mc ms : Nat} {as : List zkV} {Q : zkO → zkM → Prop} {T : State} {vs : Array Value} {g : JFrame} {vm₁ : Vm}
    (C : zkC l G i K p s m args meth c) (hS : va_S (zkA G s.heap.size) s.heap H locs) (hl : zkLv G a (iL i) ls) (hT : T.heap = H) (hg : g = F0 m pc a ((as.reverse ++ st).map (tau G)))
    (kr : ∀ (v : Option zkV) (m' : zkM), Q (Sum.inl v) m' → zkW l G i K (cu + mc) (su + ms) (pc + 3) ls (v.toList ++ st) m')
    (kx : ∀ (E : String) (m' : zkM), Q (Sum.inr E) m' → zkX l G i K (cu + mc) (su + ms) pc ls E m')
    (hr : (∃ (v : Option Value) (B : Pt), Stand p l e K.1 s m args below meth c B.U B.locs B.cells B.slots ∧ PostOf (zkQc G Q) mc ms (zkA G H.size) ⟨T.setVm vm₁, locs, cu, su⟩ vs v B ∧ ∀ target, Steps p.tables e below (B.U.setTop { g with pc := g.pc + 3, stack := v.toList ++ st.map (tau G) }) target → Steps p.tables e below (T.setTop g) target) ∨
      (∃ (q : Addr) (B : Pt), s.WarmedH vm₁ ∧ Stand p l e K.1 s m args below meth c B.U B.locs B.cells B.slots ∧ vx_Post (zkXc G Q) mc ms (zkA G H.size) ⟨T.setVm vm₁, locs, cu, su⟩ vs q B ∧ Steps p.tables e below (T.setTop g) ((B.U.setTop { g with stack := st.map (tau G) }).pushFrame (.throwing q)))) :
    ∃ t, Steps p.tables e below (T.setTop g) t ∧ K.2.1 below args s t := by
  subst hg
  rcases hr with ⟨v, ⟨U', l2, c2, s2⟩, X', ⟨g', mk, t, L, e1, e2, ⟨v', m', hv, hq, hP', hF⟩, h1, hL, h2, h3⟩, st1⟩ | ⟨q, ⟨U', l2, c2, s2⟩, hW1, X', ⟨g', mk, t, L, E, ce, e1, e2, ⟨m', hq, hP', hF⟩, hce, hcv, hcl, h1, hL, h2, h3⟩, st1⟩
  · dsimp only [Pt.U, Pt.locs, Pt.cells, Pt.slots] at X' e1 e2 h1 h2 h3 st1
    subst h1; subst h2; subst h3
    cases hv
    obtain ⟨k1, k2, k3⟩ := vx_keep (A0 := zkA G s.heap.size) (A1 := zkA G H.size) (free := zkA G H.size) (st₀ := (T.setVm vm₁).calling g' mk vs) (t := t) (T' := U') hT e1 hS (fun q _ h => zkA_mono hS.1 q h) (fun q h => zkA_mono hS.1 q h) hL (by
      have h9 : ((T.setVm vm₁).calling g' mk vs).heap.size = H.size := by rw [← hT]; rfl
      rw [h9] at hF
      exact hF)
    obtain ⟨t2, a1, b1⟩ := kr v' m' hq p e s m args below meth c C U'.heap (locs ++ L) a (by rw [e1]; exact hP') k3 hl U' rfl X'
    refine ⟨t2, st1 t2 ?_, b1⟩
    have e9 : (v'.map (tau G)).toList ++ st.map (tau G) = (v'.toList ++ st).map (tau G) := by cases v' <;> rfl
    rw [e9]
    exact a1
  · dsimp only [Pt.U, Pt.locs, Pt.cells, Pt.slots] at X' e1 e2 h1 h2 h3 st1 hcl
    subst h1; subst h2; subst h3
    obtain ⟨k1, k2, k3⟩ := vx_keep (A0 := zkA G s.heap.size) (A1 := zkA G H.size) (free := zkA G H.size) (st₀ := (T.setVm vm₁).calling g' mk vs) (t := t) (T' := U') hT e1 hS (fun q _ h => zkA_mono hS.1 q h) (fun q h => zkA_mono hS.1 q h) hL (by
      have h9 : ((T.setVm vm₁).calling g' mk vs).heap.size = H.size := by rw [← hT]; rfl
      rw [h9] at hF
      exact hF)
    obtain ⟨t2, a1, b1⟩ := kx E m' hq p e s m args below meth c C U'.heap (locs ++ L) a q ce (st.map (tau G)) (by rw [e1]; exact hP') k3 hl (by rw [e1]; exact hce) hcv (vx_cls hW1 hcl) U' rfl X'
    exact ⟨t2, st1.trans a1, b1⟩
theorem zk_wsum (st : List zkV) : ((st.map (tau G)).map fun v => v.category).sum = (st.map catV).sum := by
  rw [List.map_map]
  congr 1
  exact List.map_congr_left (fun v _ => catV_eq G v)
theorem zk_pre {s U : State} {H : Heap} {locs : List Loc} {as : List zkV} (hF : zkSF G s s.heap.size) (hP : va_P (gD G) zkCl (wl G mem) H) (hS : va_S (zkA G s.heap.size) s.heap H locs) (hU : U.heap = H) (hW : s.WarmedH U.vm) : zkPc G as mem H.size (as.map (tau G)).toArray U := by
  refine ⟨rfl, by rw [hU], zkSF_go hW hF (fun q h1 h2 => by rw [hU]; exact hS.2.1 q h1 h2) hS.1, by rw [hU]; exact hP⟩
/-- a static call -/
theorem m_callS {idx d mc ms n : Nat} {ne : Bool} {as stk : List zkV} {Q : zkO → zkM → Prop} (hd : (iT i).lookup pc = some (.invokestatic idx, nx)) (hn : nx = pc + 3) (hk : zkLk (iO i) idx ci true ne n) (hc : zkCt l G ci d mc ms as mem Q) (hst : stk = as.reverse ++ st) (ha : as.length = n) (hw : (st.map catV).sum ≤ 8) (hf : d + 1 ≤ K.1.frames) (hlo : 40 * d + 119 + iL ci ≤ K.1.locals) (h1 : cu + mc ≤ K.1.cells) (h2 : su + ms ≤ K.1.slots)
    (kr : ∀ (v : Option zkV) (m' : zkM), Q (Sum.inl v) m' → zkW l G i K (cu + mc) (su + ms) nx ls (v.toList ++ st) m') (kx : ∀ (E : String) (m' : zkM), Q (Sum.inr E) m' → zkX l G i K (cu + mc) (su + ms) pc ls E m') : zkW l G i K cu su pc ls stk mem := by
  intro p e s m args below meth c C H locs a hP hS hl T hT X
  subst hn
  subst hst
  obtain ⟨k1, k2, k3, k4, k5, k6, k7⟩ := hk
  rw [if_pos rfl] at k4
  obtain ⟨hx, hb, hr0, hml, hown, hts, hF, -⟩ := id C
  obtain ⟨mk, methM, hnamed, hmethM, hsigM⟩ := zk_named (hts _ k2)
  have hstatic : methM.isStatic = true := Cond.static_spec hnamed hmethM (hts _ k4)
  obtain ⟨kP, hkP, -⟩ := className_of_methodNamed hnamed
  have hinitP : kP.init = .initialized := Cond.initialized_spec (findClass_of_methodNamed hnamed) hkP (hts _ k3)
  have hlen : (as.map (tau G)).length = methM.sig.parameters.length := by
    rw [hsigM] at k6
    rw [List.length_map, ha]
    exact (Option.some.inj k6).symm
  have hdec : decode c.code pc = .ok (.invokestatic idx, 3) := by rw [hb]; exact zkC_dec C hd rfl
  have hstep : ∃ vm₁, Stand p l e K.1 s m args below meth c (T.setVm vm₁) locs cu su ∧ ∀ target, (∀ acts, Steps p.tables e below (doInvoke e ((T.setVm vm₁).setTop { (F0 m pc a ((as.reverse ++ st).map (tau G))) with stack := st.map (tau G) }) acts mk (as.map (tau G)).toArray).1 target) → Steps p.tables e below (T.setTop (F0 m pc a ((as.reverse ++ st).map (tau G)))) target := by
    cases ne with
    | true => exact X.invokestaticNest hx hown (va_Nw.use rfl (hF.2.1 _ k1)) hnamed hmethM hstatic hkP hinitP k5 (g := F0 m pc a ((as.reverse ++ st).map (tau G))) rfl hlen (zk_tau_rev as st) hdec
    | false => exact X.invokestatic hx hown (hts _ k1) hnamed hmethM hstatic hkP hinitP k5 (g := F0 m pc a ((as.reverse ++ st).map (tau G))) rfl hlen (zk_tau_rev as st) hdec
  obtain ⟨vm₁, X₁, hstep₁⟩ := hstep
  have hK := zk_back (p := p) (e := e) (below := below) (hc H.size) hf hlo hts k2 k3
  have hwt : 2 * (F0 m pc a (st.map (tau G))).monitorRoom + ((st.map (tau G)).map fun v => v.category).sum ≤ 8 := lv_room (by rw [zk_wsum]; exact hw)
  have hB := hK m meth c ⟨T.setVm vm₁, locs, cu, su⟩ (F0 m pc a (st.map (tau G))) (.invokestatic idx) mk (as.map (tau G)).toArray X₁ rfl (hl.1.trans hml.symm) hdec hwt (X₁.named hnamed) ⟨h1, h2, zk_pre hF hP hS hT X₁.warmed⟩
  refine zk_behind C hS hl hT rfl kr kx (vm₁ := vm₁) (vs := (as.map (tau G)).toArray) ?_
  rcases hB with ⟨v, B, X', hpost, hsteps⟩ | ⟨q, B, X', hpost, hsteps⟩
  · exact Or.inl ⟨v, B, X', hpost, fun target h => hstep₁ _ fun acts => by rw [doInvoke_state]; exact hsteps.trans h⟩
  · exact Or.inr ⟨q, B, X₁.warmed, X', hpost, hstep₁ _ fun acts => by rw [doInvoke_state]; exact hsteps⟩
/-- a call of an object's method -/
theorem m_callV {idx d mc ms n t j : Nat} {ne : Bool} {as stk : List zkV} {Q : zkO → zkM → Prop} (hd : (iT i).lookup pc = some (.invokevirtual idx, nx)) (hn : nx = pc + 3) (hk : zkLk (iO i) idx ci false ne n) (hc : zkCt l G ci d mc ms (vr t j :: as) mem Q) (hst : stk = as.reverse ++ vr t j :: st) (hj : j < cnt t) (ht : t < 8) (ho : iO ci = t) (ha : as.length = n) (hw : (st.map catV).sum ≤ 8) (hf : d + 1 ≤ K.1.frames) (hlo : 40 * d + 119 + iL ci ≤ K.1.locals) (h1 : cu + mc ≤ K.1.cells) (h2 : su + ms ≤ K.1.slots)
    (kr : ∀ (v : Option zkV) (m' : zkM), Q (Sum.inl v) m' → zkW l G i K (cu + mc) (su + ms) nx ls (v.toList ++ st) m') (kx : ∀ (E : String) (m' : zkM), Q (Sum.inr E) m' → zkX l G i K (cu + mc) (su + ms) pc ls E m') : zkW l G i K cu su pc ls stk mem := by
  intro p e s m args below meth c C H locs a hP hS hl T hT X
  subst hn
  have hst2 : stk = (vr t j :: as).reverse ++ st := by rw [hst, List.reverse_cons, List.append_assoc]; rfl
  clear hst
  subst hst2
  obtain ⟨k1, k2, k3, k4, k5, k6, k7⟩ := hk
  rw [if_neg (by decide)] at k4
  obtain ⟨hx, hb, hr0, hml, hown, hts, hF, -⟩ := id C
  obtain ⟨mk, methM, hnamed, hmethM, hsigM⟩ := zk_named (hts _ k2)
  obtain ⟨mk', methM', hnamed', hmethM', hstM, habM⟩ := Cond.instanceMethod_spec (hts _ k4.1)
  cases hnamed.symm.trans hnamed'
  cases hmethM.symm.trans hmethM'
  -- the receiver
  obtain ⟨q0, -, he⟩ := wl_at G mem hj
  rw [zkE_obj ht] at he
  obtain ⟨r9, hr1, cell, q1, q2, q3, -⟩ := hP q0 _ he
  have hr9 : r9 = (zkR t, zkT t, nfl t) := Option.some.inj (hr1.symm.trans (zkCl_at ht))
  subst hr9
  have hclsB : s.vm.findClass (iY ci).cls = some cell.cls := by
    rw [k7, ho, q2]
    exact (hF.2.2.1.1 t _ (zkCl_at ht)).2.1
  obtain ⟨c2, r2, m2, p1, p2, p3, p4, kP, hkP, hkPi⟩ := Cond.selects_spec (hts _ k4.2)
  cases hclsB.symm.trans p1
  cases (State.methodFound?_of_named hnamed k5).symm.trans p2
  cases hnamed.symm.trans p3
  have hselP : selectMethod e.platform s.vm cell.cls mk = .method mk := by rw [Launch.admits_selectMethod X.admits]; exact p4
  have hlen : (as.map (tau G)).length = methM.sig.parameters.length := by
    rw [hsigM] at k6
    rw [List.length_map, ha]
    exact (Option.some.inj k6).symm
  have hdec : decode c.code pc = .ok (.invokevirtual idx, 3) := by rw [hb]; exact zkC_dec C hd rfl
  have hstk : ((vr t j :: as).reverse ++ st).map (tau G) = (as.map (tau G)).reverse ++ .ref (ga G (t, j)) :: st.map (tau G) := by
    rw [List.reverse_cons, List.append_assoc, zk_tau_rev]
    rfl
  have hobj : ∀ z, cell.vm ≠ .statics z := fun z h => by rw [q3] at h; cases h
  have hstep : ∃ vm₁, Stand p l e K.1 s m args below meth c (T.setVm vm₁) locs cu su ∧ ∀ target, (∀ acts, Steps p.tables e below (doInvoke e ((T.setVm vm₁).setTop { (F0 m pc a (((vr t j :: as).reverse ++ st).map (tau G))) with stack := st.map (tau G) }) acts mk ((vr t j :: as).map (tau G)).toArray).1 target) → Steps p.tables e below (T.setTop (F0 m pc a (((vr t j :: as).reverse ++ st).map (tau G)))) target := by
    cases ne with
    | true => exact X.invokevirtualNest hx hown (va_Nw.use rfl (hF.2.1 _ k1)) hnamed hmethM hstM hkP hkPi k5 (a := ga G (t, j)) (cell := cell) (by rw [hT]; exact q1) hobj hselP hmethM habM hkP hkPi (g := F0 m pc a (((vr t j :: as).reverse ++ st).map (tau G))) rfl hlen hstk hdec
    | false => exact X.invokevirtual hx hown (hts _ k1) hnamed hmethM hstM hkP hkPi k5 (a := ga G (t, j)) (cell := cell) (by rw [hT]; exact q1) hobj hselP hmethM habM hkP hkPi (g := F0 m pc a (((vr t j :: as).reverse ++ st).map (tau G))) rfl hlen hstk hdec
  obtain ⟨vm₁, X₁, hstep₁⟩ := hstep
  have hK := zk_back (p := p) (e := e) (below := below) (hc H.size) hf hlo hts k2 k3
  have hwt : 2 * (F0 m pc a (st.map (tau G))).monitorRoom + ((st.map (tau G)).map fun v => v.category).sum ≤ 8 := lv_room (by rw [zk_wsum]; exact hw)
  have hB := hK m meth c ⟨T.setVm vm₁, locs, cu, su⟩ (F0 m pc a (st.map (tau G))) (.invokevirtual idx) mk ((vr t j :: as).map (tau G)).toArray X₁ rfl (hl.1.trans hml.symm) hdec hwt (X₁.named hnamed) ⟨h1, h2, zk_pre hF hP hS hT X₁.warmed⟩
  refine zk_behind C hS hl hT rfl kr kx (vm₁ := vm₁) (vs := ((vr t j :: as).map (tau G)).toArray) ?_
  rcases hB with ⟨v, B, X', hpost, hsteps⟩ | ⟨q, B, X', hpost, hsteps⟩
  · exact Or.inl ⟨v, B, X', hpost, fun target h => hstep₁ _ fun acts => by rw [doInvoke_state]; exact hsteps.trans h⟩
  · exact Or.inr ⟨q, B, X₁.warmed, X', hpost, hstep₁ _ fun acts => by rw [doInvoke_state]; exact hsteps⟩
end ZCALL
