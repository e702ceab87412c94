/-! ends, contracts, calls, throws -/
def zkRm (d mc ms : Nat) : Room := { frames := d, cells := mc, slots := ms, locals := 40 * d + 100 }
/-- how a method ends: a value or none, or an exception's class -/
abbrev zkO : Type := Option zkV ⊕ String
def zkQc (G : zkG) (Q : zkO → zkM → Prop) : Array Value → State → Outcome → State → Prop := fun _ st o t => ∃ (v : Option zkV) (m' : zkM), o = .returned (v.map (tau G)) ∧ Q (Sum.inl v) m' ∧ va_P (gD G) zkCl (wl G m') t.heap ∧ va_F (zkA G st.heap.size) st t
def zkXc (G : zkG) (Q : zkO → zkM → Prop) : String → State → State → Prop := fun E st t => ∃ m' : zkM, Q (Sum.inr E) m' ∧ va_P (gD G) zkCl (wl G m') t.heap ∧ va_F (zkA G st.heap.size) st t
def zkKm (G : zkG) (d mc ms : Nat) (Q : zkO → zkM → Prop) : zkK := (zkRm d mc ms, fun below args s => vx_MQ below (zkQc G Q) (zkXc G Q) args s mc ms (zkA G s.heap.size), fun _ _ => True)
def zkPc (G : zkG) (as : List zkV) (mem : zkM) (sz : Nat) : Array Value → State → Prop := fun a U => a = (as.map (tau G)).toArray ∧ U.heap.size = sz ∧ zkSF G U sz ∧ va_P (gD G) zkCl (wl G mem) U.heap
/-- the word of a method's code -/
def zkHd (i : zkI) : Cond := match iH i with
  | [] => .code (iY i) (iC i) (iL i) (iR i)
  | hh => .codeWith (iY i) (iC i) (iL i) (iR i) hh
/-- a contract -/
def zkCt (l : Launch) (G : zkG) (i : zkI) (d mc ms : Nat) (as : List zkV) (mem : zkM) (Q : zkO → zkM → Prop) : Prop :=
  ∀ sz : Nat, vx_Met l (iY i) (zkHd i :: zkGw) (zkRm d mc ms) (zkPc G as mem sz) (zkQc G Q) (zkXc G Q) mc ms (zkA G sz)
def zkR1 (v : zkV) (f : zkM) : zkO → zkM → Prop := fun o m => o = Sum.inl (some v) ∧ m = f
def zkR0 (f : zkM) : zkO → zkM → Prop := fun o m => o = Sum.inl none ∧ m = f
/-- what is known of the start goes along -/
theorem zkSF_go {G : zkG} {s U : State} {sz : Nat} (hW : s.WarmedH U.vm) (h : zkSF G s sz) (hk : ∀ q : Nat, q < s.heap.size → ¬ zkA G sz q → U.heap[q]? = s.heap[q]?) {sz' : Nat} (hs : sz ≤ sz') : zkSF G U sz' := by
  obtain ⟨h1, h2, h3, h4, h5, h6, h7, h8, h9, h10, h11⟩ := h
  have hA : ∀ q, zkA G sz' q → zkA G sz q := zkA_mono hs
  refine ⟨h1, fun w hw => ?_, va_K.moved hW.alike h3, ((vx_Zq.moved hW.alike h4).kept hk).narrow hA, ((vx_Zq.moved hW.alike h5).kept hk).narrow hA, fun q hq => ?_, fun q hq => vk_R.warm hW (h7 q hq), ((vk_S.moved hW.alike h8).kept hk).narrow hA, ⟨((va_Z.moved hW.alike h9.1).kept hk).narrow hA, ((va_Zq.moved hW.alike h9.2).kept hk).narrow hA⟩, fun a ha b hb hab => va_Nc.moved hW.alike (h10 a ha b hb hab), zkCs_go hW.alike h11⟩
  · have hn := (List.mem_filter.mp hw).2
    have hz := h2 w hw
    cases w <;> first
      | exact va_Nw.warmF hW hz
      | exact va_Nw.warmM hW hz
      | exact va_Nw.warmD hW hz
      | exact absurd hn (by simp [zkNest])
  · obtain ⟨sa, hsa⟩ := h6 q hq
    exact ⟨sa, vk_R.warm hW hsa⟩
theorem zkPc_blind (G : zkG) (as : List zkV) (mem : zkM) (sz : Nat) : FrameBlind (zkPc G as mem sz) := by
  intro a U g mk h
  obtain ⟨h1, h2, h3, h4⟩ := h
  exact ⟨h1, h2, zkSF_go (s := U) (U := U.calling g mk a) (State.WarmedH.refl U) h3 (fun q _ _ => rfl) (Nat.le_refl _), h4⟩
theorem zk_args {vs : List Value} (hc : ∀ v ∈ vs, v.category = 1) : ∀ (n k : Nat) (v : Value), vs[k]? = some v → (n + k, v) ∈ lv_args n vs := by
  induction vs with
  | nil => intro n k v h; simp at h
  | cons w vs ih =>
    intro n k v h
    have hw := hc w List.mem_cons_self
    unfold lv_args
    rw [if_neg (by omega)]
    cases k with
    | zero =>
      rw [List.getElem?_cons_zero] at h
      cases h
      exact List.mem_cons_self
    | succ k =>
      rw [List.getElem?_cons_succ] at h
      refine List.mem_cons_of_mem _ ?_
      have := ih (fun v hv => hc v (List.mem_cons_of_mem _ hv)) (n + 1) k v h
      rw [show n + (k + 1) = n + 1 + k by omega]
      exact this
theorem zk_sl {vs : List Value} (hc : ∀ v ∈ vs, v.category = 1) : (lg_sl vs).length = vs.length := by
  induction vs with
  | nil => rfl
  | cons w vs ih =>
    have hw := hc w List.mem_cons_self
    unfold lg_sl at *
    rw [List.flatMap_cons, List.length_append, if_neg (by omega), ih (fun v hv => hc v (List.mem_cons_of_mem _ hv))]
    simp
    omega
theorem zk_entry {G : zkG} {as : List zkV} {n : Nat} (hc : ∀ v ∈ as, catV v = 1) (hn : as.length ≤ n) : zkLv G ((lg_sl (as.map (tau G)) ++ List.replicate (n - (lg_sl (as.map (tau G))).length) Slot.unset).toArray) n (as.map some ++ List.replicate (n - as.length) none) := by
  have hc' : ∀ v ∈ as.map (tau G), v.category = 1 := by
    intro v hv
    obtain ⟨w, hw, rfl⟩ := List.mem_map.mp hv
    rw [catV_eq]
    exact hc w hw
  have h := lv_entry (as.map (tau G)) (n := n) (by rw [zk_sl hc', List.length_map]; exact hn)
  refine ⟨h.1, h.2.1, fun k v hv => ?_⟩
  by_cases hk : k < as.length
  · rw [List.getElem?_append_left (by rw [List.length_map]; exact hk), List.getElem?_map] at hv
    cases hq : as[k]? with
    | none => rw [hq] at hv; cases hv
    | some w =>
      rw [hq] at hv
      cases hv
      have h3 := zk_args hc' 0 k (tau G v) (by rw [List.getElem?_map, hq]; rfl)
      rw [Nat.zero_add] at h3
      exact h.2.2 _ h3
  · rw [List.getElem?_append_right (by rw [List.length_map]; omega)] at hv
    rw [List.getElem?_replicate] at hv
    split at hv <;> cases hv
/-- a contract out of the walk of its body -/
theorem zkCt_of {l : Launch} {G : zkG} {i : zkI} {d mc ms : Nat} {as : List zkV} {mem : zkM} {Q : zkO → zkM → Prop} (hl : l.stackTraces = false) (hO : zkOk i) (hy : plainName (iY i).cls = true) (hw : (iY i).cls = zkR (iO i)) (hH : iH i = []) (hc : ∀ v ∈ as, catV v = 1) (hn : as.length ≤ iL i)
    (body : zkW l G i (zkKm G d mc ms Q) 0 0 0 (as.map some ++ List.replicate (iL i - as.length) none) [] mem) : zkCt l G i d mc ms as mem Q := by
  intro sz
  have hhd : zkHd i = .code (iY i) (iC i) (iL i) (iR i) := by unfold zkHd; rw [hH]
  rw [hhd]
  refine vx_ofW (cc := iC i) (maxL := iL i) (ret := iR i) hy rfl ?_
  intro p e s m args below meth c s₁ B hml hex hv
  obtain ⟨rfl, rfl, hF, hP⟩ := hv
  have hts := atoms_spec (ws := Cond.code (iY i) (iC i) (iL i) (iR i) :: zkGw) B.pre
  rw [lg_entry_eq]
  refine body p e s m _ below meth c ⟨B.exec, B.bytes, B.returns, hml, ?_, fun w h => hts w (List.mem_cons_of_mem _ h), hF, B.notSynchronized, ?_, hl, hO, trivial⟩ s.heap [] _ hP va_S.rf (zk_entry hc hn)
  · rw [← hw]; exact findClass_of_methodNamed B.named
  · rw [hH]
    cases ht : c.exceptionTable.toList with
    | nil => rfl
    | cons x xs => exact absurd (hex x (by rw [ht]; exact List.mem_cons_self)) id
/-- of a method with handlers -/
theorem zkCt_ofH {l : Launch} {G : zkG} {i : zkI} {d mc ms : Nat} {as : List zkV} {mem : zkM} {Q : zkO → zkM → Prop} (hl : l.stackTraces = false) (hO : zkOk i) (hy : plainName (iY i).cls = true) (hw : (iY i).cls = zkR (iO i)) (hH : iH i ≠ []) (hc : ∀ v ∈ as, catV v = 1) (hn : as.length ≤ iL i)
    (body : zkW l G i (zkKm G d mc ms Q) 0 0 0 (as.map some ++ List.replicate (iL i - as.length) none) [] mem) : zkCt l G i d mc ms as mem Q := by
  intro sz
  have hhd : zkHd i = .codeWith (iY i) (iC i) (iL i) (iR i) (iH i) := by
    unfold zkHd
    split
    · next h => exact absurd h hH
    · rfl
  rw [hhd]
  refine vx_ofWH (cc := iC i) (maxL := iL i) (ret := iR i) (hh := iH i) hy rfl ?_
  intro p e s m args below meth c s₁ B hml hv
  obtain ⟨rfl, rfl, hF, hP⟩ := hv
  have hts := atoms_spec (ws := Cond.codeWith (iY i) (iC i) (iL i) (iR i) (iH i) :: zkGw) B.pre
  rw [lg_entry_eq]
  refine body p e s m _ below meth c ⟨B.exec, B.bytes, B.returns, hml, ?_, fun w h => hts w (List.mem_cons_of_mem _ h), hF, B.notSynchronized, ?_, hl, hO, trivial⟩ s.heap [] _ hP va_S.rf (zk_entry hc hn)
  · rw [← hw]; exact findClass_of_methodNamed B.named
  · exact vx_table (x := iY i) B (hts _ List.mem_cons_self)
section ZENDS
variable {l : Launch} {G : zkG} {i : zkI} {d mc ms cu su pc nx : Nat} {ls : List (Option zkV)} {mem : zkM} {Q : zkO → zkM → Prop}
theorem zk_qc {s t : State} {H : Heap} {locs : List Loc} {v : Option zkV} {a : Array Value} (hq : Q (Sum.inl v) mem) (hP : va_P (gD G) zkCl (wl G mem) H) (hS : va_S (zkA G s.heap.size) s.heap H locs) (ht : t.heap = H) : zkQc G Q a s (.returned (v.map (tau G))) t :=
  ⟨v, mem, rfl, hq, by rw [ht]; exact hP, hS.F ht⟩
theorem m_iret {x : Int} (hd : (iT i).lookup pc = some (.ireturn, nx)) (hn : nx = pc + 1) (hr : iR i = some .int) (hc : cu ≤ mc) (hs : su ≤ ms) (hq : Q (Sum.inl (some (vi x))) mem) : zkW l G i (zkKm G d mc ms Q) cu su pc ls [vi x] mem := by
  intro p e s m args below meth c C H locs a hP hS hl
  subst hn
  refine W.widen (k := mc) (n := ms) hc hs ?_
  exact vx_ret (W.iret (v := Int32.ofInt x) C.1 C.2.1 (C.2.2.1.trans hr) (fun t ht _ => zk_qc hq hP hS ht) hS.2.2 (zkC_dec C hd rfl) C.2.2.2.2.2.2.2.1)
theorem m_zret {b : Bool} (hd : (iT i).lookup pc = some (.ireturn, nx)) (hn : nx = pc + 1) (hr : iR i = some .boolean) (hc : cu ≤ mc) (hs : su ≤ ms) (hq : Q (Sum.inl (some (vi (b2i b)))) mem) : zkW l G i (zkKm G d mc ms Q) cu su pc ls [vi (b2i b)] mem := by
  intro p e s m args below meth c C H locs a hP hS hl
  subst hn
  refine W.widen (k := mc) (n := ms) hc hs ?_
  exact vx_ret (W.zret (v := Int32.ofInt (b2i b)) C.1 C.2.1 (C.2.2.1.trans hr) (zk_nb b).1 (fun t ht _ => zk_qc hq hP hS ht) hS.2.2 (zkC_dec C hd rfl) C.2.2.2.2.2.2.2.1)
theorem m_z1 (hd : (iT i).lookup pc = some (.ireturn, nx)) (hn : nx = pc + 1) (hr : iR i = some .boolean) (hc : cu ≤ mc) (hs : su ≤ ms) (hq : Q (Sum.inl (some (vi (b2i true)))) mem) : zkW l G i (zkKm G d mc ms Q) cu su pc ls [vi 1] mem := m_zret (b := true) hd hn hr hc hs hq
theorem m_z0 (hd : (iT i).lookup pc = some (.ireturn, nx)) (hn : nx = pc + 1) (hr : iR i = some .boolean) (hc : cu ≤ mc) (hs : su ≤ ms) (hq : Q (Sum.inl (some (vi (b2i false)))) mem) : zkW l G i (zkKm G d mc ms Q) cu su pc ls [vi 0] mem := m_zret (b := false) hd hn hr hc hs hq
theorem m_dret {x : UInt64} (hd : (iT i).lookup pc = some (.dreturn, nx)) (hn : nx = pc + 1) (hr : iR i = some .double) (hc : cu ≤ mc) (hs : su ≤ ms) (hq : Q (Sum.inl (some (vd x))) mem) : zkW l G i (zkKm G d mc ms Q) cu su pc ls [vd x] mem := by
  intro p e s m args below meth c C H locs a hP hS hl
  subst hn
  refine W.widen (k := mc) (n := ms) hc hs ?_
  exact vx_ret (W.dret (v := x) C.1 C.2.1 (C.2.2.1.trans hr) (fun t ht _ => zk_qc hq hP hS ht) hS.2.2 (zkC_dec C hd rfl) C.2.2.2.2.2.2.2.1)
theorem m_fret {x : UInt32} (hd : (iT i).lookup pc = some (.freturn, nx)) (hn : nx = pc + 1) (hr : iR i = some .float) (hc : cu ≤ mc) (hs : su ≤ ms) (hq : Q (Sum.inl (some (vf x))) mem) : zkW l G i (zkKm G d mc ms Q) cu su pc ls [vf x] mem := by
  intro p e s m args below meth c C H locs a hP hS hl
  subst hn
  refine W.widen (k := mc) (n := ms) hc hs ?_
  exact vx_ret (W.fret (v := x) C.1 C.2.1 (C.2.2.1.trans hr) (fun t ht _ => zk_qc hq hP hS ht) hS.2.2 (zkC_dec C hd rfl) C.2.2.2.2.2.2.2.1)
theorem m_aret {t j : Nat} {R0 : String} (hd : (iT i).lookup pc = some (.areturn, nx)) (hn : nx = pc + 1) (hr : iR i = some (.object R0)) (hc : cu ≤ mc) (hs : su ≤ ms) (hq : Q (Sum.inl (some (vr t j))) mem) : zkW l G i (zkKm G d mc ms Q) cu su pc ls [vr t j] mem := by
  intro p e s m args below meth c C H locs a hP hS hl
  subst hn
  refine W.widen (k := mc) (n := ms) hc hs ?_
  exact vx_ret (W.aret (v := .ref (ga G (t, j))) C.1 C.2.1 (C.2.2.1.trans hr) (Or.inl ⟨_, rfl⟩) (Or.inr ⟨_, rfl⟩) (fun t ht _ => zk_qc (v := some (vr _ _)) hq hP hS ht) hS.2.2 (zkC_dec C hd rfl) C.2.2.2.2.2.2.2.1)
theorem m_vret (hd : (iT i).lookup pc = some (.return_, nx)) (hn : nx = pc + 1) (hr : iR i = none) (hc : cu ≤ mc) (hs : su ≤ ms) (hq : Q (Sum.inl none) mem) : zkW l G i (zkKm G d mc ms Q) cu su pc ls [] mem := by
  intro p e s m args below meth c C H locs a hP hS hl
  subst hn
  refine W.widen (k := mc) (n := ms) hc hs ?_
  exact vx_ret (W.vret C.1 C.2.1 (C.2.2.1.trans hr) (fun t ht _ => zk_qc (v := none) hq hP hS ht) hS.2.2 (zkC_dec C hd rfl) C.2.2.2.2.2.2.2.1)
end ZENDS
