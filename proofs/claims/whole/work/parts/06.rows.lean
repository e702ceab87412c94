/-! rows of one instruction over the judgement -/
section ZROWS
variable {l : Launch} {G : zkG} {i : zkI} {K : zkK} {cu su pc nx : Nat} {ls : List (Option zkV)} {st : List zkV} {mem : zkM}
theorem m_iconst {n : Int} (hd : (iT i).lookup pc = some (.iconst n, nx)) (hn : nx = pc + 1) (k : zkW l G i K cu su nx ls (vi n :: st) mem) : zkW l G i K cu su pc ls (st) mem := by
  intro p e s m args below meth c C H locs a hP hS hl
  subst hn
  exact lv_iconst C.1 C.2.1 (zkC_dec C hd rfl) rfl (k p e s m args below meth c C H locs a hP hS hl)
theorem m_bipush {n : Int} (hd : (iT i).lookup pc = some (.bipush n, nx)) (hn : nx = pc + 2) (hv : (Int8.ofInt n).toInt32 = Int32.ofInt n) (k : zkW l G i K cu su nx ls (vi n :: st) mem) : zkW l G i K cu su pc ls (st) mem := by
  intro p e s m args below meth c C H locs a hP hS hl
  subst hn
  exact lv_bipush C.1 C.2.1 (zkC_dec C hd rfl) hv (k p e s m args below meth c C H locs a hP hS hl)
theorem m_sipush {n : Int} (hd : (iT i).lookup pc = some (.sipush n, nx)) (hn : nx = pc + 3) (hv : (Int16.ofInt n).toInt32 = Int32.ofInt n) (k : zkW l G i K cu su nx ls (vi n :: st) mem) : zkW l G i K cu su pc ls (st) mem := by
  intro p e s m args below meth c C H locs a hP hS hl
  subst hn
  exact lv_sipush C.1 C.2.1 (zkC_dec C hd rfl) hv (k p e s m args below meth c C H locs a hP hS hl)
theorem m_lconst {n : Fin 2} {x : Int} (hd : (iT i).lookup pc = some (.lconst n, nx)) (hn : nx = pc + 1) (hv : Int64.ofNat (n : Nat) = Int64.ofInt x) (k : zkW l G i K cu su nx ls (vl x :: st) mem) : zkW l G i K cu su pc ls (st) mem := by
  intro p e s m args below meth c C H locs a hP hS hl
  subst hn
  exact lv_lconst C.1 C.2.1 (zkC_dec C hd rfl) hv (k p e s m args below meth c C H locs a hP hS hl)
theorem m_dconst0 (hd : (iT i).lookup pc = some (.dconst 0, nx)) (hn : nx = pc + 1) (k : zkW l G i K cu su nx ls (vd FP.dconst0 :: st) mem) : zkW l G i K cu su pc ls (st) mem := by
  intro p e s m args below meth c C H locs a hP hS hl
  subst hn
  exact lv_dconst0 C.1 C.2.1 (zkC_dec C hd rfl) (k p e s m args below meth c C H locs a hP hS hl)
theorem m_dconst1 (hd : (iT i).lookup pc = some (.dconst 1, nx)) (hn : nx = pc + 1) (k : zkW l G i K cu su nx ls (vd FP.dconst1 :: st) mem) : zkW l G i K cu su pc ls (st) mem := by
  intro p e s m args below meth c C H locs a hP hS hl
  subst hn
  exact lv_dconst1 C.1 C.2.1 (zkC_dec C hd rfl) (k p e s m args below meth c C H locs a hP hS hl)
theorem m_fconst0 (hd : (iT i).lookup pc = some (.fconst 0, nx)) (hn : nx = pc + 1) (k : zkW l G i K cu su nx ls (vf FP.fconst0 :: st) mem) : zkW l G i K cu su pc ls (st) mem := by
  intro p e s m args below meth c C H locs a hP hS hl
  subst hn
  exact lv_fconst0 C.1 C.2.1 (zkC_dec C hd rfl) (k p e s m args below meth c C H locs a hP hS hl)
theorem m_iload {n : Nat} {x : Int} (hd : (iT i).lookup pc = some (.iload n, nx)) (hn : nx = pc + 2) (hv : ls[n]? = some (some (vi x))) (k : zkW l G i K cu su nx ls (vi x :: st) mem) : zkW l G i K cu su pc ls (st) mem := by
  intro p e s m args below meth c C H locs a hP hS hl
  subst hn
  exact lv_iload C.1 C.2.1 (zkC_dec C hd rfl) (hl.2.2 n _ hv) (k p e s m args below meth c C H locs a hP hS hl)
theorem m_iload_n {n : Fin 4} {x : Int} (hd : (iT i).lookup pc = some (.iload_n n, nx)) (hn : nx = pc + 1) (hv : ls[(n : Nat)]? = some (some (vi x))) (k : zkW l G i K cu su nx ls (vi x :: st) mem) : zkW l G i K cu su pc ls (st) mem := by
  intro p e s m args below meth c C H locs a hP hS hl
  subst hn
  exact lv_iload_n C.1 C.2.1 (zkC_dec C hd rfl) rfl (hl.2.2 n _ hv) (k p e s m args below meth c C H locs a hP hS hl)
theorem m_aload {n : Nat} {t j : Nat} (hd : (iT i).lookup pc = some (.aload n, nx)) (hn : nx = pc + 2) (hv : ls[n]? = some (some (vr t j))) (k : zkW l G i K cu su nx ls (vr t j :: st) mem) : zkW l G i K cu su pc ls (st) mem := by
  intro p e s m args below meth c C H locs a hP hS hl
  subst hn
  exact lv_aload C.1 C.2.1 (zkC_dec C hd rfl) (hl.2.2 n _ hv) (k p e s m args below meth c C H locs a hP hS hl)
theorem m_aload_n {n : Fin 4} {t j : Nat} (hd : (iT i).lookup pc = some (.aload_n n, nx)) (hn : nx = pc + 1) (hv : ls[(n : Nat)]? = some (some (vr t j))) (k : zkW l G i K cu su nx ls (vr t j :: st) mem) : zkW l G i K cu su pc ls (st) mem := by
  intro p e s m args below meth c C H locs a hP hS hl
  subst hn
  exact lv_aload_n C.1 C.2.1 (zkC_dec C hd rfl) rfl (hl.2.2 n _ hv) (k p e s m args below meth c C H locs a hP hS hl)
theorem m_dload {n : Nat} {x : UInt64} (hd : (iT i).lookup pc = some (.dload n, nx)) (hn : nx = pc + 2) (hv : ls[n]? = some (some (vd x))) (k : zkW l G i K cu su nx ls (vd x :: st) mem) : zkW l G i K cu su pc ls (st) mem := by
  intro p e s m args below meth c C H locs a hP hS hl
  subst hn
  exact lv_dload C.1 C.2.1 (zkC_dec C hd rfl) (hl.2.2 n _ hv) (k p e s m args below meth c C H locs a hP hS hl)
theorem m_dload_n {n : Fin 4} {x : UInt64} (hd : (iT i).lookup pc = some (.dload_n n, nx)) (hn : nx = pc + 1) (hv : ls[(n : Nat)]? = some (some (vd x))) (k : zkW l G i K cu su nx ls (vd x :: st) mem) : zkW l G i K cu su pc ls (st) mem := by
  intro p e s m args below meth c C H locs a hP hS hl
  subst hn
  exact lv_dload_n C.1 C.2.1 (zkC_dec C hd rfl) rfl (hl.2.2 n _ hv) (k p e s m args below meth c C H locs a hP hS hl)
theorem m_fload {n : Nat} {x : UInt32} (hd : (iT i).lookup pc = some (.fload n, nx)) (hn : nx = pc + 2) (hv : ls[n]? = some (some (vf x))) (k : zkW l G i K cu su nx ls (vf x :: st) mem) : zkW l G i K cu su pc ls (st) mem := by
  intro p e s m args below meth c C H locs a hP hS hl
  subst hn
  exact lv_fload C.1 C.2.1 (zkC_dec C hd rfl) (hl.2.2 n _ hv) (k p e s m args below meth c C H locs a hP hS hl)
theorem m_fload_n {n : Fin 4} {x : UInt32} (hd : (iT i).lookup pc = some (.fload_n n, nx)) (hn : nx = pc + 1) (hv : ls[(n : Nat)]? = some (some (vf x))) (k : zkW l G i K cu su nx ls (vf x :: st) mem) : zkW l G i K cu su pc ls (st) mem := by
  intro p e s m args below meth c C H locs a hP hS hl
  subst hn
  exact lv_fload_n C.1 C.2.1 (zkC_dec C hd rfl) rfl (hl.2.2 n _ hv) (k p e s m args below meth c C H locs a hP hS hl)
theorem m_aload_v {n : Nat} {q : Nat} (hd : (iT i).lookup pc = some (.aload n, nx)) (hn : nx = pc + 2) (hv : ls[n]? = some (some (vv (.ref q)))) (k : zkW l G i K cu su nx ls (vv (.ref q) :: st) mem) : zkW l G i K cu su pc ls (st) mem := by
  intro p e s m args below meth c C H locs a hP hS hl
  subst hn
  exact lv_aload C.1 C.2.1 (zkC_dec C hd rfl) (hl.2.2 n _ hv) (k p e s m args below meth c C H locs a hP hS hl)
theorem m_aload_nv {n : Fin 4} {q : Nat} (hd : (iT i).lookup pc = some (.aload_n n, nx)) (hn : nx = pc + 1) (hv : ls[(n : Nat)]? = some (some (vv (.ref q)))) (k : zkW l G i K cu su nx ls (vv (.ref q) :: st) mem) : zkW l G i K cu su pc ls (st) mem := by
  intro p e s m args below meth c C H locs a hP hS hl
  subst hn
  exact lv_aload_n C.1 C.2.1 (zkC_dec C hd rfl) rfl (hl.2.2 n _ hv) (k p e s m args below meth c C H locs a hP hS hl)
/-- no long or double stands ahead of the place -/
def zkSt (ls : List (Option zkV)) (n : Nat) : Bool := match n with
  | 0 => true
  | j + 1 => match ls[j]? with
    | some (some v) => catV v == 1
    | _ => true
def zkAs (G : zkG) (ls : List (Option zkV)) : List (Nat × Value) := (List.range ls.length).filterMap (fun j => (ls[j]?.join).map (fun v => (j, tau G v)))
theorem zkAs_mem {G : zkG} {ls : List (Option zkV)} {j : Nat} {v : zkV} (h : ls[j]? = some (some v)) : (j, tau G v) ∈ zkAs G ls := by
  unfold zkAs
  refine List.mem_filterMap.mpr ⟨j, List.mem_range.mpr (List.getElem?_eq_some_iff.mp h).1, ?_⟩
  rw [h]
  rfl
theorem zkAs_has {G : zkG} {a : Array Slot} {n : Nat} {ls : List (Option zkV)} (h : zkLv G a n ls) : lv_has a n (zkAs G ls) := by
  refine ⟨h.1, h.2.1, fun q hq => ?_⟩
  obtain ⟨j, -, hj⟩ := List.mem_filterMap.mp hq
  cases hv : ls[j]? with
  | none => rw [hv] at hj; cases hj
  | some o =>
    cases o with
    | none => rw [hv] at hj; cases hj
    | some v =>
      rw [hv] at hj
      cases hj
      exact h.2.2 j v hv
theorem zkLv_st1 {G : zkG} {a a' : Array Slot} {n j : Nat} {ls : List (Option zkV)} {v : zkV} (h : zkLv G a n ls) (hj : j < n) (ho : zkSt ls j = true) (h' : lv_has a' n ((j, tau G v) :: (zkAs G ls).filter (fun q => !(q.1 == j) && !(q.1 + 1 == j && q.2.category == 2)))) : zkLv G a' n (ls.set j (some v)) := by
  refine ⟨h'.1, h'.2.1, fun x w hx => ?_⟩
  rw [List.getElem?_set] at hx
  by_cases e : j = x
  · subst e
    rw [if_pos rfl] at hx
    split at hx
    · cases hx
      exact h'.2.2 (j, tau G v) List.mem_cons_self
    · cases hx
  · rw [if_neg e] at hx
    refine h'.2.2 (x, tau G w) (List.mem_cons_of_mem _ (List.mem_filter.mpr ⟨zkAs_mem hx, ?_⟩))
    have h1 : (x == j) = false := beq_eq_false_iff_ne.mpr (fun q => e q.symm)
    simp only [h1, Bool.not_false, Bool.true_and, Bool.not_eq_true', Bool.and_eq_false_iff, catV_eq]
    by_cases e2 : x + 1 = j
    · refine Or.inr ?_
      subst e2
      unfold zkSt at ho
      simp only [hx] at ho
      rw [eq_of_beq ho]
      rfl
    · exact Or.inl (beq_eq_false_iff_ne.mpr e2)
theorem zkLv_st2 {G : zkG} {a a' : Array Slot} {n j : Nat} {ls : List (Option zkV)} {v : zkV} (h : zkLv G a n ls) (hj : j + 1 < n) (ho : zkSt ls j = true) (h' : lv_has a' n ((j, tau G v) :: (zkAs G ls).filter (fun q => !(q.1 == j) && (!(q.1 == j + 1) && !(q.1 + 1 == j && q.2.category == 2))))) : zkLv G a' n ((ls.set j (some v)).set (j + 1) none) := by
  refine ⟨h'.1, h'.2.1, fun x w hx => ?_⟩
  rw [List.getElem?_set] at hx
  by_cases e0 : j + 1 = x
  · rw [if_pos e0] at hx
    split at hx <;> cases hx
  · rw [if_neg e0, List.getElem?_set] at hx
    by_cases e : j = x
    · subst e
      rw [if_pos rfl] at hx
      split at hx
      · cases hx
        exact h'.2.2 (j, tau G v) List.mem_cons_self
      · cases hx
    · rw [if_neg e] at hx
      refine h'.2.2 (x, tau G w) (List.mem_cons_of_mem _ (List.mem_filter.mpr ⟨zkAs_mem hx, ?_⟩))
      have h1 : (x == j) = false := beq_eq_false_iff_ne.mpr (fun q => e q.symm)
      have h2 : (x == j + 1) = false := beq_eq_false_iff_ne.mpr (fun q => e0 q.symm)
      simp only [h1, h2, Bool.not_false, Bool.true_and, Bool.not_eq_true', Bool.and_eq_false_iff, catV_eq]
      by_cases e2 : x + 1 = j
      · refine Or.inr ?_
        subst e2
        unfold zkSt at ho
        simp only [hx] at ho
        rw [eq_of_beq ho]
        rfl
      · exact Or.inl (beq_eq_false_iff_ne.mpr e2)
theorem m_istore {n : Nat} {x : Int} (hd : (iT i).lookup pc = some (.istore n, nx)) (hn : nx = pc + 2) (hi : n < iL i) (ho : zkSt ls n = true) (k : zkW l G i K cu su nx (ls.set n (some (vi x))) st mem) : zkW l G i K cu su pc ls (vi x :: st) mem := by
  intro p e s m args below meth c C H locs a hP hS hl
  subst hn
  exact lv_istore C.1 C.2.1 (zkC_dec C hd rfl) (zkAs_has hl) hi rfl (fun a' h' => k p e s m args below meth c C H locs a' hP hS (zkLv_st1 hl hi ho h'))
theorem m_istore_n {n : Fin 4} {x : Int} (hd : (iT i).lookup pc = some (.istore_n n, nx)) (hn : nx = pc + 1) (hi : (n : Nat) < iL i) (ho : zkSt ls (n : Nat) = true) (k : zkW l G i K cu su nx (ls.set (n : Nat) (some (vi x))) st mem) : zkW l G i K cu su pc ls (vi x :: st) mem := by
  intro p e s m args below meth c C H locs a hP hS hl
  subst hn
  exact lv_istore_n C.1 C.2.1 (zkC_dec C hd rfl) rfl (zkAs_has hl) hi rfl (fun a' h' => k p e s m args below meth c C H locs a' hP hS (zkLv_st1 hl hi ho h'))
theorem m_astore {n : Nat} {t j : Nat} (hd : (iT i).lookup pc = some (.astore n, nx)) (hn : nx = pc + 2) (hi : n < iL i) (ho : zkSt ls n = true) (k : zkW l G i K cu su nx (ls.set n (some (vr t j))) st mem) : zkW l G i K cu su pc ls (vr t j :: st) mem := by
  intro p e s m args below meth c C H locs a hP hS hl
  subst hn
  exact lv_astore C.1 C.2.1 (zkC_dec C hd rfl) (zkAs_has hl) hi rfl (fun a' h' => k p e s m args below meth c C H locs a' hP hS (zkLv_st1 hl hi ho h'))
theorem m_astore_n {n : Fin 4} {t j : Nat} (hd : (iT i).lookup pc = some (.astore_n n, nx)) (hn : nx = pc + 1) (hi : (n : Nat) < iL i) (ho : zkSt ls (n : Nat) = true) (k : zkW l G i K cu su nx (ls.set (n : Nat) (some (vr t j))) st mem) : zkW l G i K cu su pc ls (vr t j :: st) mem := by
  intro p e s m args below meth c C H locs a hP hS hl
  subst hn
  exact lv_astore_n C.1 C.2.1 (zkC_dec C hd rfl) rfl (zkAs_has hl) hi rfl (fun a' h' => k p e s m args below meth c C H locs a' hP hS (zkLv_st1 hl hi ho h'))
theorem m_dstore {n : Nat} {x : UInt64} (hd : (iT i).lookup pc = some (.dstore n, nx)) (hn : nx = pc + 2) (hi : n + 1 < iL i) (ho : zkSt ls n = true) (k : zkW l G i K cu su nx ((ls.set n (some (vd x))).set (n + 1) none) st mem) : zkW l G i K cu su pc ls (vd x :: st) mem := by
  intro p e s m args below meth c C H locs a hP hS hl
  subst hn
  exact lv_dstore C.1 C.2.1 (zkC_dec C hd rfl) (zkAs_has hl) hi rfl (fun a' h' => k p e s m args below meth c C H locs a' hP hS (zkLv_st2 hl hi ho h'))
theorem m_dstore_n {n : Fin 4} {x : UInt64} (hd : (iT i).lookup pc = some (.dstore_n n, nx)) (hn : nx = pc + 1) (hi : (n : Nat) + 1 < iL i) (ho : zkSt ls (n : Nat) = true) (k : zkW l G i K cu su nx ((ls.set (n : Nat) (some (vd x))).set ((n : Nat) + 1) none) st mem) : zkW l G i K cu su pc ls (vd x :: st) mem := by
  intro p e s m args below meth c C H locs a hP hS hl
  subst hn
  exact lv_dstore_n C.1 C.2.1 (zkC_dec C hd rfl) rfl (zkAs_has hl) hi rfl (fun a' h' => k p e s m args below meth c C H locs a' hP hS (zkLv_st2 hl hi ho h'))
theorem m_fstore {n : Nat} {x : UInt32} (hd : (iT i).lookup pc = some (.fstore n, nx)) (hn : nx = pc + 2) (hi : n < iL i) (ho : zkSt ls n = true) (k : zkW l G i K cu su nx (ls.set n (some (vf x))) st mem) : zkW l G i K cu su pc ls (vf x :: st) mem := by
  intro p e s m args below meth c C H locs a hP hS hl
  subst hn
  exact lv_fstore C.1 C.2.1 (zkC_dec C hd rfl) (zkAs_has hl) hi rfl (fun a' h' => k p e s m args below meth c C H locs a' hP hS (zkLv_st1 hl hi ho h'))
theorem m_fstore_n {n : Fin 4} {x : UInt32} (hd : (iT i).lookup pc = some (.fstore_n n, nx)) (hn : nx = pc + 1) (hi : (n : Nat) < iL i) (ho : zkSt ls (n : Nat) = true) (k : zkW l G i K cu su nx (ls.set (n : Nat) (some (vf x))) st mem) : zkW l G i K cu su pc ls (vf x :: st) mem := by
  intro p e s m args below meth c C H locs a hP hS hl
  subst hn
  exact lv_fstore_n C.1 C.2.1 (zkC_dec C hd rfl) rfl (zkAs_has hl) hi rfl (fun a' h' => k p e s m args below meth c C H locs a' hP hS (zkLv_st1 hl hi ho h'))
theorem m_astore_v {n : Nat} {q : Nat} (hd : (iT i).lookup pc = some (.astore n, nx)) (hn : nx = pc + 2) (hi : n < iL i) (ho : zkSt ls n = true) (k : zkW l G i K cu su nx (ls.set n (some (vv (.ref q)))) st mem) : zkW l G i K cu su pc ls (vv (.ref q) :: st) mem := by
  intro p e s m args below meth c C H locs a hP hS hl
  subst hn
  exact lv_astore C.1 C.2.1 (zkC_dec C hd rfl) (zkAs_has hl) hi rfl (fun a' h' => k p e s m args below meth c C H locs a' hP hS (zkLv_st1 hl hi ho h'))
theorem m_astore_nv {n : Fin 4} {q : Nat} (hd : (iT i).lookup pc = some (.astore_n n, nx)) (hn : nx = pc + 1) (hi : (n : Nat) < iL i) (ho : zkSt ls (n : Nat) = true) (k : zkW l G i K cu su nx (ls.set (n : Nat) (some (vv (.ref q)))) st mem) : zkW l G i K cu su pc ls (vv (.ref q) :: st) mem := by
  intro p e s m args below meth c C H locs a hP hS hl
  subst hn
  exact lv_astore_n C.1 C.2.1 (zkC_dec C hd rfl) rfl (zkAs_has hl) hi rfl (fun a' h' => k p e s m args below meth c C H locs a' hP hS (zkLv_st1 hl hi ho h'))
theorem m_iinc {n : Nat} {x y : Int} (hd : (iT i).lookup pc = some (.iinc n y, nx)) (hn : nx = pc + 3) (hv : ls[n]? = some (some (vi x))) (hi : n < iL i) (ho : zkSt ls n = true) (k : zkW l G i K cu su nx (ls.set n (some (vi (x + y)))) st mem) : zkW l G i K cu su pc ls st mem := by
  intro p e s m args below meth c C H locs a hP hS hl
  subst hn
  obtain ⟨j, hj⟩ := List.getElem?_of_mem (zkAs_mem (G := G) hv)
  exact lv_iinc C.1 C.2.1 (zkC_dec C hd rfl) (zkAs_has hl) hj (Int32.ofInt_add x y).symm hi rfl (fun a' h' => k p e s m args below meth c C H locs a' hP hS (zkLv_st1 (v := vi (x + y)) hl hi ho h'))
theorem m_iadd {x y : Int} (hd : (iT i).lookup pc = some (.iadd, nx)) (hn : nx = pc + 1) (k : zkW l G i K cu su nx ls (vi (x + y) :: st) mem) : zkW l G i K cu su pc ls (vi y :: vi x :: st) mem := by
  intro p e s m args below meth c C H locs a hP hS hl
  subst hn
  have hq := k p e s m args below meth c C H locs a hP hS hl
  have e1 : tau G (vi (x + y)) = .int (Int32.ofInt x + Int32.ofInt y) := congrArg Value.int (Int32.ofInt_add x y)
  rw [List.map_cons, e1] at hq
  exact lv_iadd C.1 C.2.1 (zkC_dec C hd rfl) hq
theorem m_isub {x y : Int} (hd : (iT i).lookup pc = some (.isub, nx)) (hn : nx = pc + 1) (k : zkW l G i K cu su nx ls (vi (x - y) :: st) mem) : zkW l G i K cu su pc ls (vi y :: vi x :: st) mem := by
  intro p e s m args below meth c C H locs a hP hS hl
  subst hn
  have hq := k p e s m args below meth c C H locs a hP hS hl
  have e1 : tau G (vi (x - y)) = .int (Int32.ofInt x - Int32.ofInt y) := congrArg Value.int (Int32.ofInt_sub x y)
  rw [List.map_cons, e1] at hq
  exact lv_isub C.1 C.2.1 (zkC_dec C hd rfl) hq
theorem m_imul {x y : Int} (hd : (iT i).lookup pc = some (.imul, nx)) (hn : nx = pc + 1) (k : zkW l G i K cu su nx ls (vi (x * y) :: st) mem) : zkW l G i K cu su pc ls (vi y :: vi x :: st) mem := by
  intro p e s m args below meth c C H locs a hP hS hl
  subst hn
  have hq := k p e s m args below meth c C H locs a hP hS hl
  have e1 : tau G (vi (x * y)) = .int (Int32.ofInt x * Int32.ofInt y) := congrArg Value.int (Int32.ofInt_mul x y)
  rw [List.map_cons, e1] at hq
  exact lv_imul C.1 C.2.1 (zkC_dec C hd rfl) hq
theorem i32_div {x y : Int} (hx : inR x) (hy : inR y) (h0 : 0 ≤ x) (h1 : 0 < y) : Int32.ofInt x / Int32.ofInt y = Int32.ofInt (x / y) := by
  apply Int32.toInt_inj.mp
  have hy0 : Int32.ofInt y ≠ -1 := fun h => by
    have := congrArg Int32.toInt h
    rw [i32_toInt hy, show (-1 : Int32).toInt = -1 from by decide] at this
    omega
  rw [Int32.toInt_div_of_ne_right _ _ hy0, i32_toInt hx, i32_toInt hy, Int.tdiv_eq_ediv_of_nonneg h0, i32_toInt]
  have h2 : 0 ≤ x / y := Int.ediv_nonneg h0 (by omega)
  have h3 : x / y ≤ x := Int.ediv_le_self y h0
  unfold inR at *
  omega
theorem i32_ne0 {y : Int} (hy : inR y) (h1 : y ≠ 0) : ¬ Int32.ofInt y = 0 := fun h => by
  have := congrArg Int32.toInt h
  rw [i32_toInt hy, Int32.toInt_zero] at this
  exact h1 this
theorem m_idiv {x y : Int} (hd : (iT i).lookup pc = some (.idiv, nx)) (hn : nx = pc + 1) (hx : inR x) (hy : inR y) (h0 : 0 ≤ x) (h1 : 0 < y) (k : zkW l G i K cu su nx ls (vi (x / y) :: st) mem) : zkW l G i K cu su pc ls (vi y :: vi x :: st) mem := by
  intro p e s m args below meth c C H locs a hP hS hl
  subst hn
  have hq := k p e s m args below meth c C H locs a hP hS hl
  have e1 : tau G (vi (x / y)) = .int (Int32.ofInt x / Int32.ofInt y) := congrArg Value.int (i32_div hx hy h0 h1).symm
  rw [List.map_cons, e1] at hq
  exact lv_idiv C.1 C.2.1 (zkC_dec C hd rfl) (i32_ne0 hy (by omega)) hq
theorem m_irem {x y : Int} (hd : (iT i).lookup pc = some (.irem, nx)) (hn : nx = pc + 1) (hx : inR x) (hy : inR y) (h0 : 0 ≤ x) (h1 : 0 < y) (k : zkW l G i K cu su nx ls (vi (x % y) :: st) mem) : zkW l G i K cu su pc ls (vi y :: vi x :: st) mem := by
  intro p e s m args below meth c C H locs a hP hS hl
  subst hn
  have hq := k p e s m args below meth c C H locs a hP hS hl
  have e1 : tau G (vi (x % y)) = .int (Int32.ofInt x - Int32.ofInt x / Int32.ofInt y * Int32.ofInt y) := congrArg Value.int (by
    rw [i32_div hx hy h0 h1, ← Int32.ofInt_mul, ← Int32.ofInt_sub, Int.emod_def, Int.mul_comm])
  rw [List.map_cons, e1] at hq
  exact lv_irem C.1 C.2.1 (zkC_dec C hd rfl) (i32_ne0 hy (by omega)) hq
theorem m_i2l {x : Int} (hd : (iT i).lookup pc = some (.i2l, nx)) (hn : nx = pc + 1) (hx : inR x) (k : zkW l G i K cu su nx ls (vl x :: st) mem) : zkW l G i K cu su pc ls (vi x :: st) mem := by
  intro p e s m args below meth c C H locs a hP hS hl
  subst hn
  refine lv_i2l (v := Int64.ofInt x) C.1 C.2.1 (zkC_dec C hd rfl) ?_ (k p e s m args below meth c C H locs a hP hS hl)
  apply Int64.toInt_inj.mp
  unfold inR at hx
  rw [Int32.toInt_toInt64, i32_toInt hx, Int64.toInt_ofInt_of_le (by omega) (by omega)]
theorem m_i2d {x : Int} (hd : (iT i).lookup pc = some (.i2d, nx)) (hn : nx = pc + 1) (k : zkW l G i K cu su nx ls (vd (FP.i2d (Int32.ofInt x)) :: st) mem) : zkW l G i K cu su pc ls (vi x :: st) mem := by
  intro p e s m args below meth c C H locs a hP hS hl
  subst hn
  exact lv_i2d C.1 C.2.1 (zkC_dec C hd rfl) (k p e s m args below meth c C H locs a hP hS hl)
theorem m_i2f {x : Int} (hd : (iT i).lookup pc = some (.i2f, nx)) (hn : nx = pc + 1) (k : zkW l G i K cu su nx ls (vf (FP.i2f (Int32.ofInt x)) :: st) mem) : zkW l G i K cu su pc ls (vi x :: st) mem := by
  intro p e s m args below meth c C H locs a hP hS hl
  subst hn
  exact lv_i2f C.1 C.2.1 (zkC_dec C hd rfl) (k p e s m args below meth c C H locs a hP hS hl)
theorem m_dadd {x y : UInt64} (hd : (iT i).lookup pc = some (.dadd, nx)) (hn : nx = pc + 1) (hx : vf_n64 (FP.dadd x y)) (k : zkW l G i K cu su nx ls (vd (FP.dadd x y) :: st) mem) : zkW l G i K cu su pc ls (vd y :: vd x :: st) mem := by
  intro p e s m args below meth c C H locs a hP hS hl
  subst hn
  exact lv_dadd C.1 C.2.1 (zkC_dec C hd rfl) hx (k p e s m args below meth c C H locs a hP hS hl)
theorem m_dmul {x y : UInt64} (hd : (iT i).lookup pc = some (.dmul, nx)) (hn : nx = pc + 1) (hx : vf_n64 (FP.dmul x y)) (k : zkW l G i K cu su nx ls (vd (FP.dmul x y) :: st) mem) : zkW l G i K cu su pc ls (vd y :: vd x :: st) mem := by
  intro p e s m args below meth c C H locs a hP hS hl
  subst hn
  exact lv_dmul C.1 C.2.1 (zkC_dec C hd rfl) hx (k p e s m args below meth c C H locs a hP hS hl)
theorem m_ddiv {x y : UInt64} (hd : (iT i).lookup pc = some (.ddiv, nx)) (hn : nx = pc + 1) (hx : vf_n64 (FP.ddiv x y)) (k : zkW l G i K cu su nx ls (vd (FP.ddiv x y) :: st) mem) : zkW l G i K cu su pc ls (vd y :: vd x :: st) mem := by
  intro p e s m args below meth c C H locs a hP hS hl
  subst hn
  exact lv_ddiv C.1 C.2.1 (zkC_dec C hd rfl) hx (k p e s m args below meth c C H locs a hP hS hl)
theorem m_fdiv {x y : UInt32} (hd : (iT i).lookup pc = some (.fdiv, nx)) (hn : nx = pc + 1) (hx : vf_n32 (FP.fdiv x y)) (k : zkW l G i K cu su nx ls (vf (FP.fdiv x y) :: st) mem) : zkW l G i K cu su pc ls (vf y :: vf x :: st) mem := by
  intro p e s m args below meth c C H locs a hP hS hl
  subst hn
  exact lv_fdiv C.1 C.2.1 (zkC_dec C hd rfl) hx (k p e s m args below meth c C H locs a hP hS hl)
theorem m_f2d {x : UInt32} (hd : (iT i).lookup pc = some (.f2d, nx)) (hn : nx = pc + 1) (hx : vf_n64 (FP.f2d x)) (k : zkW l G i K cu su nx ls (vd (FP.f2d x) :: st) mem) : zkW l G i K cu su pc ls (vf x :: st) mem := by
  intro p e s m args below meth c C H locs a hP hS hl
  subst hn
  exact lv_f2d C.1 C.2.1 (zkC_dec C hd rfl) hx (k p e s m args below meth c C H locs a hP hS hl)
theorem m_dup {v : zkV} (hd : (iT i).lookup pc = some (.dup, nx)) (hn : nx = pc + 1) (hc : catV v = 1) (k : zkW l G i K cu su nx ls (v :: v :: st) mem) : zkW l G i K cu su pc ls (v :: st) mem := by
  intro p e s m args below meth c C H locs a hP hS hl
  subst hn
  exact lv_dup C.1 C.2.1 (zkC_dec C hd rfl) ((catV_eq G v).trans hc) (k p e s m args below meth c C H locs a hP hS hl)
theorem m_dup2 {v w : zkV} (hd : (iT i).lookup pc = some (.dup2, nx)) (hn : nx = pc + 1) (hc : catV v = 1) (hc2 : catV w = 1) (k : zkW l G i K cu su nx ls (v :: w :: v :: w :: st) mem) : zkW l G i K cu su pc ls (v :: w :: st) mem := by
  intro p e s m args below meth c C H locs a hP hS hl
  subst hn
  exact lv_dup2_11 C.1 C.2.1 (zkC_dec C hd rfl) ((catV_eq G v).trans hc) ((catV_eq G w).trans hc2) (k p e s m args below meth c C H locs a hP hS hl)
theorem m_pop {v : zkV} (hd : (iT i).lookup pc = some (.pop, nx)) (hn : nx = pc + 1) (hc : catV v = 1) (k : zkW l G i K cu su nx ls (st) mem) : zkW l G i K cu su pc ls (v :: st) mem := by
  intro p e s m args below meth c C H locs a hP hS hl
  subst hn
  exact lv_pop C.1 C.2.1 (zkC_dec C hd rfl) ((catV_eq G v).trans hc) (k p e s m args below meth c C H locs a hP hS hl)
theorem m_goto {off : Int} {tgt : Nat} (hd : (iT i).lookup pc = some (.goto off, nx)) (hn : nx = pc + 3) (ht : (pc : Int) + off = (tgt : Int)) (k : zkW l G i K cu su tgt ls st mem) : zkW l G i K cu su pc ls st mem := by
  intro p e s m args below meth c C H locs a hP hS hl
  subst hn
  exact lv_goto C.1 C.2.1 (zkC_dec C hd rfl) ht (k p e s m args below meth c C H locs a hP hS hl)
theorem m_icmp_ne {x y : Int} {off : Int} {tgt : Nat} (hd : (iT i).lookup pc = some (.if_icmp .ne off, nx)) (hn : nx = pc + 3) (ht : (pc : Int) + off = (tgt : Int)) (hx : inR x) (hy : inR y) (kt : x ≠ y → zkW l G i K cu su tgt ls st mem) (kf : x = y → zkW l G i K cu su nx ls st mem) : zkW l G i K cu su pc ls (vi y :: vi x :: st) mem := by
  intro p e s m args below meth c C H locs a hP hS hl
  subst hn
  exact lv_icmp_ne C.1 C.2.1 (zkC_dec C hd rfl) ht (fun h => kt (fun q => h (by rw [q])) p e s m args below meth c C H locs a hP hS hl) (fun h => kf ((i32_eq hx hy).mp h) p e s m args below meth c C H locs a hP hS hl)
theorem m_if_ne {x : Int} {off : Int} {tgt : Nat} (hd : (iT i).lookup pc = some (.ifCond .ne off, nx)) (hn : nx = pc + 3) (ht : (pc : Int) + off = (tgt : Int)) (hx : inR x) (kt : x ≠ 0 → zkW l G i K cu su tgt ls st mem) (kf : x = 0 → zkW l G i K cu su nx ls st mem) : zkW l G i K cu su pc ls (vi x :: st) mem := by
  intro p e s m args below meth c C H locs a hP hS hl
  subst hn
  exact lv_if_ne C.1 C.2.1 (zkC_dec C hd rfl) ht (fun h => kt (fun q => h (by rw [q, i32_0])) p e s m args below meth c C H locs a hP hS hl) (fun h => kf ((i32_eq hx inR_0).mp (by rw [← i32_0]; exact h)) p e s m args below meth c C H locs a hP hS hl)
theorem m_icmp_lt {x y : Int} {off : Int} {tgt : Nat} (hd : (iT i).lookup pc = some (.if_icmp .lt off, nx)) (hn : nx = pc + 3) (ht : (pc : Int) + off = (tgt : Int)) (hx : inR x) (hy : inR y) (kt : x < y → zkW l G i K cu su tgt ls st mem) (kf : ¬ (x < y) → zkW l G i K cu su nx ls st mem) : zkW l G i K cu su pc ls (vi y :: vi x :: st) mem := by
  intro p e s m args below meth c C H locs a hP hS hl
  subst hn
  exact lv_icmp_lt C.1 C.2.1 (zkC_dec C hd rfl) ht (fun h => kt (by first | exact (i32_lt hx hy).mp h | exact (fun q => h (by rw [q]))) p e s m args below meth c C H locs a hP hS hl) (fun h => kf (fun q => h (by first | exact (i32_lt hx hy).mpr q | exact (fun z => q ((i32_eq hx hy).mp z)))) p e s m args below meth c C H locs a hP hS hl)
theorem m_if_lt {x : Int} {off : Int} {tgt : Nat} (hd : (iT i).lookup pc = some (.ifCond .lt off, nx)) (hn : nx = pc + 3) (ht : (pc : Int) + off = (tgt : Int)) (hx : inR x) (kt : x < 0 → zkW l G i K cu su tgt ls st mem) (kf : ¬ (x < 0) → zkW l G i K cu su nx ls st mem) : zkW l G i K cu su pc ls (vi x :: st) mem := by
  intro p e s m args below meth c C H locs a hP hS hl
  subst hn
  exact lv_if_lt C.1 C.2.1 (zkC_dec C hd rfl) ht (fun h => kt (by rw [i32_0] at h; first | exact (i32_lt hx inR_0).mp h | exact (fun q => h (by rw [q]))) p e s m args below meth c C H locs a hP hS hl) (fun h => kf (fun q => h (by rw [i32_0]; first | exact (i32_lt hx inR_0).mpr q | exact (fun z => q ((i32_eq hx inR_0).mp z)))) p e s m args below meth c C H locs a hP hS hl)
theorem m_icmp_le {x y : Int} {off : Int} {tgt : Nat} (hd : (iT i).lookup pc = some (.if_icmp .le off, nx)) (hn : nx = pc + 3) (ht : (pc : Int) + off = (tgt : Int)) (hx : inR x) (hy : inR y) (kt : x ≤ y → zkW l G i K cu su tgt ls st mem) (kf : ¬ (x ≤ y) → zkW l G i K cu su nx ls st mem) : zkW l G i K cu su pc ls (vi y :: vi x :: st) mem := by
  intro p e s m args below meth c C H locs a hP hS hl
  subst hn
  exact lv_icmp_le C.1 C.2.1 (zkC_dec C hd rfl) ht (fun h => kt (by first | exact (i32_le hx hy).mp h | exact (fun q => h (by rw [q]))) p e s m args below meth c C H locs a hP hS hl) (fun h => kf (fun q => h (by first | exact (i32_le hx hy).mpr q | exact (fun z => q ((i32_eq hx hy).mp z)))) p e s m args below meth c C H locs a hP hS hl)
theorem m_if_le {x : Int} {off : Int} {tgt : Nat} (hd : (iT i).lookup pc = some (.ifCond .le off, nx)) (hn : nx = pc + 3) (ht : (pc : Int) + off = (tgt : Int)) (hx : inR x) (kt : x ≤ 0 → zkW l G i K cu su tgt ls st mem) (kf : ¬ (x ≤ 0) → zkW l G i K cu su nx ls st mem) : zkW l G i K cu su pc ls (vi x :: st) mem := by
  intro p e s m args below meth c C H locs a hP hS hl
  subst hn
  exact lv_if_le C.1 C.2.1 (zkC_dec C hd rfl) ht (fun h => kt (by rw [i32_0] at h; first | exact (i32_le hx inR_0).mp h | exact (fun q => h (by rw [q]))) p e s m args below meth c C H locs a hP hS hl) (fun h => kf (fun q => h (by rw [i32_0]; first | exact (i32_le hx inR_0).mpr q | exact (fun z => q ((i32_eq hx inR_0).mp z)))) p e s m args below meth c C H locs a hP hS hl)
theorem m_icmp_gt {x y : Int} {off : Int} {tgt : Nat} (hd : (iT i).lookup pc = some (.if_icmp .gt off, nx)) (hn : nx = pc + 3) (ht : (pc : Int) + off = (tgt : Int)) (hx : inR x) (hy : inR y) (kt : y < x → zkW l G i K cu su tgt ls st mem) (kf : ¬ (y < x) → zkW l G i K cu su nx ls st mem) : zkW l G i K cu su pc ls (vi y :: vi x :: st) mem := by
  intro p e s m args below meth c C H locs a hP hS hl
  subst hn
  exact lv_icmp_gt C.1 C.2.1 (zkC_dec C hd rfl) ht (fun h => kt (by first | exact (i32_lt hy hx).mp h | exact (fun q => h (by rw [q]))) p e s m args below meth c C H locs a hP hS hl) (fun h => kf (fun q => h (by first | exact (i32_lt hy hx).mpr q | exact (fun z => q ((i32_eq hx hy).mp z)))) p e s m args below meth c C H locs a hP hS hl)
theorem m_if_gt {x : Int} {off : Int} {tgt : Nat} (hd : (iT i).lookup pc = some (.ifCond .gt off, nx)) (hn : nx = pc + 3) (ht : (pc : Int) + off = (tgt : Int)) (hx : inR x) (kt : 0 < x → zkW l G i K cu su tgt ls st mem) (kf : ¬ (0 < x) → zkW l G i K cu su nx ls st mem) : zkW l G i K cu su pc ls (vi x :: st) mem := by
  intro p e s m args below meth c C H locs a hP hS hl
  subst hn
  exact lv_if_gt C.1 C.2.1 (zkC_dec C hd rfl) ht (fun h => kt (by rw [i32_0] at h; first | exact (i32_lt inR_0 hx).mp h | exact (fun q => h (by rw [q]))) p e s m args below meth c C H locs a hP hS hl) (fun h => kf (fun q => h (by rw [i32_0]; first | exact (i32_lt inR_0 hx).mpr q | exact (fun z => q ((i32_eq hx inR_0).mp z)))) p e s m args below meth c C H locs a hP hS hl)
theorem m_icmp_ge {x y : Int} {off : Int} {tgt : Nat} (hd : (iT i).lookup pc = some (.if_icmp .ge off, nx)) (hn : nx = pc + 3) (ht : (pc : Int) + off = (tgt : Int)) (hx : inR x) (hy : inR y) (kt : y ≤ x → zkW l G i K cu su tgt ls st mem) (kf : ¬ (y ≤ x) → zkW l G i K cu su nx ls st mem) : zkW l G i K cu su pc ls (vi y :: vi x :: st) mem := by
  intro p e s m args below meth c C H locs a hP hS hl
  subst hn
  exact lv_icmp_ge C.1 C.2.1 (zkC_dec C hd rfl) ht (fun h => kt (by first | exact (i32_le hy hx).mp h | exact (fun q => h (by rw [q]))) p e s m args below meth c C H locs a hP hS hl) (fun h => kf (fun q => h (by first | exact (i32_le hy hx).mpr q | exact (fun z => q ((i32_eq hx hy).mp z)))) p e s m args below meth c C H locs a hP hS hl)
theorem m_if_ge {x : Int} {off : Int} {tgt : Nat} (hd : (iT i).lookup pc = some (.ifCond .ge off, nx)) (hn : nx = pc + 3) (ht : (pc : Int) + off = (tgt : Int)) (hx : inR x) (kt : 0 ≤ x → zkW l G i K cu su tgt ls st mem) (kf : ¬ (0 ≤ x) → zkW l G i K cu su nx ls st mem) : zkW l G i K cu su pc ls (vi x :: st) mem := by
  intro p e s m args below meth c C H locs a hP hS hl
  subst hn
  exact lv_if_ge C.1 C.2.1 (zkC_dec C hd rfl) ht (fun h => kt (by rw [i32_0] at h; first | exact (i32_le inR_0 hx).mp h | exact (fun q => h (by rw [q]))) p e s m args below meth c C H locs a hP hS hl) (fun h => kf (fun q => h (by rw [i32_0]; first | exact (i32_le inR_0 hx).mpr q | exact (fun z => q ((i32_eq hx inR_0).mp z)))) p e s m args below meth c C H locs a hP hS hl)
theorem m_icmp_eq {x y : Int} {off : Int} {tgt : Nat} (hd : (iT i).lookup pc = some (.if_icmp .eq off, nx)) (hn : nx = pc + 3) (ht : (pc : Int) + off = (tgt : Int)) (hx : inR x) (hy : inR y) (kt : x = y → zkW l G i K cu su tgt ls st mem) (kf : ¬ (x = y) → zkW l G i K cu su nx ls st mem) : zkW l G i K cu su pc ls (vi y :: vi x :: st) mem := by
  intro p e s m args below meth c C H locs a hP hS hl
  subst hn
  exact lv_icmp_eq C.1 C.2.1 (zkC_dec C hd rfl) ht (fun h => kt (by first | exact (i32_eq hx hy).mp h | exact (fun q => h (by rw [q]))) p e s m args below meth c C H locs a hP hS hl) (fun h => kf (fun q => h (by first | exact (i32_eq hx hy).mpr q | exact (fun z => q ((i32_eq hx hy).mp z)))) p e s m args below meth c C H locs a hP hS hl)
theorem m_if_eq {x : Int} {off : Int} {tgt : Nat} (hd : (iT i).lookup pc = some (.ifCond .eq off, nx)) (hn : nx = pc + 3) (ht : (pc : Int) + off = (tgt : Int)) (hx : inR x) (kt : x = 0 → zkW l G i K cu su tgt ls st mem) (kf : ¬ (x = 0) → zkW l G i K cu su nx ls st mem) : zkW l G i K cu su pc ls (vi x :: st) mem := by
  intro p e s m args below meth c C H locs a hP hS hl
  subst hn
  exact lv_if_eq C.1 C.2.1 (zkC_dec C hd rfl) ht (fun h => kt (by rw [i32_0] at h; first | exact (i32_eq hx inR_0).mp h | exact (fun q => h (by rw [q]))) p e s m args below meth c C H locs a hP hS hl) (fun h => kf (fun q => h (by rw [i32_0]; first | exact (i32_eq hx inR_0).mpr q | exact (fun z => q ((i32_eq hx inR_0).mp z)))) p e s m args below meth c C H locs a hP hS hl)
/-- a truth value on the stack -/
def b2i (b : Bool) : Int := if b then 1 else 0
theorem inR_b (b : Bool) : inR (b2i b) := by cases b <;> exact ⟨by decide, by decide⟩
theorem m_if_eq_b {b : Bool} {off : Int} {tgt : Nat} (hd : (iT i).lookup pc = some (.ifCond .eq off, nx)) (hn : nx = pc + 3) (ht : (pc : Int) + off = (tgt : Int)) (kt : b = false → zkW l G i K cu su tgt ls st mem) (kf : b = true → zkW l G i K cu su nx ls st mem) : zkW l G i K cu su pc ls (vi (b2i b) :: st) mem :=
  m_if_eq hd hn ht (inR_b b) (fun h => kt (by cases b with | false => rfl | true => exact absurd h (by decide))) (fun h => kf (by cases b with | true => rfl | false => exact absurd rfl h))
theorem m_if_ne_b {b : Bool} {off : Int} {tgt : Nat} (hd : (iT i).lookup pc = some (.ifCond .ne off, nx)) (hn : nx = pc + 3) (ht : (pc : Int) + off = (tgt : Int)) (kt : b = true → zkW l G i K cu su tgt ls st mem) (kf : b = false → zkW l G i K cu su nx ls st mem) : zkW l G i K cu su pc ls (vi (b2i b) :: st) mem :=
  m_if_ne hd hn ht (inR_b b) (fun h => kt (by cases b with | true => rfl | false => exact absurd rfl h)) (fun h => kf (by cases b with | false => rfl | true => exact absurd h (by decide)))
theorem m_swIn {x dflt lo hi off : Int} {offs : Array Int} {tgt len : Nat} (hd : (iT i).lookup pc = some (.tableswitch dflt lo hi offs, nx)) (hn : nx = pc + len) (hx : inR x) (h1 : lo ≤ x) (h2 : x ≤ hi) (ho : offs[(x - lo).toNat]? = some off) (ht : (pc : Int) + off = (tgt : Int)) (k : zkW l G i K cu su tgt ls st mem) : zkW l G i K cu su pc ls (vi x :: st) mem := by
  intro p e s m args below meth c C H locs a hP hS hl
  subst hn
  exact lv_tableIn C.1 C.2.1 (zkC_dec C hd rfl) (by rw [i32_toInt hx]; omega) (by rw [i32_toInt hx]; omega) (by rw [i32_toInt hx]; exact ho) ht (k p e s m args below meth c C H locs a hP hS hl)
theorem m_swOut {x dflt lo hi : Int} {offs : Array Int} {tgt len : Nat} (hd : (iT i).lookup pc = some (.tableswitch dflt lo hi offs, nx)) (hn : nx = pc + len) (hx : inR x) (h : x < lo ∨ hi < x) (ht : (pc : Int) + dflt = (tgt : Int)) (k : zkW l G i K cu su tgt ls st mem) : zkW l G i K cu su pc ls (vi x :: st) mem := by
  intro p e s m args below meth c C H locs a hP hS hl
  subst hn
  exact lv_tableOut C.1 C.2.1 (zkC_dec C hd rfl) (by rw [i32_toInt hx]; exact h) ht (k p e s m args below meth c C H locs a hP hS hl)
end ZROWS
