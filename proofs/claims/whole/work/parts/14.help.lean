/-! calls of methods whose end is known; loops; memory -/
def zkRX (E : String) (f : zkM) : zkO → zkM → Prop := fun o m => o = Sum.inr E ∧ m = f
def zkRf (r : zkO) (f : zkM) : zkO → zkM → Prop := fun o m => o = r ∧ m = f
section ZHELP
variable {l : Launch} {G : zkG} {i ci : zkI} {K : zkK} {cu su pc nx : Nat} {ls : List (Option zkV)} {st : List zkV} {mem f : zkM}
theorem m_cs1 {idx d n : Nat} {ne : Bool} {as stk : List zkV} {v : zkV} (hd : (iT i).lookup pc = some (.invokestatic idx, nx)) (hn : nx = pc + 3) (hk : zkLk (iO i) idx ci true ne n) (hc : zkCt l G ci d 0 0 as mem (zkR1 v f)) (hst : stk = as.reverse ++ st) (ha : as.length = n) (hw : (st.map catV).sum ≤ 8) (hf : d + 1 ≤ K.1.frames) (hlo : 40 * d + 119 + iL ci ≤ K.1.locals) (h1 : cu ≤ K.1.cells) (h2 : su ≤ K.1.slots) (k : zkW l G i K cu su nx ls (v :: st) f) : zkW l G i K cu su pc ls stk mem :=
  m_callS hd hn hk hc hst ha hw hf hlo h1 h2 (fun _ _ h => by obtain ⟨e1, e2⟩ := h; cases e1; subst e2; exact k) (fun _ _ h => by obtain ⟨e1, -⟩ := h; cases e1)
theorem m_cs0 {idx d n : Nat} {ne : Bool} {as stk : List zkV} (hd : (iT i).lookup pc = some (.invokestatic idx, nx)) (hn : nx = pc + 3) (hk : zkLk (iO i) idx ci true ne n) (hc : zkCt l G ci d 0 0 as mem (zkR0 f)) (hst : stk = as.reverse ++ st) (ha : as.length = n) (hw : (st.map catV).sum ≤ 8) (hf : d + 1 ≤ K.1.frames) (hlo : 40 * d + 119 + iL ci ≤ K.1.locals) (h1 : cu ≤ K.1.cells) (h2 : su ≤ K.1.slots) (k : zkW l G i K cu su nx ls st f) : zkW l G i K cu su pc ls stk mem :=
  m_callS hd hn hk hc hst ha hw hf hlo h1 h2 (fun _ _ h => by obtain ⟨e1, e2⟩ := h; cases e1; subst e2; exact k) (fun _ _ h => by obtain ⟨e1, -⟩ := h; cases e1)
theorem m_cv1 {idx d n t j : Nat} {ne : Bool} {as stk : List zkV} {v : zkV} (hd : (iT i).lookup pc = some (.invokevirtual idx, nx)) (hn : nx = pc + 3) (hk : zkLk (iO i) idx ci false ne n) (hc : zkCt l G ci d 0 0 (vr t j :: as) mem (zkR1 v f)) (hst : stk = as.reverse ++ vr t j :: st) (hj : j < cnt t) (ht : t < 8) (ho : iO ci = t) (ha : as.length = n) (hw : (st.map catV).sum ≤ 8) (hf : d + 1 ≤ K.1.frames) (hlo : 40 * d + 119 + iL ci ≤ K.1.locals) (h1 : cu ≤ K.1.cells) (h2 : su ≤ K.1.slots) (k : zkW l G i K cu su nx ls (v :: st) f) : zkW l G i K cu su pc ls stk mem :=
  m_callV hd hn hk hc hst hj ht ho ha hw hf hlo h1 h2 (fun _ _ h => by obtain ⟨e1, e2⟩ := h; cases e1; subst e2; exact k) (fun _ _ h => by obtain ⟨e1, -⟩ := h; cases e1)
theorem m_cv0 {idx d n t j : Nat} {ne : Bool} {as stk : List zkV} (hd : (iT i).lookup pc = some (.invokevirtual idx, nx)) (hn : nx = pc + 3) (hk : zkLk (iO i) idx ci false ne n) (hc : zkCt l G ci d 0 0 (vr t j :: as) mem (zkR0 f)) (hst : stk = as.reverse ++ vr t j :: st) (hj : j < cnt t) (ht : t < 8) (ho : iO ci = t) (ha : as.length = n) (hw : (st.map catV).sum ≤ 8) (hf : d + 1 ≤ K.1.frames) (hlo : 40 * d + 119 + iL ci ≤ K.1.locals) (h1 : cu ≤ K.1.cells) (h2 : su ≤ K.1.slots) (k : zkW l G i K cu su nx ls st f) : zkW l G i K cu su pc ls stk mem :=
  m_callV hd hn hk hc hst hj ht ho ha hw hf hlo h1 h2 (fun _ _ h => by obtain ⟨e1, e2⟩ := h; cases e1; subst e2; exact k) (fun _ _ h => by obtain ⟨e1, -⟩ := h; cases e1)
/-- a callee that may throw, its end given by a value -/
theorem m_csf {idx d mc ms n : Nat} {ne : Bool} {as stk : List zkV} {r : zkO} (hd : (iT i).lookup pc = some (.invokestatic idx, nx)) (hn : nx = pc + 3) (hk : zkLk (iO i) idx ci true ne n) (hc : zkCt l G ci d mc ms as mem (zkRf r f)) (hst : stk = as.reverse ++ st) (ha : as.length = n) (hw : (st.map catV).sum ≤ 8) (hf : d + 1 ≤ K.1.frames) (hlo : 40 * d + 119 + iL ci ≤ K.1.locals) (h1 : cu + mc ≤ K.1.cells) (h2 : su + ms ≤ K.1.slots) (kr : ∀ v, r = Sum.inl v → zkW l G i K (cu + mc) (su + ms) nx ls (v.toList ++ st) f) (kx : ∀ E, r = Sum.inr E → zkX l G i K (cu + mc) (su + ms) pc ls E f) : zkW l G i K cu su pc ls stk mem :=
  m_callS hd hn hk hc hst ha hw hf hlo h1 h2 (fun v _ h => by obtain ⟨e1, e2⟩ := h; subst e2; exact kr v e1.symm) (fun E _ h => by obtain ⟨e1, e2⟩ := h; subst e2; exact kx E e1.symm)
theorem m_cvf {idx d mc ms n t j : Nat} {ne : Bool} {as stk : List zkV} {r : zkO} (hd : (iT i).lookup pc = some (.invokevirtual idx, nx)) (hn : nx = pc + 3) (hk : zkLk (iO i) idx ci false ne n) (hc : zkCt l G ci d mc ms (vr t j :: as) mem (zkRf r f)) (hst : stk = as.reverse ++ vr t j :: st) (hj : j < cnt t) (ht : t < 8) (ho : iO ci = t) (ha : as.length = n) (hw : (st.map catV).sum ≤ 8) (hf : d + 1 ≤ K.1.frames) (hlo : 40 * d + 119 + iL ci ≤ K.1.locals) (h1 : cu + mc ≤ K.1.cells) (h2 : su + ms ≤ K.1.slots) (kr : ∀ v, r = Sum.inl v → zkW l G i K (cu + mc) (su + ms) nx ls (v.toList ++ st) f) (kx : ∀ E, r = Sum.inr E → zkX l G i K (cu + mc) (su + ms) pc ls E f) : zkW l G i K cu su pc ls stk mem :=
  m_callV hd hn hk hc hst hj ht ho ha hw hf hlo h1 h2 (fun v _ h => by obtain ⟨e1, e2⟩ := h; subst e2; exact kr v e1.symm) (fun E _ h => by obtain ⟨e1, e2⟩ := h; subst e2; exact kx E e1.symm)
/-- a truth value is written -/
theorem m_pz1 {t j k idx : Nat} (hd : (iT i).lookup pc = some (.putfield idx, nx)) (hn : nx = pc + 3) (hi : idx < 1000) (hf : zkFl (iO i) idx = some (t, k)) (hr : rfo t j k = none) (hfin : (zkT t k).2.2.2 = false) (hty : zkty t k = .boolean) (hj : j < cnt t) (kk : zkW l G i K cu su nx ls st (mset mem t j k 1)) : zkW l G i K cu su pc ls (vi 1 :: vr t j :: st) mem := m_pz (b := true) hd hn hi hf hr hfin hty hj kk
theorem m_pz0 {t j k idx : Nat} (hd : (iT i).lookup pc = some (.putfield idx, nx)) (hn : nx = pc + 3) (hi : idx < 1000) (hf : zkFl (iO i) idx = some (t, k)) (hr : rfo t j k = none) (hfin : (zkT t k).2.2.2 = false) (hty : zkty t k = .boolean) (hj : j < cnt t) (kk : zkW l G i K cu su nx ls st (mset mem t j k 0)) : zkW l G i K cu su pc ls (vi 0 :: vr t j :: st) mem := m_pz (b := false) hd hn hi hf hr hfin hty hj kk
theorem m_pzx {t j k idx : Nat} {x : Int} (hd : (iT i).lookup pc = some (.putfield idx, nx)) (hn : nx = pc + 3) (hi : idx < 1000) (hf : zkFl (iO i) idx = some (t, k)) (hr : rfo t j k = none) (hfin : (zkT t k).2.2.2 = false) (hty : zkty t k = .boolean) (hj : j < cnt t) (hx : x = 0 ∨ x = 1) (kk : zkW l G i K cu su nx ls st (mset mem t j k x)) : zkW l G i K cu su pc ls (vi x :: vr t j :: st) mem := by
  rcases hx with rfl | rfl
  · exact m_pz0 hd hn hi hf hr hfin hty hj kk
  · exact m_pz1 hd hn hi hf hr hfin hty hj kk
end ZHELP
/-- n rounds of a loop -/
def lp {σ : Type} (f : Nat → σ → σ) : Nat → σ → σ
  | 0, s => s
  | n + 1, s => f n (lp f n s)
theorem zk_loop {σ : Type} (P : Nat → σ → Prop) (I : Nat → σ → Prop) (f : Nat → σ → σ) (n : Nat) (s0 : σ) (h0 : I 0 s0) (hI : ∀ j s, j < n → I j s → I (j + 1) (f j s)) (hs : ∀ j s, j < n → I j s → P (j + 1) (f j s) → P j s) (he : I n (lp f n s0) → P n (lp f n s0)) : P 0 s0 := by
  have hi : ∀ j, j ≤ n → I j (lp f j s0) := by
    intro j
    induction j with
    | zero => intro _; exact h0
    | succ j ih => intro hj; exact hI j _ (by omega) (ih (by omega))
  have key : ∀ k j, j + k = n → P j (lp f j s0) := by
    intro k
    induction k with
    | zero => intro j hj; rw [show j = n by omega]; exact he (hi n (Nat.le_refl n))
    | succ k ih => intro j hj; exact hs j _ (by omega) (hi j (by omega)) (ih (j + 1) (by omega))
  exact key n 0 (by omega)
/-- the invariant alone -/
theorem lp_inv {σ : Type} (I : Nat → σ → Prop) (f : Nat → σ → σ) (n : Nat) (s0 : σ) (h0 : I 0 s0) (hI : ∀ j s, j < n → I j s → I (j + 1) (f j s)) : I n (lp f n s0) := by
  have hi : ∀ j, j ≤ n → I j (lp f j s0) := by
    intro j
    induction j with
    | zero => intro _; exact h0
    | succ j ih => intro hj; exact hI j _ (by omega) (ih (by omega))
  exact hi n (Nat.le_refl n)
theorem ms_s (m : zkM) (t i k : Nat) (x : Int) : mset m t i k x t i k = x := by simp [mset]
theorem ms_t {t t' : Nat} (h : t' ≠ t) (m : zkM) (i k : Nat) (x : Int) (i' k' : Nat) : mset m t i k x t' i' k' = m t' i' k' := by simp [mset, h]
theorem ms_i {i i' : Nat} (h : i' ≠ i) (m : zkM) (t k : Nat) (x : Int) (t' k' : Nat) : mset m t i k x t' i' k' = m t' i' k' := by simp [mset, h]
theorem ms_k {k k' : Nat} (h : k' ≠ k) (m : zkM) (t i : Nat) (x : Int) (t' i' : Nat) : mset m t i k x t' i' k' = m t' i' k' := by simp [mset, h]
theorem mrow_s (m : zkM) (t i : Nat) (f : Nat → Int) (k : Nat) : mrow m t i f t i k = f k := by simp [mrow]
theorem mrow_t {t t' : Nat} (h : t' ≠ t) (m : zkM) (i : Nat) (f : Nat → Int) (i' k' : Nat) : mrow m t i f t' i' k' = m t' i' k' := by simp [mrow, h]
theorem mrow_i {i i' : Nat} (h : i' ≠ i) (m : zkM) (t : Nat) (f : Nat → Int) (t' k' : Nat) : mrow m t i f t' i' k' = m t' i' k' := by simp [mrow, h]
section ZNAT
variable {l : Launch} {G : zkG} {i : zkI} {K : zkK} {cu su pc nx : Nat} {ls : List (Option zkV)} {st : List zkV} {mem : zkM}
theorem m_ialn {t j n : Nat} {x : Int} (hd : (iT i).lookup pc = some (.iaload, nx)) (hn : nx = pc + 1) (h8 : 8 ≤ t) (hk : akd t = 0) (hj : j < cnt t) (hx : x = (n : Int)) (h1 : n < aln t) (kk : zkW l G i K cu su nx ls (vi (mem t j n) :: st) mem) : zkW l G i K cu su pc ls (vi x :: vr t j :: st) mem :=
  m_iald hd hn h8 hk hj (by omega) (by omega) (by rw [show x.toNat = n by omega]; exact kk)
theorem m_caln {t j n : Nat} {x : Int} (hd : (iT i).lookup pc = some (.caload, nx)) (hn : nx = pc + 1) (h8 : 8 ≤ t) (hk : akd t = 1) (hj : j < cnt t) (hx : x = (n : Int)) (h1 : n < aln t) (kk : zkW l G i K cu su nx ls (vi (mem t j n) :: st) mem) : zkW l G i K cu su pc ls (vi x :: vr t j :: st) mem :=
  m_cald hd hn h8 hk hj (by omega) (by omega) (by rw [show x.toNat = n by omega]; exact kk)
theorem m_iasn {t j n : Nat} {x y : Int} (hd : (iT i).lookup pc = some (.iastore, nx)) (hn : nx = pc + 1) (h8 : 8 ≤ t) (hk : akd t = 0) (hj : j < cnt t) (hx : x = (n : Int)) (h1 : n < aln t) (kk : zkW l G i K cu su nx ls st (mset mem t j n y)) : zkW l G i K cu su pc ls (vi y :: vi x :: vr t j :: st) mem :=
  m_iast hd hn h8 hk hj (by omega) (by omega) (by rw [show x.toNat = n by omega]; exact kk)
theorem m_casn {t j n : Nat} {x y : Int} (hd : (iT i).lookup pc = some (.castore, nx)) (hn : nx = pc + 1) (h8 : 8 ≤ t) (hk : akd t = 1) (hj : j < cnt t) (hx : x = (n : Int)) (h1 : n < aln t) (hy0 : 0 ≤ y) (hy1 : y < 65536) (kk : zkW l G i K cu su nx ls st (mset mem t j n y)) : zkW l G i K cu su pc ls (vi y :: vi x :: vr t j :: st) mem :=
  m_cast hd hn h8 hk hj (by omega) (by omega) hy0 hy1 (by rw [show x.toNat = n by omega]; exact kk)
theorem m_aaln {j n q : Nat} {x : Int} (hd : (iT i).lookup pc = some (.aaload, nx)) (hn : nx = pc + 1) (hj : j < 2) (hx : x = (n : Int)) (h1 : n < 5) (hq : q = 5 * j + n) (kk : zkW l G i K cu su nx ls (vr 5 q :: st) mem) : zkW l G i K cu su pc ls (vi x :: vr 10 j :: st) mem :=
  m_aald hd hn hj (by omega) (by omega) (by rw [show 5 * j + x.toNat = q by omega]; exact kk)
end ZNAT
section ZDEC
variable {l : Launch} {G : zkG} {i : zkI} {K : zkK} {cu su pc nx : Nat} {ls : List (Option zkV)} {st : List zkV} {mem : zkM}
theorem m_if_eq_d {p : Prop} [Decidable p] {off : Int} {tgt : Nat} (hd : (iT i).lookup pc = some (.ifCond .eq off, nx)) (hn : nx = pc + 3) (ht : (pc : Int) + off = (tgt : Int)) (kt : ¬ p → zkW l G i K cu su tgt ls st mem) (kf : p → zkW l G i K cu su nx ls st mem) : zkW l G i K cu su pc ls (vi (b2i (decide p)) :: st) mem :=
  m_if_eq_b hd hn ht (fun h => kt (of_decide_eq_false h)) (fun h => kf (of_decide_eq_true h))
theorem m_if_ne_d {p : Prop} [Decidable p] {off : Int} {tgt : Nat} (hd : (iT i).lookup pc = some (.ifCond .ne off, nx)) (hn : nx = pc + 3) (ht : (pc : Int) + off = (tgt : Int)) (kt : p → zkW l G i K cu su tgt ls st mem) (kf : ¬ p → zkW l G i K cu su nx ls st mem) : zkW l G i K cu su pc ls (vi (b2i (decide p)) :: st) mem :=
  m_if_ne_b hd hn ht (fun h => kt (of_decide_eq_true h)) (fun h => kf (of_decide_eq_false h))
end ZDEC
section ZX
variable {l : Launch} {G : zkG} {i : zkI} {K : zkK} {cu su pc nx : Nat} {ls : List (Option zkV)} {st : List zkV} {mem : zkM}
theorem m_gix {t j k idx : Nat} {x : Int} (hd : (iT i).lookup pc = some (.getfield idx, nx)) (hn : nx = pc + 3) (hi : idx < 1000) (hf : zkFl (iO i) idx = some (t, k)) (hr : rfo t j k = none) (hj : j < cnt t) (hx : mem t j k = x) (kk : zkW l G i K cu su nx ls (vi x :: st) mem) : zkW l G i K cu su pc ls (vr t j :: st) mem :=
  m_gi hd hn hi hf hr hj (by rw [hx]; exact kk)
theorem m_ialx {t j n : Nat} {x y : Int} (hd : (iT i).lookup pc = some (.iaload, nx)) (hn : nx = pc + 1) (h8 : 8 ≤ t) (hk : akd t = 0) (hj : j < cnt t) (hx : x = (n : Int)) (h1 : n < aln t) (hy : mem t j n = y) (kk : zkW l G i K cu su nx ls (vi y :: st) mem) : zkW l G i K cu su pc ls (vi x :: vr t j :: st) mem :=
  m_ialn hd hn h8 hk hj hx h1 (by rw [hy]; exact kk)
theorem m_calx {t j n : Nat} {x y : Int} (hd : (iT i).lookup pc = some (.caload, nx)) (hn : nx = pc + 1) (h8 : 8 ≤ t) (hk : akd t = 1) (hj : j < cnt t) (hx : x = (n : Int)) (h1 : n < aln t) (hy : mem t j n = y) (kk : zkW l G i K cu su nx ls (vi y :: st) mem) : zkW l G i K cu su pc ls (vi x :: vr t j :: st) mem :=
  m_caln hd hn h8 hk hj hx h1 (by rw [hy]; exact kk)
end ZX
