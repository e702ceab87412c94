/-! what a task's methods leave as it was -/
theorem ms_f {t i t' i' : Nat} (h : t' ≠ t ∨ i' ≠ i) (m : zkM) (k : Nat) (x : Int) (k' : Nat) : mset m t i k x t' i' k' = m t' i' k' := by
  rcases h with h | h
  · exact ms_t h _ _ _ _ _ _
  · exact ms_i h _ _ _ _ _ _
abbrev frT (n t' i' : Nat) : Prop := (t' ≠ 1 ∧ t' ≠ 5 ∧ t' ≠ 19 ∧ t' ≠ 20 ∧ t' ≠ 21 ∧ t' ≠ 22) ∨ i' ≠ n
theorem joAdd_f {n t' i' : Nat} (h : frT n t' i') (m : zkM) (k' : Nat) (x : Int) : joAdd m n x t' i' k' = m t' i' k' := by
  unfold joAdd
  split
  · rw [ms_f (by omega), ms_f (by omega)]
  · rfl
theorem joRmF_f {n t' i' : Nat} (h : frT n t' i') (m : zkM) (k' : Nat) : joRmF m n t' i' k' = m t' i' k' := by
  unfold joRmF
  split
  · rw [ms_f (by omega)]
  · rfl
theorem joRm_f {n t' i' : Nat} (h : frT n t' i') (m : zkM) (k' : Nat) (p : Int) : joRm m n p t' i' k' = m t' i' k' := by
  unfold joRm
  split
  · refine lp_inv (fun (_ : Nat) (s : zkM) => s t' i' k' = m t' i' k') _ _ _ (by rw [ms_f (by omega)]) (fun j s _ hI => ?_)
    unfold joRf
    rw [ms_f (by omega)]
    exact hI
  · rfl
theorem taSt_f {n t' i' : Nat} (h : frT n t' i') (m : zkM) (k' : Nat) : taSt m n t' i' k' = m t' i' k' := by
  unfold taSt
  refine lp_inv (fun (_ : Nat) (s : zkM) => s t' i' k' = m t' i' k') _ _ _ (by repeat (first | rw [ms_f (by omega)])) (fun j s _ hI => ?_)
  unfold taZ
  rw [ms_f (by omega)]
  exact hI
theorem taBg_f {n t' i' : Nat} (h : frT n t' i') (m : zkM) (k' : Nat) (p pe dl o : Int) : taBg m n p pe dl o t' i' k' = m t' i' k' := by
  unfold taBg
  rw [taSt_f h]
  repeat (first | rw [ms_f (by omega)])
theorem taAp_f {n t' i' : Nat} (h : frT n t' i') (m : zkM) (k' : Nat) (r le : Int) : taAp m n r le t' i' k' = m t' i' k' := by
  unfold taAp
  split
  · repeat (first | rw [ms_f (by omega)])
  · rfl
theorem taRl_f {n t' i' : Nat} (h : frT n t' i') (m : zkM) (k' : Nat) (t : Int) : taRl m n t t' i' k' = m t' i' k' := by
  unfold taRl
  split
  · rfl
  · split
    · rw [joAdd_f h, ms_f (by omega)]
    · repeat (first | rw [ms_f (by omega)])
theorem taRj_f {n t' i' : Nat} (h : frT n t' i') (m : zkM) (k' : Nat) (p : Int) : taRj m n p t' i' k' = m t' i' k' := by
  unfold taRj
  split
  · rw [ms_f (by omega), joRm_f h, ms_f (by omega), ms_f (by omega)]
  · rw [ms_f (by omega), joRm_f h]
theorem taMs_f {n t' i' : Nat} (h : frT n t' i') (m : zkM) (k' : Nat) (t po : Int) : taMs m n t po t' i' k' = m t' i' k' := by
  unfold taMs
  split
  · rfl
  · split
    · rw [taRj_f h, ms_f (by omega)]
    · split
      · rw [ms_f (by omega), ms_f (by omega)]
      · rw [ms_f (by omega)]
theorem taFj_f {n t' i' : Nat} (h : frT n t' i') (m : zkM) (k' : Nat) (x : Int) : taFj m n x t' i' k' = m t' i' k' := by
  unfold taFj
  rw [ms_f (by omega), ms_f (by omega), ms_f (by omega), ms_f (by omega), joRmF_f h]
theorem taR1_f {n t' i' : Nat} (h : frT n t' i') (m : zkM) (k' : Nat) : taR1 m n t' i' k' = m t' i' k' := by
  unfold taR1
  split
  · rw [ms_f (by omega), ms_f (by omega), ms_f (by omega)]
  · rw [ms_f (by omega)]
theorem taRu_f {n t' i' : Nat} (h : frT n t' i') (m : zkM) (k' : Nat) (e : Int) : (taRu m n e).2 t' i' k' = m t' i' k' := by
  unfold taRu
  split
  · rfl
  · split
    · exact taR1_f h m k'
    · dsimp only
      rw [taFj_f h, taR1_f h]
/-! the class: the bench's configuration -/
set_option maxRecDepth 10000 in
theorem c_beHas {l : Launch} {G : zkG} {mem : zkM} (hl : l.stackTraces = false) {x : Int} (h5 : 0 ≤ mem 0 0 5 ∧ mem 0 0 5 ≤ 5) (hx : inR x) : zkCt l G i_Be_hasTask 1 0 0 [vr 0 0, vi x] mem (zkR1 (vi (b2i (decide (0 ≤ x ∧ x ≤ mem 0 0 5 - 1)))) mem) := by
  refine zkCt_of hl ok_Be_hasTask (by decide +kernel) rfl rfl (List.forall_mem_cons.mpr ⟨rfl, (List.forall_mem_cons.mpr ⟨rfl, fun _ h => nomatch h⟩)⟩) (Nat.le_of_ble_eq_true rfl) ?_
  refine m_iload_n rfl rfl rfl ?_
  refine m_iconst rfl rfl ?_
  refine m_aload_n rfl rfl rfl ?_
  refine m_gix (k := 5) (x := mem 0 _ 5) rfl rfl (Nat.le_of_ble_eq_true rfl) rfl rfl (by first | decide | assumption | (simp only [cnt]; omega)) (by first | rfl | (repeat (first | rw [ms_s] | rw [ms_t (by decide)] | rw [ms_k (by decide)]))) ?_
  refine m_iconst rfl rfl ?_
  refine m_isub rfl rfl ?_
  refine m_cs1 rfl rfl lk_0_43 (c_isWithin hl (by omega) (by omega) (by omega)) rfl rfl (Nat.le_of_ble_eq_true rfl) (Nat.le_of_ble_eq_true rfl) (Nat.le_of_ble_eq_true rfl) (Nat.le_of_ble_eq_true rfl) (Nat.le_of_ble_eq_true rfl) ?_
  refine m_zret rfl rfl rfl (Nat.le_of_ble_eq_true rfl) (Nat.le_of_ble_eq_true rfl) ?_
  exact ⟨rfl, rfl⟩

def beS1 (i : Nat) (s : zkM) : zkM := taSt s i
def beS2 (m : zkM) : zkM := lp beS1 (m 0 0 5).toNat m
theorem beS2_f {t' i' : Nat} (h : t' ≠ 1 ∧ t' ≠ 5 ∧ t' ≠ 19 ∧ t' ≠ 20 ∧ t' ≠ 21 ∧ t' ≠ 22) (m : zkM) (k' : Nat) : beS2 m t' i' k' = m t' i' k' := by
  unfold beS2
  refine lp_inv (fun (_ : Nat) (s : zkM) => s t' i' k' = m t' i' k') _ _ _ rfl (fun j s _ hI => ?_)
  unfold beS1
  rw [taSt_f (Or.inl h)]
  exact hI
def beSt (m : zkM) : Int × zkM := (m 0 0 7, mset (rqSt (seSt (beS2 m))) 0 0 7 0)
set_option maxRecDepth 10000 in
theorem c_beStart {l : Launch} {G : zkG} {mem : zkM} (hl : l.stackTraces = false) (h5 : 0 ≤ mem 0 0 5 ∧ mem 0 0 5 ≤ 5) (h4 : 0 ≤ mem 3 0 4 ∧ mem 3 0 4 ≤ 12) : zkCt l G i_Be_startAgain 2 0 0 [vr 0 0] mem (zkR1 (vi (beSt mem).1) (beSt mem).2) := by
  refine zkCt_of hl ok_Be_startAgain (by decide +kernel) rfl rfl (List.forall_mem_cons.mpr ⟨rfl, fun _ h => nomatch h⟩) (Nat.le_of_ble_eq_true rfl) ?_
  refine m_aload_n rfl rfl rfl ?_
  refine m_gix (k := 7) (x := mem 0 _ 7) rfl rfl (Nat.le_of_ble_eq_true rfl) rfl rfl (by first | decide | assumption | (simp only [cnt]; omega)) (by first | rfl | (repeat (first | rw [ms_s] | rw [ms_t (by decide)] | rw [ms_k (by decide)]))) ?_
  refine m_istore_n rfl rfl (Nat.le_of_ble_eq_true rfl) rfl ?_
  refine m_iconst rfl rfl ?_
  refine m_istore_n rfl rfl (Nat.le_of_ble_eq_true rfl) rfl ?_
  refine zk_loop (P := fun (j : Nat) (s : zkM) => zkW l G i_Be_startAgain _ 0 0 7 [some (vr 0 0), some (vi (mem 0 0 7)), some (vi j)] [] s) (I := fun _ s => s 0 0 5 = mem 0 0 5) beS1 (mem 0 0 5).toNat mem rfl (fun j s _ hI => by unfold beS1; rw [taSt_f (by omega)]; exact hI) (fun j s hj hI hk => ?_) (fun hI => ?_)
  · refine m_iload_n rfl rfl rfl ?_
    refine m_aload_n rfl rfl rfl ?_
    refine m_gix (k := 5) (x := s 0 _ 5) rfl rfl (Nat.le_of_ble_eq_true rfl) rfl rfl (by first | decide | assumption | (simp only [cnt]; omega)) (by first | rfl | (repeat (first | rw [ms_s] | rw [ms_t (by decide)] | rw [ms_k (by decide)]))) ?_
    refine m_icmp_ge (tgt := 30) rfl rfl rfl (by omega) (by omega) (fun c12 => ?_) (fun c12 => ?_)
    · exfalso; omega
    · refine m_aload_n rfl rfl rfl ?_
      refine m_gr (k := 0) rfl rfl (Nat.le_of_ble_eq_true rfl) rfl rfl (by first | decide | assumption | (simp only [cnt]; omega)) ?_
      refine m_iload_n rfl rfl rfl ?_
      refine m_aaln (n := j) (q := j) rfl rfl (by decide) (by omega) (by omega) (by omega) ?_
      refine m_cv0 rfl rfl lk_0_64 (c_taStart (n := j) hl (by omega)) rfl (by first | decide | assumption | (simp only [cnt]; omega)) (Nat.le_of_ble_eq_true rfl) rfl rfl (Nat.le_of_ble_eq_true rfl) (Nat.le_of_ble_eq_true rfl) (Nat.le_of_ble_eq_true rfl) (Nat.le_of_ble_eq_true rfl) (Nat.le_of_ble_eq_true rfl) ?_
      refine m_iinc rfl rfl rfl (Nat.le_of_ble_eq_true rfl) rfl ?_
      refine m_goto (tgt := 7) rfl rfl rfl ?_
      exact hk
  · change zkW l G i_Be_startAgain _ 0 0 7 _ [] (beS2 mem)
    have e3 : beS2 mem 3 0 4 = mem 3 0 4 := beS2_f (by decide) _ _
    have e5 : beS2 mem 0 0 5 = mem 0 0 5 := beS2_f (by decide) _ _
    refine m_iload_n rfl rfl rfl ?_
    refine m_aload_n rfl rfl rfl ?_
    refine m_gix (k := 5) (x := (beS2 mem) 0 _ 5) rfl rfl (Nat.le_of_ble_eq_true rfl) rfl rfl (by first | decide | assumption | (simp only [cnt]; omega)) (by first | rfl | (repeat (first | rw [ms_s] | rw [ms_t (by decide)] | rw [ms_k (by decide)]))) ?_
    refine m_icmp_ge (tgt := 30) rfl rfl rfl (by omega) (by omega) (fun c12 => ?_) (fun c12 => ?_)
    · refine m_aload_n rfl rfl rfl ?_
      refine m_gr (k := 1) rfl rfl (Nat.le_of_ble_eq_true rfl) rfl rfl (by first | decide | assumption | (simp only [cnt]; omega)) ?_
      refine m_cv0 rfl rfl lk_0_66 (c_seStart hl) rfl (by first | decide | assumption | (simp only [cnt]; omega)) (Nat.le_of_ble_eq_true rfl) rfl rfl (Nat.le_of_ble_eq_true rfl) (Nat.le_of_ble_eq_true rfl) (Nat.le_of_ble_eq_true rfl) (Nat.le_of_ble_eq_true rfl) (Nat.le_of_ble_eq_true rfl) ?_
      refine m_aload_n rfl rfl rfl ?_
      refine m_gr (k := 2) rfl rfl (Nat.le_of_ble_eq_true rfl) rfl rfl (by first | decide | assumption | (simp only [cnt]; omega)) ?_
      refine m_cv0 rfl rfl lk_0_67 (c_rqStart hl (show 0 ≤ beS2 mem 3 0 4 ∧ beS2 mem 3 0 4 ≤ 12 by omega)) rfl (by first | decide | assumption | (simp only [cnt]; omega)) (Nat.le_of_ble_eq_true rfl) rfl rfl (Nat.le_of_ble_eq_true rfl) (Nat.le_of_ble_eq_true rfl) (Nat.le_of_ble_eq_true rfl) (Nat.le_of_ble_eq_true rfl) (Nat.le_of_ble_eq_true rfl) ?_
      refine m_aload_n rfl rfl rfl ?_
      refine m_iconst rfl rfl ?_
      refine m_pi (k := 7) rfl rfl (Nat.le_of_ble_eq_true rfl) rfl rfl rfl rfl (by first | decide | assumption | (simp only [cnt]; omega)) ?_
      refine m_iload_n rfl rfl rfl ?_
      refine m_iret rfl rfl rfl (Nat.le_of_ble_eq_true rfl) (Nat.le_of_ble_eq_true rfl) ?_
      exact ⟨rfl, rfl⟩
    · exfalso; omega

def beC0 (k : Nat) (s : zkM) : zkM := mset s 17 0 k 0
def beRm (m : zkM) : Int × zkM := (m 0 0 5, lp beC0 4 (mset (mset (mset (mset (beSt m).2 0 0 5 0) 4 0 3 0) 3 0 4 0) 0 0 6 0))
set_option maxRecDepth 10000 in
theorem c_beRm {l : Launch} {G : zkG} {mem : zkM} (hl : l.stackTraces = false) (h5 : 0 ≤ mem 0 0 5 ∧ mem 0 0 5 ≤ 5) (h4 : 0 ≤ mem 3 0 4 ∧ mem 3 0 4 ≤ 12) : zkCt l G i_Be_removeAll 3 0 0 [vr 0 0] mem (zkR1 (vi (beRm mem).1) (beRm mem).2) := by
  refine zkCt_of hl ok_Be_removeAll (by decide +kernel) rfl rfl (List.forall_mem_cons.mpr ⟨rfl, fun _ h => nomatch h⟩) (Nat.le_of_ble_eq_true rfl) ?_
  refine m_aload_n rfl rfl rfl ?_
  refine m_gix (k := 5) (x := mem 0 _ 5) rfl rfl (Nat.le_of_ble_eq_true rfl) rfl rfl (by first | decide | assumption | (simp only [cnt]; omega)) (by first | rfl | (repeat (first | rw [ms_s] | rw [ms_t (by decide)] | rw [ms_k (by decide)]))) ?_
  refine m_istore_n rfl rfl (Nat.le_of_ble_eq_true rfl) rfl ?_
  refine m_aload_n rfl rfl rfl ?_
  refine m_cv1 rfl rfl lk_0_47 (c_beStart hl h5 h4) rfl (by first | decide | assumption | (simp only [cnt]; omega)) (Nat.le_of_ble_eq_true rfl) rfl rfl (Nat.le_of_ble_eq_true rfl) (Nat.le_of_ble_eq_true rfl) (Nat.le_of_ble_eq_true rfl) (Nat.le_of_ble_eq_true rfl) (Nat.le_of_ble_eq_true rfl) ?_
  refine m_pop rfl rfl rfl ?_
  refine m_aload_n rfl rfl rfl ?_
  refine m_iconst rfl rfl ?_
  refine m_pi (k := 5) rfl rfl (Nat.le_of_ble_eq_true rfl) rfl rfl rfl rfl (by first | decide | assumption | (simp only [cnt]; omega)) ?_
  refine m_aload_n rfl rfl rfl ?_
  refine m_gr (k := 1) rfl rfl (Nat.le_of_ble_eq_true rfl) rfl rfl (by first | decide | assumption | (simp only [cnt]; omega)) ?_
  refine m_iconst rfl rfl ?_
  refine m_pz0 (k := 3) rfl rfl (Nat.le_of_ble_eq_true rfl) rfl rfl rfl rfl (by first | decide | assumption | (simp only [cnt]; omega)) ?_
  refine m_aload_n rfl rfl rfl ?_
  refine m_gr (k := 2) rfl rfl (Nat.le_of_ble_eq_true rfl) rfl rfl (by first | decide | assumption | (simp only [cnt]; omega)) ?_
  refine m_cv0 rfl rfl lk_0_55 (c_rqRemoveAll hl) rfl (by first | decide | assumption | (simp only [cnt]; omega)) (Nat.le_of_ble_eq_true rfl) rfl rfl (Nat.le_of_ble_eq_true rfl) (Nat.le_of_ble_eq_true rfl) (Nat.le_of_ble_eq_true rfl) (Nat.le_of_ble_eq_true rfl) (Nat.le_of_ble_eq_true rfl) ?_
  refine m_aload_n rfl rfl rfl ?_
  refine m_iconst rfl rfl ?_
  refine m_pi (k := 6) rfl rfl (Nat.le_of_ble_eq_true rfl) rfl rfl rfl rfl (by first | decide | assumption | (simp only [cnt]; omega)) ?_
  refine m_iconst rfl rfl ?_
  refine m_istore_n rfl rfl (Nat.le_of_ble_eq_true rfl) rfl ?_
  refine zk_loop (P := fun (j : Nat) (s : zkM) => zkW l G i_Be_removeAll _ 0 0 37 [some (vr 0 0), some (vi (mem 0 0 5)), some (vi j)] [] s) (I := fun _ _ => True) beC0 4 _ trivial (fun _ _ _ _ => trivial) (fun j s hj _ hk => ?_) (fun _ => ?_)
  · refine m_iload_n rfl rfl rfl ?_
    refine m_iconst rfl rfl ?_
    refine m_icmp_ge (tgt := 55) rfl rfl rfl (by omega) (by omega) (fun c39 => ?_) (fun c39 => ?_)
    · exfalso; omega
    · refine m_aload_n rfl rfl rfl ?_
      refine m_gr (k := 3) rfl rfl (Nat.le_of_ble_eq_true rfl) rfl rfl (by first | decide | assumption | (simp only [cnt]; omega)) ?_
      refine m_iload_n rfl rfl rfl ?_
      refine m_iconst rfl rfl ?_
      refine m_iasn (n := j) rfl rfl (Nat.le_of_ble_eq_true rfl) rfl (by first | decide | assumption | (simp only [cnt]; omega)) (by omega) (by simp only [aln]; omega) ?_
      refine m_iinc rfl rfl rfl (Nat.le_of_ble_eq_true rfl) rfl ?_
      refine m_goto (tgt := 37) rfl rfl rfl ?_
      exact hk
  · refine m_iload_n rfl rfl rfl ?_
    refine m_iconst rfl rfl ?_
    refine m_icmp_ge (tgt := 55) rfl rfl rfl (by omega) (by omega) (fun c39 => ?_) (fun c39 => ?_)
    · refine m_iload_n rfl rfl rfl ?_
      refine m_iret rfl rfl rfl (Nat.le_of_ble_eq_true rfl) (Nat.le_of_ble_eq_true rfl) ?_
      exact ⟨rfl, rfl⟩
    · exfalso; omega

def beTf (m : zkM) (p : Int) : Nat → Nat → Bool
  | 0, _ => false
  | r + 1, i => if m 5 i 4 = p then true else beTf m p r (i + 1)
theorem beTf_s (m : zkM) (p : Int) (r i : Nat) : beTf m p (r + 1) i = if m 5 i 4 = p then true else beTf m p r (i + 1) := rfl
def beTk (m : zkM) (p : Int) : Bool := beTf m p (m 0 0 5).toNat 0
set_option maxRecDepth 10000 in
theorem w_beTk {l : Launch} {G : zkG} {mem : zkM} {p : Int} (hl : l.stackTraces = false) (h5 : 0 ≤ mem 0 0 5 ∧ mem 0 0 5 ≤ 5) (hp : inR p) (hq : ∀ i, i < 5 → inR (mem 5 i 4)) : ∀ (r i : Nat), (i : Int) + r = mem 0 0 5 → beTk mem p = beTf mem p r i → zkW l G i_Be_isPriorityOfTask (zkKm G 0 0 0 (zkR1 (vi (b2i (beTk mem p))) mem)) 0 0 2 [some (vr 0 0), some (vi p), some (vi i)] [] mem := by
  intro r
  induction r with
  | zero =>
    intro i h1 h2
    refine m_iload_n rfl rfl rfl ?_
    refine m_aload_n rfl rfl rfl ?_
    refine m_gix (k := 5) (x := mem 0 _ 5) rfl rfl (Nat.le_of_ble_eq_true rfl) rfl rfl (by first | decide | assumption | (simp only [cnt]; omega)) (by first | rfl | (repeat (first | rw [ms_s] | rw [ms_t (by decide)] | rw [ms_k (by decide)]))) ?_
    refine m_icmp_ge (tgt := 31) rfl rfl rfl (by omega) (by omega) (fun c7 => ?_) (fun c7 => ?_)
    · refine m_iconst rfl rfl ?_
      refine m_z0 rfl rfl rfl (Nat.le_of_ble_eq_true rfl) (Nat.le_of_ble_eq_true rfl) ?_
      rw [h2]
      exact ⟨rfl, rfl⟩
    · exfalso; omega
  | succ r ih =>
    intro i h1 h2
    have a1 := hq i (by omega)
    rw [beTf_s mem p r i] at h2
    refine m_iload_n rfl rfl rfl ?_
    refine m_aload_n rfl rfl rfl ?_
    refine m_gix (k := 5) (x := mem 0 _ 5) rfl rfl (Nat.le_of_ble_eq_true rfl) rfl rfl (by first | decide | assumption | (simp only [cnt]; omega)) (by first | rfl | (repeat (first | rw [ms_s] | rw [ms_t (by decide)] | rw [ms_k (by decide)]))) ?_
    refine m_icmp_ge (tgt := 31) rfl rfl rfl (by omega) (by omega) (fun c7 => ?_) (fun c7 => ?_)
    · exfalso; omega
    · refine m_aload_n rfl rfl rfl ?_
      refine m_gr (k := 0) rfl rfl (Nat.le_of_ble_eq_true rfl) rfl rfl (by first | decide | assumption | (simp only [cnt]; omega)) ?_
      refine m_iload_n rfl rfl rfl ?_
      refine m_aaln (n := i) (q := i) rfl rfl (by decide) (by omega) (by omega) (by omega) ?_
      refine m_gix (k := 4) (x := mem 5 i 4) rfl rfl (Nat.le_of_ble_eq_true rfl) rfl rfl (by first | decide | assumption | (simp only [cnt]; omega)) (by first | rfl | (repeat (first | rw [ms_s] | rw [ms_t (by decide)] | rw [ms_k (by decide)]))) ?_
      refine m_iload_n rfl rfl rfl ?_
      refine m_icmp_ne (tgt := 25) rfl rfl rfl (by omega) (by omega) (fun c20 => ?_) (fun c20 => ?_)
      · refine m_iinc rfl rfl rfl (Nat.le_of_ble_eq_true rfl) rfl ?_
        refine m_goto (tgt := 2) rfl rfl rfl ?_
        rw [if_neg (by omega)] at h2
        exact ih (i + 1) (by omega) h2
      · refine m_iconst rfl rfl ?_
        refine m_z1 rfl rfl rfl (Nat.le_of_ble_eq_true rfl) (Nat.le_of_ble_eq_true rfl) ?_
        rw [if_pos (by omega)] at h2
        rw [h2]
        exact ⟨rfl, rfl⟩

set_option maxRecDepth 10000 in
theorem c_beTk {l : Launch} {G : zkG} {mem : zkM} (hl : l.stackTraces = false) {p : Int} (h5 : 0 ≤ mem 0 0 5 ∧ mem 0 0 5 ≤ 5) (hp : inR p) (hq : ∀ i, i < 5 → inR (mem 5 i 4)) : zkCt l G i_Be_isPriorityOfTask 0 0 0 [vr 0 0, vi p] mem (zkR1 (vi (b2i (beTk mem p))) mem) := by
  refine zkCt_of hl ok_Be_isPriorityOfTask (by decide +kernel) rfl rfl (List.forall_mem_cons.mpr ⟨rfl, (List.forall_mem_cons.mpr ⟨rfl, fun _ h => nomatch h⟩)⟩) (Nat.le_of_ble_eq_true rfl) ?_
  refine m_iconst rfl rfl ?_
  refine m_istore_n rfl rfl (Nat.le_of_ble_eq_true rfl) rfl ?_
  exact w_beTk hl h5 hp hq (mem 0 0 5).toNat 0 (by omega) rfl

def bePt (m : zkM) (p pe dl of : Int) : Int × zkM :=
  if ¬ ((1 ≤ p ∧ p ≤ 9) ∧ (1 ≤ pe ∧ pe ≤ 60) ∧ (1 ≤ dl ∧ dl ≤ pe) ∧ (0 ≤ of ∧ of ≤ 60)) then (-2, m)
  else if m 0 0 7 ≠ 0 ∨ 5 ≤ m 0 0 5 then (-3, m)
  else if b2i (beTk m p) = 1 ∨ (m 4 0 3 = 1 ∧ m 4 0 4 = p) then (-4, m)
  else (m 0 0 5 + 1 - 1, mset (taBg m (m 0 0 5).toNat p pe dl of) 0 0 5 (m 0 0 5 + 1))
set_option maxRecDepth 10000 in
theorem c_bePut {l : Launch} {G : zkG} {mem : zkM} (hl : l.stackTraces = false) {p pe dl of : Int} (h5 : 0 ≤ mem 0 0 5 ∧ mem 0 0 5 ≤ 5) (hp : inR p) (hpe : inR pe) (hdl : inR dl) (hof : inR of) (hq : ∀ i, i < 5 → inR (mem 5 i 4)) (h7 : inR (mem 0 0 7)) (h3 : mem 4 0 3 = 0 ∨ mem 4 0 3 = 1) (h44 : inR (mem 4 0 4)) : zkCt l G i_Be_putTask 3 0 0 [vr 0 0, vi p, vi pe, vi dl, vi of] mem (zkR1 (vi (bePt mem p pe dl of).1) (bePt mem p pe dl of).2) := by
  refine zkCt_of hl ok_Be_putTask (by decide +kernel) rfl rfl (List.forall_mem_cons.mpr ⟨rfl, (List.forall_mem_cons.mpr ⟨rfl, (List.forall_mem_cons.mpr ⟨rfl, (List.forall_mem_cons.mpr ⟨rfl, (List.forall_mem_cons.mpr ⟨rfl, fun _ h => nomatch h⟩)⟩)⟩)⟩)⟩) (Nat.le_of_ble_eq_true rfl) ?_
  have hb1 : b2i (beTk mem p) = 0 ∨ b2i (beTk mem p) = 1 := by cases beTk mem p <;> simp [b2i]
  refine m_iload_n rfl rfl rfl ?_
  refine m_iconst rfl rfl ?_
  refine m_bipush rfl rfl (by decide) ?_
  refine m_cs1 rfl rfl lk_0_43 (c_isWithin hl (by omega) (by omega) (by omega)) rfl rfl (Nat.le_of_ble_eq_true rfl) (Nat.le_of_ble_eq_true rfl) (Nat.le_of_ble_eq_true rfl) (Nat.le_of_ble_eq_true rfl) (Nat.le_of_ble_eq_true rfl) ?_
  refine m_if_eq_d (tgt := 40) rfl rfl rfl (fun c7 => ?_) (fun c7 => ?_)
  · refine m_bipush rfl rfl (by decide) ?_
    refine m_iret rfl rfl rfl (Nat.le_of_ble_eq_true rfl) (Nat.le_of_ble_eq_true rfl) ?_
    unfold bePt
    first | (rw [if_pos (by omega)]; exact ⟨rfl, rfl⟩) | (rw [if_neg (by omega), if_pos (by omega)]; exact ⟨rfl, rfl⟩) | (rw [if_neg (by omega), if_neg (by omega), if_pos (by omega)]; exact ⟨rfl, rfl⟩) | (rw [if_neg (by omega), if_neg (by omega), if_neg (by omega)]; exact ⟨rfl, rfl⟩)
  · refine m_iload_n rfl rfl rfl ?_
    refine m_iconst rfl rfl ?_
    refine m_bipush rfl rfl (by decide) ?_
    refine m_cs1 rfl rfl lk_0_43 (c_isWithin hl (by omega) (by omega) (by omega)) rfl rfl (Nat.le_of_ble_eq_true rfl) (Nat.le_of_ble_eq_true rfl) (Nat.le_of_ble_eq_true rfl) (Nat.le_of_ble_eq_true rfl) (Nat.le_of_ble_eq_true rfl) ?_
    refine m_if_eq_d (tgt := 40) rfl rfl rfl (fun c17 => ?_) (fun c17 => ?_)
    · refine m_bipush rfl rfl (by decide) ?_
      refine m_iret rfl rfl rfl (Nat.le_of_ble_eq_true rfl) (Nat.le_of_ble_eq_true rfl) ?_
      unfold bePt
      first | (rw [if_pos (by omega)]; exact ⟨rfl, rfl⟩) | (rw [if_neg (by omega), if_pos (by omega)]; exact ⟨rfl, rfl⟩) | (rw [if_neg (by omega), if_neg (by omega), if_pos (by omega)]; exact ⟨rfl, rfl⟩) | (rw [if_neg (by omega), if_neg (by omega), if_neg (by omega)]; exact ⟨rfl, rfl⟩)
    · refine m_iload_n rfl rfl rfl ?_
      refine m_iconst rfl rfl ?_
      refine m_iload_n rfl rfl rfl ?_
      refine m_cs1 rfl rfl lk_0_43 (c_isWithin hl (by omega) (by omega) (by omega)) rfl rfl (Nat.le_of_ble_eq_true rfl) (Nat.le_of_ble_eq_true rfl) (Nat.le_of_ble_eq_true rfl) (Nat.le_of_ble_eq_true rfl) (Nat.le_of_ble_eq_true rfl) ?_
      refine m_if_eq_d (tgt := 40) rfl rfl rfl (fun c26 => ?_) (fun c26 => ?_)
      · refine m_bipush rfl rfl (by decide) ?_
        refine m_iret rfl rfl rfl (Nat.le_of_ble_eq_true rfl) (Nat.le_of_ble_eq_true rfl) ?_
        unfold bePt
        first | (rw [if_pos (by omega)]; exact ⟨rfl, rfl⟩) | (rw [if_neg (by omega), if_pos (by omega)]; exact ⟨rfl, rfl⟩) | (rw [if_neg (by omega), if_neg (by omega), if_pos (by omega)]; exact ⟨rfl, rfl⟩) | (rw [if_neg (by omega), if_neg (by omega), if_neg (by omega)]; exact ⟨rfl, rfl⟩)
      · refine m_iload rfl rfl rfl ?_
        refine m_iconst rfl rfl ?_
        refine m_bipush rfl rfl (by decide) ?_
        refine m_cs1 rfl rfl lk_0_43 (c_isWithin hl (by omega) (by omega) (by omega)) rfl rfl (Nat.le_of_ble_eq_true rfl) (Nat.le_of_ble_eq_true rfl) (Nat.le_of_ble_eq_true rfl) (Nat.le_of_ble_eq_true rfl) (Nat.le_of_ble_eq_true rfl) ?_
        refine m_if_ne_d (tgt := 43) rfl rfl rfl (fun c37 => ?_) (fun c37 => ?_)
        · refine m_aload_n rfl rfl rfl ?_
          refine m_gix (k := 7) (x := mem 0 _ 7) rfl rfl (Nat.le_of_ble_eq_true rfl) rfl rfl (by first | decide | assumption | (simp only [cnt]; omega)) (by first | rfl | (repeat (first | rw [ms_s] | rw [ms_t (by decide)] | rw [ms_k (by decide)]))) ?_
          refine m_if_ne (tgt := 58) rfl rfl rfl (by omega) (fun c47 => ?_) (fun c47 => ?_)
          · refine m_bipush rfl rfl (by decide) ?_
            refine m_iret rfl rfl rfl (Nat.le_of_ble_eq_true rfl) (Nat.le_of_ble_eq_true rfl) ?_
            unfold bePt
            first | (rw [if_pos (by omega)]; exact ⟨rfl, rfl⟩) | (rw [if_neg (by omega), if_pos (by omega)]; exact ⟨rfl, rfl⟩) | (rw [if_neg (by omega), if_neg (by omega), if_pos (by omega)]; exact ⟨rfl, rfl⟩) | (rw [if_neg (by omega), if_neg (by omega), if_neg (by omega)]; exact ⟨rfl, rfl⟩)
          · refine m_aload_n rfl rfl rfl ?_
            refine m_gix (k := 5) (x := mem 0 _ 5) rfl rfl (Nat.le_of_ble_eq_true rfl) rfl rfl (by first | decide | assumption | (simp only [cnt]; omega)) (by first | rfl | (repeat (first | rw [ms_s] | rw [ms_t (by decide)] | rw [ms_k (by decide)]))) ?_
            refine m_iconst rfl rfl ?_
            refine m_icmp_lt (tgt := 61) rfl rfl rfl (by omega) (by omega) (fun c55 => ?_) (fun c55 => ?_)
            · refine m_aload_n rfl rfl rfl ?_
              refine m_iload_n rfl rfl rfl ?_
              refine m_cv1 rfl rfl lk_0_68 (c_beTk hl h5 (by omega) hq) rfl (by first | decide | assumption | (simp only [cnt]; omega)) (Nat.le_of_ble_eq_true rfl) rfl rfl (Nat.le_of_ble_eq_true rfl) (Nat.le_of_ble_eq_true rfl) (Nat.le_of_ble_eq_true rfl) (Nat.le_of_ble_eq_true rfl) (Nat.le_of_ble_eq_true rfl) ?_
              refine m_if_ne (tgt := 80) rfl rfl rfl (by omega) (fun c66 => ?_) (fun c66 => ?_)
              · refine m_bipush rfl rfl (by decide) ?_
                refine m_iret rfl rfl rfl (Nat.le_of_ble_eq_true rfl) (Nat.le_of_ble_eq_true rfl) ?_
                unfold bePt
                first | (rw [if_pos (by omega)]; exact ⟨rfl, rfl⟩) | (rw [if_neg (by omega), if_pos (by omega)]; exact ⟨rfl, rfl⟩) | (rw [if_neg (by omega), if_neg (by omega), if_pos (by omega)]; exact ⟨rfl, rfl⟩) | (rw [if_neg (by omega), if_neg (by omega), if_neg (by omega)]; exact ⟨rfl, rfl⟩)
              · refine m_aload_n rfl rfl rfl ?_
                refine m_gr (k := 1) rfl rfl (Nat.le_of_ble_eq_true rfl) rfl rfl (by first | decide | assumption | (simp only [cnt]; omega)) ?_
                refine m_iload_n rfl rfl rfl ?_
                refine m_cv1 rfl rfl lk_0_72 (show zkCt l G i_Se_hasPriority _ 0 0 _ _ (zkR1 (vi (b2i (decide (mem 4 0 3 = 1 ∧ mem 4 0 4 = p)))) _) from c_seHas hl h3 (by omega) h44) rfl (by first | decide | assumption | (simp only [cnt]; omega)) (Nat.le_of_ble_eq_true rfl) rfl rfl (Nat.le_of_ble_eq_true rfl) (Nat.le_of_ble_eq_true rfl) (Nat.le_of_ble_eq_true rfl) (Nat.le_of_ble_eq_true rfl) (Nat.le_of_ble_eq_true rfl) ?_
                refine m_if_eq_d (tgt := 83) rfl rfl rfl (fun c77 => ?_) (fun c77 => ?_)
                · refine m_aload_n rfl rfl rfl ?_
                  refine m_gr (k := 0) rfl rfl (Nat.le_of_ble_eq_true rfl) rfl rfl (by first | decide | assumption | (simp only [cnt]; omega)) ?_
                  refine m_aload_n rfl rfl rfl ?_
                  refine m_gix (k := 5) (x := mem 0 _ 5) rfl rfl (Nat.le_of_ble_eq_true rfl) rfl rfl (by first | decide | assumption | (simp only [cnt]; omega)) (by first | rfl | (repeat (first | rw [ms_s] | rw [ms_t (by decide)] | rw [ms_k (by decide)]))) ?_
                  refine m_aaln (n := (mem 0 0 5).toNat) (q := (mem 0 0 5).toNat) rfl rfl (by decide) (by omega) (by omega) (by omega) ?_
                  refine m_iload_n rfl rfl rfl ?_
                  refine m_iload_n rfl rfl rfl ?_
                  refine m_iload_n rfl rfl rfl ?_
                  refine m_iload rfl rfl rfl ?_
                  refine m_cv0 rfl rfl lk_0_75 (c_taBegin (n := (mem 0 0 5).toNat) hl (by omega)) rfl (by first | decide | assumption | (simp only [cnt]; omega)) (Nat.le_of_ble_eq_true rfl) rfl rfl (Nat.le_of_ble_eq_true rfl) (Nat.le_of_ble_eq_true rfl) (Nat.le_of_ble_eq_true rfl) (Nat.le_of_ble_eq_true rfl) (Nat.le_of_ble_eq_true rfl) ?_
                  have e5 : (taBg mem (mem 0 0 5).toNat p pe dl of) 0 0 5 = mem 0 0 5 := taBg_f (by omega) _ _ _ _ _ _
                  refine m_aload_n rfl rfl rfl ?_
                  refine m_dup rfl rfl rfl ?_
                  refine m_gix (k := 5) (x := mem 0 0 5) rfl rfl (Nat.le_of_ble_eq_true rfl) rfl rfl (by decide) e5 ?_
                  refine m_iconst rfl rfl ?_
                  refine m_iadd rfl rfl ?_
                  refine m_pi (k := 5) rfl rfl (Nat.le_of_ble_eq_true rfl) rfl rfl rfl rfl (by first | decide | assumption | (simp only [cnt]; omega)) ?_
                  refine m_aload_n rfl rfl rfl ?_
                  refine m_gix (k := 5) (x := mem 0 0 5 + 1) rfl rfl (Nat.le_of_ble_eq_true rfl) rfl rfl (by decide) (by rw [ms_s]) ?_
                  refine m_iconst rfl rfl ?_
                  refine m_isub rfl rfl ?_
                  refine m_iret rfl rfl rfl (Nat.le_of_ble_eq_true rfl) (Nat.le_of_ble_eq_true rfl) ?_
                  unfold bePt
                  first | (rw [if_pos (by omega)]; exact ⟨rfl, rfl⟩) | (rw [if_neg (by omega), if_pos (by omega)]; exact ⟨rfl, rfl⟩) | (rw [if_neg (by omega), if_neg (by omega), if_pos (by omega)]; exact ⟨rfl, rfl⟩) | (rw [if_neg (by omega), if_neg (by omega), if_neg (by omega)]; exact ⟨rfl, rfl⟩)
                · refine m_bipush rfl rfl (by decide) ?_
                  refine m_iret rfl rfl rfl (Nat.le_of_ble_eq_true rfl) (Nat.le_of_ble_eq_true rfl) ?_
                  unfold bePt
                  first | (rw [if_pos (by omega)]; exact ⟨rfl, rfl⟩) | (rw [if_neg (by omega), if_pos (by omega)]; exact ⟨rfl, rfl⟩) | (rw [if_neg (by omega), if_neg (by omega), if_pos (by omega)]; exact ⟨rfl, rfl⟩) | (rw [if_neg (by omega), if_neg (by omega), if_neg (by omega)]; exact ⟨rfl, rfl⟩)
            · refine m_bipush rfl rfl (by decide) ?_
              refine m_iret rfl rfl rfl (Nat.le_of_ble_eq_true rfl) (Nat.le_of_ble_eq_true rfl) ?_
              unfold bePt
              first | (rw [if_pos (by omega)]; exact ⟨rfl, rfl⟩) | (rw [if_neg (by omega), if_pos (by omega)]; exact ⟨rfl, rfl⟩) | (rw [if_neg (by omega), if_neg (by omega), if_pos (by omega)]; exact ⟨rfl, rfl⟩) | (rw [if_neg (by omega), if_neg (by omega), if_neg (by omega)]; exact ⟨rfl, rfl⟩)
        · refine m_bipush rfl rfl (by decide) ?_
          refine m_iret rfl rfl rfl (Nat.le_of_ble_eq_true rfl) (Nat.le_of_ble_eq_true rfl) ?_
          unfold bePt
          first | (rw [if_pos (by omega)]; exact ⟨rfl, rfl⟩) | (rw [if_neg (by omega), if_pos (by omega)]; exact ⟨rfl, rfl⟩) | (rw [if_neg (by omega), if_neg (by omega), if_pos (by omega)]; exact ⟨rfl, rfl⟩) | (rw [if_neg (by omega), if_neg (by omega), if_neg (by omega)]; exact ⟨rfl, rfl⟩)

def bePg (m : zkM) (x r le : Int) : Int × zkM :=
  if ¬ (0 ≤ x ∧ x ≤ m 0 0 5 - 1) then (-1, m)
  else if ¬ ((-1 ≤ r ∧ r ≤ 3) ∧ (1 ≤ le ∧ le ≤ 9)) then (-2, m)
  else if m 0 0 7 ≠ 0 ∨ 6 ≤ m 5 x.toNat 8 then (-3, m)
  else if r = -1 then (m 5 x.toNat 8 + 1, taAp m x.toNat r le)
  else (m 5 x.toNat 8 + 1, mset (taAp m x.toNat r le) 17 0 r.toNat (max (m 17 0 r.toNat) (m 5 x.toNat 4)))
theorem taAp_8 {m : zkM} {n : Nat} {r le : Int} (h : m 5 n 8 < 6) : taAp m n r le 5 n 8 = m 5 n 8 + 1 ∧ taAp m n r le 5 n 4 = m 5 n 4 := by
  unfold taAp
  rw [if_pos h]
  exact ⟨by rw [ms_k (by decide), ms_s], by rw [ms_k (by decide), ms_k (by decide)]; rfl⟩
set_option maxRecDepth 10000 in
theorem c_bePutS {l : Launch} {G : zkG} {mem : zkM} (hl : l.stackTraces = false) {x r le : Int} (h5 : 0 ≤ mem 0 0 5 ∧ mem 0 0 5 ≤ 5) (hx : inR x) (hr : inR r) (hle : inR le) (h7 : inR (mem 0 0 7)) (h8 : ∀ i, i < 5 → 0 ≤ mem 5 i 8 ∧ mem 5 i 8 ≤ 6) (h17 : ∀ k, k < 4 → inR (mem 17 0 k)) (hq : ∀ i, i < 5 → inR (mem 5 i 4)) : zkCt l G i_Be_putSegment 2 0 0 [vr 0 0, vi x, vi r, vi le] mem (zkR1 (vi (bePg mem x r le).1) (bePg mem x r le).2) := by
  refine zkCt_of hl ok_Be_putSegment (by decide +kernel) rfl rfl (List.forall_mem_cons.mpr ⟨rfl, (List.forall_mem_cons.mpr ⟨rfl, (List.forall_mem_cons.mpr ⟨rfl, (List.forall_mem_cons.mpr ⟨rfl, fun _ h => nomatch h⟩)⟩)⟩)⟩) (Nat.le_of_ble_eq_true rfl) ?_
  refine m_aload_n rfl rfl rfl ?_
  refine m_iload_n rfl rfl rfl ?_
  refine m_cv1 rfl rfl lk_0_82 (c_beHas hl h5 hx) rfl (by first | decide | assumption | (simp only [cnt]; omega)) (Nat.le_of_ble_eq_true rfl) rfl rfl (Nat.le_of_ble_eq_true rfl) (Nat.le_of_ble_eq_true rfl) (Nat.le_of_ble_eq_true rfl) (Nat.le_of_ble_eq_true rfl) (Nat.le_of_ble_eq_true rfl) ?_
  refine m_if_ne_d (tgt := 10) rfl rfl rfl (fun c5 => ?_) (fun c5 => ?_)
  · have a8 := h8 x.toNat (by omega)
    have a4 := hq x.toNat (by omega)
    refine m_iload_n rfl rfl rfl ?_
    refine m_iconst rfl rfl ?_
    refine m_iconst rfl rfl ?_
    refine m_cs1 rfl rfl lk_0_43 (c_isWithin hl (by omega) (by omega) (by omega)) rfl rfl (Nat.le_of_ble_eq_true rfl) (Nat.le_of_ble_eq_true rfl) (Nat.le_of_ble_eq_true rfl) (Nat.le_of_ble_eq_true rfl) (Nat.le_of_ble_eq_true rfl) ?_
    refine m_if_eq_d (tgt := 29) rfl rfl rfl (fun c16 => ?_) (fun c16 => ?_)
    · refine m_bipush rfl rfl (by decide) ?_
      refine m_iret rfl rfl rfl (Nat.le_of_ble_eq_true rfl) (Nat.le_of_ble_eq_true rfl) ?_
      unfold bePg
      first | (rw [if_pos (by omega)]; exact ⟨rfl, rfl⟩) | (rw [if_neg (by omega), if_pos (by omega)]; exact ⟨rfl, rfl⟩) | (rw [if_neg (by omega), if_neg (by omega), if_pos (by omega)]; exact ⟨rfl, rfl⟩) | (rw [if_neg (by omega), if_neg (by omega), if_neg (by omega), if_pos (by omega)]; exact ⟨rfl, rfl⟩) | (rw [if_neg (by omega), if_neg (by omega), if_neg (by omega), if_neg (by omega)]; exact ⟨rfl, rfl⟩)
    · refine m_iload_n rfl rfl rfl ?_
      refine m_iconst rfl rfl ?_
      refine m_bipush rfl rfl (by decide) ?_
      refine m_cs1 rfl rfl lk_0_43 (c_isWithin hl (by omega) (by omega) (by omega)) rfl rfl (Nat.le_of_ble_eq_true rfl) (Nat.le_of_ble_eq_true rfl) (Nat.le_of_ble_eq_true rfl) (Nat.le_of_ble_eq_true rfl) (Nat.le_of_ble_eq_true rfl) ?_
      refine m_if_ne_d (tgt := 32) rfl rfl rfl (fun c26 => ?_) (fun c26 => ?_)
      · refine m_aload_n rfl rfl rfl ?_
        refine m_gr (k := 0) rfl rfl (Nat.le_of_ble_eq_true rfl) rfl rfl (by first | decide | assumption | (simp only [cnt]; omega)) ?_
        refine m_iload_n rfl rfl rfl ?_
        refine m_aaln (n := x.toNat) (q := x.toNat) rfl rfl (by decide) (by omega) (by omega) (by omega) ?_
        refine m_astore rfl rfl (Nat.le_of_ble_eq_true rfl) rfl ?_
        refine m_aload_n rfl rfl rfl ?_
        refine m_gix (k := 7) (x := mem 0 _ 7) rfl rfl (Nat.le_of_ble_eq_true rfl) rfl rfl (by first | decide | assumption | (simp only [cnt]; omega)) (by first | rfl | (repeat (first | rw [ms_s] | rw [ms_t (by decide)] | rw [ms_k (by decide)]))) ?_
        refine m_if_ne (tgt := 57) rfl rfl rfl (by omega) (fun c44 => ?_) (fun c44 => ?_)
        · refine m_bipush rfl rfl (by decide) ?_
          refine m_iret rfl rfl rfl (Nat.le_of_ble_eq_true rfl) (Nat.le_of_ble_eq_true rfl) ?_
          unfold bePg
          first | (rw [if_pos (by omega)]; exact ⟨rfl, rfl⟩) | (rw [if_neg (by omega), if_pos (by omega)]; exact ⟨rfl, rfl⟩) | (rw [if_neg (by omega), if_neg (by omega), if_pos (by omega)]; exact ⟨rfl, rfl⟩) | (rw [if_neg (by omega), if_neg (by omega), if_neg (by omega), if_pos (by omega)]; exact ⟨rfl, rfl⟩) | (rw [if_neg (by omega), if_neg (by omega), if_neg (by omega), if_neg (by omega)]; exact ⟨rfl, rfl⟩)
        · refine m_aload rfl rfl rfl ?_
          refine m_gix (k := 8) (x := mem 5 x.toNat 8) rfl rfl (Nat.le_of_ble_eq_true rfl) rfl rfl (by first | decide | assumption | (simp only [cnt]; omega)) (by first | rfl | (repeat (first | rw [ms_s] | rw [ms_t (by decide)] | rw [ms_k (by decide)]))) ?_
          refine m_bipush rfl rfl (by decide) ?_
          refine m_icmp_lt (tgt := 60) rfl rfl rfl (by omega) (by omega) (fun c54 => ?_) (fun c54 => ?_)
          · refine m_aload rfl rfl rfl ?_
            refine m_iload_n rfl rfl rfl ?_
            refine m_iload_n rfl rfl rfl ?_
            refine m_cv0 rfl rfl lk_0_88 (c_taAdd (n := x.toNat) hl (by omega) a8) rfl (by first | decide | assumption | (simp only [cnt]; omega)) (Nat.le_of_ble_eq_true rfl) rfl rfl (Nat.le_of_ble_eq_true rfl) (Nat.le_of_ble_eq_true rfl) (Nat.le_of_ble_eq_true rfl) (Nat.le_of_ble_eq_true rfl) (Nat.le_of_ble_eq_true rfl) ?_
            have e8 := taAp_8 (m := mem) (n := x.toNat) (r := r) (le := le) (by omega)
            have e17 : ∀ k, (taAp mem x.toNat r le) 17 0 k = mem 17 0 k := fun k => taAp_f (by omega) _ _ _ _
            refine m_iload_n rfl rfl rfl ?_
            refine m_iconst rfl rfl ?_
            refine m_icmp_eq (tgt := 92) rfl rfl rfl (by omega) (by omega) (fun c69 => ?_) (fun c69 => ?_)
            · refine m_aload rfl rfl rfl ?_
              refine m_gix (k := 8) (x := mem 5 x.toNat 8 + 1) rfl rfl (Nat.le_of_ble_eq_true rfl) rfl rfl (by simp only [cnt]; omega) (by first | exact e8.1 | (rw [ms_t (by decide)]; exact e8.1)) ?_
              refine m_iret rfl rfl rfl (Nat.le_of_ble_eq_true rfl) (Nat.le_of_ble_eq_true rfl) ?_
              unfold bePg
              first | (rw [if_pos (by omega)]; exact ⟨rfl, rfl⟩) | (rw [if_neg (by omega), if_pos (by omega)]; exact ⟨rfl, rfl⟩) | (rw [if_neg (by omega), if_neg (by omega), if_pos (by omega)]; exact ⟨rfl, rfl⟩) | (rw [if_neg (by omega), if_neg (by omega), if_neg (by omega), if_pos (by omega)]; exact ⟨rfl, rfl⟩) | (rw [if_neg (by omega), if_neg (by omega), if_neg (by omega), if_neg (by omega)]; exact ⟨rfl, rfl⟩)
            · refine m_aload_n rfl rfl rfl ?_
              refine m_gr (k := 3) rfl rfl (Nat.le_of_ble_eq_true rfl) rfl rfl (by first | decide | assumption | (simp only [cnt]; omega)) ?_
              refine m_iload_n rfl rfl rfl ?_
              refine m_aload_n rfl rfl rfl ?_
              refine m_gr (k := 3) rfl rfl (Nat.le_of_ble_eq_true rfl) rfl rfl (by first | decide | assumption | (simp only [cnt]; omega)) ?_
              refine m_iload_n rfl rfl rfl ?_
              have a17 := h17 r.toNat (by omega)
              refine m_ialx (n := r.toNat) (y := mem 17 0 r.toNat) rfl rfl (Nat.le_of_ble_eq_true rfl) rfl (by decide) (by omega) (by simp only [aln]; omega) (e17 _) ?_
              refine m_aload rfl rfl rfl ?_
              refine m_gix (k := 4) (x := mem 5 x.toNat 4) rfl rfl (Nat.le_of_ble_eq_true rfl) rfl rfl (by simp only [cnt]; omega) e8.2 ?_
              refine m_max rfl rfl (by decide +kernel) (by omega) (by omega) (Nat.le_of_ble_eq_true rfl) (Nat.le_of_ble_eq_true rfl) (Nat.le_of_ble_eq_true rfl) (Nat.le_of_ble_eq_true rfl) ?_
              refine m_iasn (n := r.toNat) rfl rfl (Nat.le_of_ble_eq_true rfl) rfl (by first | decide | assumption | (simp only [cnt]; omega)) (by omega) (by simp only [aln]; omega) ?_
              refine m_aload rfl rfl rfl ?_
              refine m_gix (k := 8) (x := mem 5 x.toNat 8 + 1) rfl rfl (Nat.le_of_ble_eq_true rfl) rfl rfl (by simp only [cnt]; omega) (by first | exact e8.1 | (rw [ms_t (by decide)]; exact e8.1)) ?_
              refine m_iret rfl rfl rfl (Nat.le_of_ble_eq_true rfl) (Nat.le_of_ble_eq_true rfl) ?_
              unfold bePg
              first | (rw [if_pos (by omega)]; exact ⟨rfl, rfl⟩) | (rw [if_neg (by omega), if_pos (by omega)]; exact ⟨rfl, rfl⟩) | (rw [if_neg (by omega), if_neg (by omega), if_pos (by omega)]; exact ⟨rfl, rfl⟩) | (rw [if_neg (by omega), if_neg (by omega), if_neg (by omega), if_pos (by omega)]; exact ⟨rfl, rfl⟩) | (rw [if_neg (by omega), if_neg (by omega), if_neg (by omega), if_neg (by omega)]; exact ⟨rfl, rfl⟩)
          · refine m_bipush rfl rfl (by decide) ?_
            refine m_iret rfl rfl rfl (Nat.le_of_ble_eq_true rfl) (Nat.le_of_ble_eq_true rfl) ?_
            unfold bePg
            first | (rw [if_pos (by omega)]; exact ⟨rfl, rfl⟩) | (rw [if_neg (by omega), if_pos (by omega)]; exact ⟨rfl, rfl⟩) | (rw [if_neg (by omega), if_neg (by omega), if_pos (by omega)]; exact ⟨rfl, rfl⟩) | (rw [if_neg (by omega), if_neg (by omega), if_neg (by omega), if_pos (by omega)]; exact ⟨rfl, rfl⟩) | (rw [if_neg (by omega), if_neg (by omega), if_neg (by omega), if_neg (by omega)]; exact ⟨rfl, rfl⟩)
      · refine m_bipush rfl rfl (by decide) ?_
        refine m_iret rfl rfl rfl (Nat.le_of_ble_eq_true rfl) (Nat.le_of_ble_eq_true rfl) ?_
        unfold bePg
        first | (rw [if_pos (by omega)]; exact ⟨rfl, rfl⟩) | (rw [if_neg (by omega), if_pos (by omega)]; exact ⟨rfl, rfl⟩) | (rw [if_neg (by omega), if_neg (by omega), if_pos (by omega)]; exact ⟨rfl, rfl⟩) | (rw [if_neg (by omega), if_neg (by omega), if_neg (by omega), if_pos (by omega)]; exact ⟨rfl, rfl⟩) | (rw [if_neg (by omega), if_neg (by omega), if_neg (by omega), if_neg (by omega)]; exact ⟨rfl, rfl⟩)
  · refine m_iconst rfl rfl ?_
    refine m_iret rfl rfl rfl (Nat.le_of_ble_eq_true rfl) (Nat.le_of_ble_eq_true rfl) ?_
    unfold bePg
    first | (rw [if_pos (by omega)]; exact ⟨rfl, rfl⟩) | (rw [if_neg (by omega), if_pos (by omega)]; exact ⟨rfl, rfl⟩) | (rw [if_neg (by omega), if_neg (by omega), if_pos (by omega)]; exact ⟨rfl, rfl⟩) | (rw [if_neg (by omega), if_neg (by omega), if_neg (by omega), if_pos (by omega)]; exact ⟨rfl, rfl⟩) | (rw [if_neg (by omega), if_neg (by omega), if_neg (by omega), if_neg (by omega)]; exact ⟨rfl, rfl⟩)

def bePv (m : zkM) (p b pe : Int) : Int × zkM :=
  if ¬ ((1 ≤ p ∧ p ≤ 9) ∧ (1 ≤ b ∧ b ≤ 9) ∧ (1 ≤ pe ∧ pe ≤ 60)) then (-2, m)
  else if m 0 0 7 ≠ 0 then (-3, m)
  else if b2i (beTk m p) = 1 then (-4, m)
  else if m 4 0 3 = 0 then (0, seBg m p b pe) else (1, seBg m p b pe)
set_option maxRecDepth 10000 in
theorem c_bePutV {l : Launch} {G : zkG} {mem : zkM} (hl : l.stackTraces = false) {p b pe : Int} (h5 : 0 ≤ mem 0 0 5 ∧ mem 0 0 5 ≤ 5) (hp : inR p) (hb : inR b) (hpe : inR pe) (hq : ∀ i, i < 5 → inR (mem 5 i 4)) (h7 : inR (mem 0 0 7)) (h3 : mem 4 0 3 = 0 ∨ mem 4 0 3 = 1) : zkCt l G i_Be_putServer 2 0 0 [vr 0 0, vi p, vi b, vi pe] mem (zkR1 (vi (bePv mem p b pe).1) (bePv mem p b pe).2) := by
  refine zkCt_of hl ok_Be_putServer (by decide +kernel) rfl rfl (List.forall_mem_cons.mpr ⟨rfl, (List.forall_mem_cons.mpr ⟨rfl, (List.forall_mem_cons.mpr ⟨rfl, (List.forall_mem_cons.mpr ⟨rfl, fun _ h => nomatch h⟩)⟩)⟩)⟩) (Nat.le_of_ble_eq_true rfl) ?_
  have hb1 : b2i (beTk mem p) = 0 ∨ b2i (beTk mem p) = 1 := by cases beTk mem p <;> simp [b2i]
  refine m_iload_n rfl rfl rfl ?_
  refine m_iconst rfl rfl ?_
  refine m_bipush rfl rfl (by decide) ?_
  refine m_cs1 rfl rfl lk_0_43 (c_isWithin hl (by omega) (by omega) (by omega)) rfl rfl (Nat.le_of_ble_eq_true rfl) (Nat.le_of_ble_eq_true rfl) (Nat.le_of_ble_eq_true rfl) (Nat.le_of_ble_eq_true rfl) (Nat.le_of_ble_eq_true rfl) ?_
  refine m_if_eq_d (tgt := 30) rfl rfl rfl (fun c7 => ?_) (fun c7 => ?_)
  · refine m_bipush rfl rfl (by decide) ?_
    refine m_iret rfl rfl rfl (Nat.le_of_ble_eq_true rfl) (Nat.le_of_ble_eq_true rfl) ?_
    unfold bePv
    first | (rw [if_pos (by omega)]; exact ⟨rfl, rfl⟩) | (rw [if_neg (by omega), if_pos (by omega)]; exact ⟨rfl, rfl⟩) | (rw [if_neg (by omega), if_neg (by omega), if_pos (by omega)]; exact ⟨rfl, rfl⟩) | (rw [if_neg (by omega), if_neg (by omega), if_neg (by omega), if_pos (by omega)]; exact ⟨rfl, rfl⟩) | (rw [if_neg (by omega), if_neg (by omega), if_neg (by omega), if_neg (by omega)]; exact ⟨rfl, rfl⟩)
  · refine m_iload_n rfl rfl rfl ?_
    refine m_iconst rfl rfl ?_
    refine m_bipush rfl rfl (by decide) ?_
    refine m_cs1 rfl rfl lk_0_43 (c_isWithin hl (by omega) (by omega) (by omega)) rfl rfl (Nat.le_of_ble_eq_true rfl) (Nat.le_of_ble_eq_true rfl) (Nat.le_of_ble_eq_true rfl) (Nat.le_of_ble_eq_true rfl) (Nat.le_of_ble_eq_true rfl) ?_
    refine m_if_eq_d (tgt := 30) rfl rfl rfl (fun c17 => ?_) (fun c17 => ?_)
    · refine m_bipush rfl rfl (by decide) ?_
      refine m_iret rfl rfl rfl (Nat.le_of_ble_eq_true rfl) (Nat.le_of_ble_eq_true rfl) ?_
      unfold bePv
      first | (rw [if_pos (by omega)]; exact ⟨rfl, rfl⟩) | (rw [if_neg (by omega), if_pos (by omega)]; exact ⟨rfl, rfl⟩) | (rw [if_neg (by omega), if_neg (by omega), if_pos (by omega)]; exact ⟨rfl, rfl⟩) | (rw [if_neg (by omega), if_neg (by omega), if_neg (by omega), if_pos (by omega)]; exact ⟨rfl, rfl⟩) | (rw [if_neg (by omega), if_neg (by omega), if_neg (by omega), if_neg (by omega)]; exact ⟨rfl, rfl⟩)
    · refine m_iload_n rfl rfl rfl ?_
      refine m_iconst rfl rfl ?_
      refine m_bipush rfl rfl (by decide) ?_
      refine m_cs1 rfl rfl lk_0_43 (c_isWithin hl (by omega) (by omega) (by omega)) rfl rfl (Nat.le_of_ble_eq_true rfl) (Nat.le_of_ble_eq_true rfl) (Nat.le_of_ble_eq_true rfl) (Nat.le_of_ble_eq_true rfl) (Nat.le_of_ble_eq_true rfl) ?_
      refine m_if_ne_d (tgt := 33) rfl rfl rfl (fun c27 => ?_) (fun c27 => ?_)
      · refine m_aload_n rfl rfl rfl ?_
        refine m_gix (k := 7) (x := mem 0 _ 7) rfl rfl (Nat.le_of_ble_eq_true rfl) rfl rfl (by first | decide | assumption | (simp only [cnt]; omega)) (by first | rfl | (repeat (first | rw [ms_s] | rw [ms_t (by decide)] | rw [ms_k (by decide)]))) ?_
        refine m_if_eq (tgt := 43) rfl rfl rfl (by omega) (fun c37 => ?_) (fun c37 => ?_)
        · refine m_aload_n rfl rfl rfl ?_
          refine m_iload_n rfl rfl rfl ?_
          refine m_cv1 rfl rfl lk_0_68 (c_beTk hl h5 (by omega) hq) rfl (by first | decide | assumption | (simp only [cnt]; omega)) (Nat.le_of_ble_eq_true rfl) rfl rfl (Nat.le_of_ble_eq_true rfl) (Nat.le_of_ble_eq_true rfl) (Nat.le_of_ble_eq_true rfl) (Nat.le_of_ble_eq_true rfl) (Nat.le_of_ble_eq_true rfl) ?_
          refine m_if_eq (tgt := 54) rfl rfl rfl (by omega) (fun c48 => ?_) (fun c48 => ?_)
          · refine m_aload_n rfl rfl rfl ?_
            refine m_gr (k := 1) rfl rfl (Nat.le_of_ble_eq_true rfl) rfl rfl (by first | decide | assumption | (simp only [cnt]; omega)) ?_
            refine m_gix (k := 3) (x := mem 4 _ 3) rfl rfl (Nat.le_of_ble_eq_true rfl) rfl rfl (by first | decide | assumption | (simp only [cnt]; omega)) (by first | rfl | (repeat (first | rw [ms_s] | rw [ms_t (by decide)] | rw [ms_k (by decide)]))) ?_
            refine m_if_eq (tgt := 68) rfl rfl rfl (by omega) (fun c61 => ?_) (fun c61 => ?_)
            · refine m_iconst rfl rfl ?_
              refine m_istore rfl rfl (Nat.le_of_ble_eq_true rfl) rfl ?_
              refine m_aload_n rfl rfl rfl ?_
              refine m_gr (k := 1) rfl rfl (Nat.le_of_ble_eq_true rfl) rfl rfl (by first | decide | assumption | (simp only [cnt]; omega)) ?_
              refine m_iload_n rfl rfl rfl ?_
              refine m_iload_n rfl rfl rfl ?_
              refine m_iload_n rfl rfl rfl ?_
              refine m_cv0 rfl rfl lk_0_98 (c_seBegin hl) rfl (by first | decide | assumption | (simp only [cnt]; omega)) (Nat.le_of_ble_eq_true rfl) rfl rfl (Nat.le_of_ble_eq_true rfl) (Nat.le_of_ble_eq_true rfl) (Nat.le_of_ble_eq_true rfl) (Nat.le_of_ble_eq_true rfl) (Nat.le_of_ble_eq_true rfl) ?_
              refine m_iload rfl rfl rfl ?_
              refine m_iret rfl rfl rfl (Nat.le_of_ble_eq_true rfl) (Nat.le_of_ble_eq_true rfl) ?_
              unfold bePv
              first | (rw [if_pos (by omega)]; exact ⟨rfl, rfl⟩) | (rw [if_neg (by omega), if_pos (by omega)]; exact ⟨rfl, rfl⟩) | (rw [if_neg (by omega), if_neg (by omega), if_pos (by omega)]; exact ⟨rfl, rfl⟩) | (rw [if_neg (by omega), if_neg (by omega), if_neg (by omega), if_pos (by omega)]; exact ⟨rfl, rfl⟩) | (rw [if_neg (by omega), if_neg (by omega), if_neg (by omega), if_neg (by omega)]; exact ⟨rfl, rfl⟩)
            · refine m_iconst rfl rfl ?_
              refine m_goto (tgt := 69) rfl rfl rfl ?_
              refine m_istore rfl rfl (Nat.le_of_ble_eq_true rfl) rfl ?_
              refine m_aload_n rfl rfl rfl ?_
              refine m_gr (k := 1) rfl rfl (Nat.le_of_ble_eq_true rfl) rfl rfl (by first | decide | assumption | (simp only [cnt]; omega)) ?_
              refine m_iload_n rfl rfl rfl ?_
              refine m_iload_n rfl rfl rfl ?_
              refine m_iload_n rfl rfl rfl ?_
              refine m_cv0 rfl rfl lk_0_98 (c_seBegin hl) rfl (by first | decide | assumption | (simp only [cnt]; omega)) (Nat.le_of_ble_eq_true rfl) rfl rfl (Nat.le_of_ble_eq_true rfl) (Nat.le_of_ble_eq_true rfl) (Nat.le_of_ble_eq_true rfl) (Nat.le_of_ble_eq_true rfl) (Nat.le_of_ble_eq_true rfl) ?_
              refine m_iload rfl rfl rfl ?_
              refine m_iret rfl rfl rfl (Nat.le_of_ble_eq_true rfl) (Nat.le_of_ble_eq_true rfl) ?_
              unfold bePv
              first | (rw [if_pos (by omega)]; exact ⟨rfl, rfl⟩) | (rw [if_neg (by omega), if_pos (by omega)]; exact ⟨rfl, rfl⟩) | (rw [if_neg (by omega), if_neg (by omega), if_pos (by omega)]; exact ⟨rfl, rfl⟩) | (rw [if_neg (by omega), if_neg (by omega), if_neg (by omega), if_pos (by omega)]; exact ⟨rfl, rfl⟩) | (rw [if_neg (by omega), if_neg (by omega), if_neg (by omega), if_neg (by omega)]; exact ⟨rfl, rfl⟩)
          · refine m_bipush rfl rfl (by decide) ?_
            refine m_iret rfl rfl rfl (Nat.le_of_ble_eq_true rfl) (Nat.le_of_ble_eq_true rfl) ?_
            unfold bePv
            first | (rw [if_pos (by omega)]; exact ⟨rfl, rfl⟩) | (rw [if_neg (by omega), if_pos (by omega)]; exact ⟨rfl, rfl⟩) | (rw [if_neg (by omega), if_neg (by omega), if_pos (by omega)]; exact ⟨rfl, rfl⟩) | (rw [if_neg (by omega), if_neg (by omega), if_neg (by omega), if_pos (by omega)]; exact ⟨rfl, rfl⟩) | (rw [if_neg (by omega), if_neg (by omega), if_neg (by omega), if_neg (by omega)]; exact ⟨rfl, rfl⟩)
        · refine m_bipush rfl rfl (by decide) ?_
          refine m_iret rfl rfl rfl (Nat.le_of_ble_eq_true rfl) (Nat.le_of_ble_eq_true rfl) ?_
          unfold bePv
          first | (rw [if_pos (by omega)]; exact ⟨rfl, rfl⟩) | (rw [if_neg (by omega), if_pos (by omega)]; exact ⟨rfl, rfl⟩) | (rw [if_neg (by omega), if_neg (by omega), if_pos (by omega)]; exact ⟨rfl, rfl⟩) | (rw [if_neg (by omega), if_neg (by omega), if_neg (by omega), if_pos (by omega)]; exact ⟨rfl, rfl⟩) | (rw [if_neg (by omega), if_neg (by omega), if_neg (by omega), if_neg (by omega)]; exact ⟨rfl, rfl⟩)
      · refine m_bipush rfl rfl (by decide) ?_
        refine m_iret rfl rfl rfl (Nat.le_of_ble_eq_true rfl) (Nat.le_of_ble_eq_true rfl) ?_
        unfold bePv
        first | (rw [if_pos (by omega)]; exact ⟨rfl, rfl⟩) | (rw [if_neg (by omega), if_pos (by omega)]; exact ⟨rfl, rfl⟩) | (rw [if_neg (by omega), if_neg (by omega), if_pos (by omega)]; exact ⟨rfl, rfl⟩) | (rw [if_neg (by omega), if_neg (by omega), if_neg (by omega), if_pos (by omega)]; exact ⟨rfl, rfl⟩) | (rw [if_neg (by omega), if_neg (by omega), if_neg (by omega), if_neg (by omega)]; exact ⟨rfl, rfl⟩)

def bePq (m : zkM) (t le : Int) : Int × zkM :=
  if ¬ ((0 ≤ t ∧ t ≤ 300) ∧ (1 ≤ le ∧ le ≤ 9) ∧ m 0 0 7 ≤ t) then (-2, m) else if 12 ≤ m 3 0 4 then (-3, m) else rqAdd m t le
set_option maxRecDepth 10000 in
theorem c_bePutQ {l : Launch} {G : zkG} {mem : zkM} (hl : l.stackTraces = false) {t le : Int} (ht : inR t) (hle : inR le) (h7 : inR (mem 0 0 7)) (h4 : 0 ≤ mem 3 0 4 ∧ mem 3 0 4 ≤ 12) : zkCt l G i_Be_putRequest 2 0 0 [vr 0 0, vi t, vi le] mem (zkR1 (vi (bePq mem t le).1) (bePq mem t le).2) := by
  refine zkCt_of hl ok_Be_putRequest (by decide +kernel) rfl rfl (List.forall_mem_cons.mpr ⟨rfl, (List.forall_mem_cons.mpr ⟨rfl, (List.forall_mem_cons.mpr ⟨rfl, fun _ h => nomatch h⟩)⟩)⟩) (Nat.le_of_ble_eq_true rfl) ?_
  refine m_iload_n rfl rfl rfl ?_
  refine m_iconst rfl rfl ?_
  refine m_sipush rfl rfl (by decide) ?_
  refine m_cs1 rfl rfl lk_0_43 (c_isWithin hl (by omega) (by omega) (by omega)) rfl rfl (Nat.le_of_ble_eq_true rfl) (Nat.le_of_ble_eq_true rfl) (Nat.le_of_ble_eq_true rfl) (Nat.le_of_ble_eq_true rfl) (Nat.le_of_ble_eq_true rfl) ?_
  refine m_if_eq_d (tgt := 29) rfl rfl rfl (fun c8 => ?_) (fun c8 => ?_)
  · refine m_bipush rfl rfl (by decide) ?_
    refine m_iret rfl rfl rfl (Nat.le_of_ble_eq_true rfl) (Nat.le_of_ble_eq_true rfl) ?_
    unfold bePq
    first | (rw [if_pos (by omega)]; exact ⟨rfl, rfl⟩) | (rw [if_neg (by omega), if_pos (by omega)]; exact ⟨rfl, rfl⟩) | (rw [if_neg (by omega), if_neg (by omega)]; exact ⟨rfl, rfl⟩)
  · refine m_iload_n rfl rfl rfl ?_
    refine m_iconst rfl rfl ?_
    refine m_bipush rfl rfl (by decide) ?_
    refine m_cs1 rfl rfl lk_0_43 (c_isWithin hl (by omega) (by omega) (by omega)) rfl rfl (Nat.le_of_ble_eq_true rfl) (Nat.le_of_ble_eq_true rfl) (Nat.le_of_ble_eq_true rfl) (Nat.le_of_ble_eq_true rfl) (Nat.le_of_ble_eq_true rfl) ?_
    refine m_if_eq_d (tgt := 29) rfl rfl rfl (fun c18 => ?_) (fun c18 => ?_)
    · refine m_bipush rfl rfl (by decide) ?_
      refine m_iret rfl rfl rfl (Nat.le_of_ble_eq_true rfl) (Nat.le_of_ble_eq_true rfl) ?_
      unfold bePq
      first | (rw [if_pos (by omega)]; exact ⟨rfl, rfl⟩) | (rw [if_neg (by omega), if_pos (by omega)]; exact ⟨rfl, rfl⟩) | (rw [if_neg (by omega), if_neg (by omega)]; exact ⟨rfl, rfl⟩)
    · refine m_iload_n rfl rfl rfl ?_
      refine m_aload_n rfl rfl rfl ?_
      refine m_gix (k := 7) (x := mem 0 _ 7) rfl rfl (Nat.le_of_ble_eq_true rfl) rfl rfl (by first | decide | assumption | (simp only [cnt]; omega)) (by first | rfl | (repeat (first | rw [ms_s] | rw [ms_t (by decide)] | rw [ms_k (by decide)]))) ?_
      refine m_icmp_ge (tgt := 32) rfl rfl rfl (by omega) (by omega) (fun c26 => ?_) (fun c26 => ?_)
      · refine m_aload_n rfl rfl rfl ?_
        refine m_gr (k := 2) rfl rfl (Nat.le_of_ble_eq_true rfl) rfl rfl (by first | decide | assumption | (simp only [cnt]; omega)) ?_
        refine m_cv1 rfl rfl lk_0_101 (show zkCt l G i_Rq_isFull _ 0 0 _ _ (zkR1 (vi (b2i (decide (12 ≤ mem 3 0 4)))) _) from c_rqIsFull hl h4) rfl (by first | decide | assumption | (simp only [cnt]; omega)) (Nat.le_of_ble_eq_true rfl) rfl rfl (Nat.le_of_ble_eq_true rfl) (Nat.le_of_ble_eq_true rfl) (Nat.le_of_ble_eq_true rfl) (Nat.le_of_ble_eq_true rfl) (Nat.le_of_ble_eq_true rfl) ?_
        refine m_if_eq_d (tgt := 45) rfl rfl rfl (fun c39 => ?_) (fun c39 => ?_)
        · refine m_aload_n rfl rfl rfl ?_
          refine m_gr (k := 2) rfl rfl (Nat.le_of_ble_eq_true rfl) rfl rfl (by first | decide | assumption | (simp only [cnt]; omega)) ?_
          refine m_iload_n rfl rfl rfl ?_
          refine m_iload_n rfl rfl rfl ?_
          refine m_cv1 rfl rfl lk_0_105 (c_rqAdd hl h4) rfl (by first | decide | assumption | (simp only [cnt]; omega)) (Nat.le_of_ble_eq_true rfl) rfl rfl (Nat.le_of_ble_eq_true rfl) (Nat.le_of_ble_eq_true rfl) (Nat.le_of_ble_eq_true rfl) (Nat.le_of_ble_eq_true rfl) (Nat.le_of_ble_eq_true rfl) ?_
          refine m_iret rfl rfl rfl (Nat.le_of_ble_eq_true rfl) (Nat.le_of_ble_eq_true rfl) ?_
          unfold bePq
          first | (rw [if_pos (by omega)]; exact ⟨rfl, rfl⟩) | (rw [if_neg (by omega), if_pos (by omega)]; exact ⟨rfl, rfl⟩) | (rw [if_neg (by omega), if_neg (by omega)]; exact ⟨rfl, rfl⟩)
        · refine m_bipush rfl rfl (by decide) ?_
          refine m_iret rfl rfl rfl (Nat.le_of_ble_eq_true rfl) (Nat.le_of_ble_eq_true rfl) ?_
          unfold bePq
          first | (rw [if_pos (by omega)]; exact ⟨rfl, rfl⟩) | (rw [if_neg (by omega), if_pos (by omega)]; exact ⟨rfl, rfl⟩) | (rw [if_neg (by omega), if_neg (by omega)]; exact ⟨rfl, rfl⟩)
      · refine m_bipush rfl rfl (by decide) ?_
        refine m_iret rfl rfl rfl (Nat.le_of_ble_eq_true rfl) (Nat.le_of_ble_eq_true rfl) ?_
        unfold bePq
        first | (rw [if_pos (by omega)]; exact ⟨rfl, rfl⟩) | (rw [if_neg (by omega), if_pos (by omega)]; exact ⟨rfl, rfl⟩) | (rw [if_neg (by omega), if_neg (by omega)]; exact ⟨rfl, rfl⟩)

def bePp (m : zkM) (p : Int) : Int × zkM := if ¬ (0 ≤ p ∧ p ≤ 2) then (-2, m) else (m 0 0 6, mset m 0 0 6 p)
set_option maxRecDepth 10000 in
theorem c_bePutP {l : Launch} {G : zkG} {mem : zkM} (hl : l.stackTraces = false) {p : Int} (hp : inR p) : zkCt l G i_Be_putPolicy 1 0 0 [vr 0 0, vi p] mem (zkR1 (vi (bePp mem p).1) (bePp mem p).2) := by
  refine zkCt_of hl ok_Be_putPolicy (by decide +kernel) rfl rfl (List.forall_mem_cons.mpr ⟨rfl, (List.forall_mem_cons.mpr ⟨rfl, fun _ h => nomatch h⟩)⟩) (Nat.le_of_ble_eq_true rfl) ?_
  refine m_iload_n rfl rfl rfl ?_
  refine m_iconst rfl rfl ?_
  refine m_iconst rfl rfl ?_
  refine m_cs1 rfl rfl lk_0_43 (c_isWithin hl (by omega) (by omega) (by omega)) rfl rfl (Nat.le_of_ble_eq_true rfl) (Nat.le_of_ble_eq_true rfl) (Nat.le_of_ble_eq_true rfl) (Nat.le_of_ble_eq_true rfl) (Nat.le_of_ble_eq_true rfl) ?_
  refine m_if_ne_d (tgt := 12) rfl rfl rfl (fun c6 => ?_) (fun c6 => ?_)
  · refine m_aload_n rfl rfl rfl ?_
    refine m_gix (k := 6) (x := mem 0 _ 6) rfl rfl (Nat.le_of_ble_eq_true rfl) rfl rfl (by first | decide | assumption | (simp only [cnt]; omega)) (by first | rfl | (repeat (first | rw [ms_s] | rw [ms_t (by decide)] | rw [ms_k (by decide)]))) ?_
    refine m_istore_n rfl rfl (Nat.le_of_ble_eq_true rfl) rfl ?_
    refine m_aload_n rfl rfl rfl ?_
    refine m_iload_n rfl rfl rfl ?_
    refine m_pi (k := 6) rfl rfl (Nat.le_of_ble_eq_true rfl) rfl rfl rfl rfl (by first | decide | assumption | (simp only [cnt]; omega)) ?_
    refine m_iload_n rfl rfl rfl ?_
    refine m_iret rfl rfl rfl (Nat.le_of_ble_eq_true rfl) (Nat.le_of_ble_eq_true rfl) ?_
    unfold bePp
    first | (rw [if_pos (by omega)]; exact ⟨rfl, rfl⟩) | (rw [if_neg (by omega)]; exact ⟨rfl, rfl⟩)
  · refine m_bipush rfl rfl (by decide) ?_
    refine m_iret rfl rfl rfl (Nat.le_of_ble_eq_true rfl) (Nat.le_of_ble_eq_true rfl) ?_
    unfold bePp
    first | (rw [if_pos (by omega)]; exact ⟨rfl, rfl⟩) | (rw [if_neg (by omega)]; exact ⟨rfl, rfl⟩)

