/-! the class: requests, server -/
set_option maxRecDepth 10000 in
theorem c_rqRemoveAll {l : Launch} {G : zkG} {mem : zkM} (hl : l.stackTraces = false) : zkCt l G i_Rq_removeAll 0 0 0 [vr 3 0] mem (zkR0 (mset mem 3 0 4 0)) := by
  refine zkCt_of hl ok_Rq_removeAll (by decide +kernel) rfl rfl (List.forall_mem_cons.mpr ⟨rfl, fun _ h => nomatch h⟩) (Nat.le_of_ble_eq_true rfl) ?_
  refine m_aload_n rfl rfl rfl ?_
  refine m_iconst rfl rfl ?_
  refine m_pi (k := 4) rfl rfl (Nat.le_of_ble_eq_true rfl) rfl rfl rfl rfl (by first | decide | assumption | (simp only [cnt]; omega)) ?_
  refine m_vret rfl rfl rfl (Nat.le_of_ble_eq_true rfl) (Nat.le_of_ble_eq_true rfl) ?_
  exact ⟨rfl, rfl⟩

set_option maxRecDepth 10000 in
theorem c_rqIsFull {l : Launch} {G : zkG} {mem : zkM} (hl : l.stackTraces = false) (h4 : 0 ≤ mem 3 0 4 ∧ mem 3 0 4 ≤ 12) : zkCt l G i_Rq_isFull 0 0 0 [vr 3 0] mem (zkR1 (vi (b2i (decide (12 ≤ mem 3 0 4)))) mem) := by
  refine zkCt_of hl ok_Rq_isFull (by decide +kernel) rfl rfl (List.forall_mem_cons.mpr ⟨rfl, fun _ h => nomatch h⟩) (Nat.le_of_ble_eq_true rfl) ?_
  refine m_aload_n rfl rfl rfl ?_
  refine m_gix (k := 4) (x := mem 3 _ 4) rfl rfl (Nat.le_of_ble_eq_true rfl) rfl rfl (by first | decide | assumption | (simp only [cnt]; omega)) (by first | rfl | (repeat (first | rw [ms_s] | rw [ms_t (by decide)] | rw [ms_k (by decide)]))) ?_
  refine m_bipush rfl rfl (by decide) ?_
  refine m_icmp_lt (tgt := 13) rfl rfl rfl (by omega) (by omega) (fun c6 => ?_) (fun c6 => ?_)
  · refine m_iconst rfl rfl ?_
    refine m_z0 rfl rfl rfl (Nat.le_of_ble_eq_true rfl) (Nat.le_of_ble_eq_true rfl) ?_
    first | (rw [decide_eq_true (by omega)]; exact ⟨rfl, rfl⟩) | (rw [decide_eq_false (by omega)]; exact ⟨rfl, rfl⟩)
  · refine m_iconst rfl rfl ?_
    refine m_goto (tgt := 14) rfl rfl rfl ?_
    refine m_z1 rfl rfl rfl (Nat.le_of_ble_eq_true rfl) (Nat.le_of_ble_eq_true rfl) ?_
    first | (rw [decide_eq_true (by omega)]; exact ⟨rfl, rfl⟩) | (rw [decide_eq_false (by omega)]; exact ⟨rfl, rfl⟩)

def rqAdd (m : zkM) (t le : Int) : Int × zkM := if 12 ≤ m 3 0 4 then (-1, m) else (m 3 0 4 + 1 - 1, mset (mset (mset (mset (mset m 13 0 (m 3 0 4).toNat t) 14 0 (m 3 0 4).toNat le) 15 0 (m 3 0 4).toNat le) 16 0 (m 3 0 4).toNat (-1)) 3 0 4 (m 3 0 4 + 1))
set_option maxRecDepth 10000 in
theorem c_rqAdd {l : Launch} {G : zkG} {mem : zkM} (hl : l.stackTraces = false) {t le : Int} (h4 : 0 ≤ mem 3 0 4 ∧ mem 3 0 4 ≤ 12) : zkCt l G i_Rq_add 1 0 0 [vr 3 0, vi t, vi le] mem (zkR1 (vi (rqAdd mem t le).1) (rqAdd mem t le).2) := by
  refine zkCt_of hl ok_Rq_add (by decide +kernel) rfl rfl (List.forall_mem_cons.mpr ⟨rfl, (List.forall_mem_cons.mpr ⟨rfl, (List.forall_mem_cons.mpr ⟨rfl, fun _ h => nomatch h⟩)⟩)⟩) (Nat.le_of_ble_eq_true rfl) ?_
  refine m_aload_n rfl rfl rfl ?_
  refine m_cv1 rfl rfl lk_3_28 (show zkCt l G i_Rq_isFull _ 0 0 _ _ (zkR1 (vi (b2i (decide (12 ≤ mem 3 0 4)))) _) from c_rqIsFull hl h4) rfl (by first | decide | assumption | (simp only [cnt]; omega)) (Nat.le_of_ble_eq_true rfl) rfl rfl (Nat.le_of_ble_eq_true rfl) (Nat.le_of_ble_eq_true rfl) (Nat.le_of_ble_eq_true rfl) (Nat.le_of_ble_eq_true rfl) (Nat.le_of_ble_eq_true rfl) ?_
  refine m_if_eq_d (tgt := 9) rfl rfl rfl (fun c4 => ?_) (fun c4 => ?_)
  · refine m_aload_n rfl rfl rfl ?_
    refine m_gr (k := 0) rfl rfl (Nat.le_of_ble_eq_true rfl) rfl rfl (by first | decide | assumption | (simp only [cnt]; omega)) ?_
    refine m_aload_n rfl rfl rfl ?_
    refine m_gix (k := 4) (x := mem 3 _ 4) rfl rfl (Nat.le_of_ble_eq_true rfl) rfl rfl (by first | decide | assumption | (simp only [cnt]; omega)) (by first | rfl | (repeat (first | rw [ms_s] | rw [ms_t (by decide)] | rw [ms_k (by decide)]))) ?_
    refine m_iload_n rfl rfl rfl ?_
    refine m_iasn (n := (mem 3 0 4).toNat) rfl rfl (Nat.le_of_ble_eq_true rfl) rfl (by first | decide | assumption | (simp only [cnt]; omega)) (by omega) (by simp only [aln]; omega) ?_
    refine m_aload_n rfl rfl rfl ?_
    refine m_gr (k := 1) rfl rfl (Nat.le_of_ble_eq_true rfl) rfl rfl (by first | decide | assumption | (simp only [cnt]; omega)) ?_
    refine m_aload_n rfl rfl rfl ?_
    refine m_gix (k := 4) (x := mem 3 _ 4) rfl rfl (Nat.le_of_ble_eq_true rfl) rfl rfl (by first | decide | assumption | (simp only [cnt]; omega)) (by first | rfl | (repeat (first | rw [ms_s] | rw [ms_t (by decide)] | rw [ms_k (by decide)]))) ?_
    refine m_iload_n rfl rfl rfl ?_
    refine m_iasn (n := (mem 3 0 4).toNat) rfl rfl (Nat.le_of_ble_eq_true rfl) rfl (by first | decide | assumption | (simp only [cnt]; omega)) (by omega) (by simp only [aln]; omega) ?_
    refine m_aload_n rfl rfl rfl ?_
    refine m_gr (k := 2) rfl rfl (Nat.le_of_ble_eq_true rfl) rfl rfl (by first | decide | assumption | (simp only [cnt]; omega)) ?_
    refine m_aload_n rfl rfl rfl ?_
    refine m_gix (k := 4) (x := mem 3 _ 4) rfl rfl (Nat.le_of_ble_eq_true rfl) rfl rfl (by first | decide | assumption | (simp only [cnt]; omega)) (by first | rfl | (repeat (first | rw [ms_s] | rw [ms_t (by decide)] | rw [ms_k (by decide)]))) ?_
    refine m_iload_n rfl rfl rfl ?_
    refine m_iasn (n := (mem 3 0 4).toNat) rfl rfl (Nat.le_of_ble_eq_true rfl) rfl (by first | decide | assumption | (simp only [cnt]; omega)) (by omega) (by simp only [aln]; omega) ?_
    refine m_aload_n rfl rfl rfl ?_
    refine m_gr (k := 3) rfl rfl (Nat.le_of_ble_eq_true rfl) rfl rfl (by first | decide | assumption | (simp only [cnt]; omega)) ?_
    refine m_aload_n rfl rfl rfl ?_
    refine m_gix (k := 4) (x := mem 3 _ 4) rfl rfl (Nat.le_of_ble_eq_true rfl) rfl rfl (by first | decide | assumption | (simp only [cnt]; omega)) (by first | rfl | (repeat (first | rw [ms_s] | rw [ms_t (by decide)] | rw [ms_k (by decide)]))) ?_
    refine m_iconst rfl rfl ?_
    refine m_iasn (n := (mem 3 0 4).toNat) rfl rfl (Nat.le_of_ble_eq_true rfl) rfl (by first | decide | assumption | (simp only [cnt]; omega)) (by omega) (by simp only [aln]; omega) ?_
    refine m_aload_n rfl rfl rfl ?_
    refine m_dup rfl rfl rfl ?_
    refine m_gix (k := 4) (x := mem 3 _ 4) rfl rfl (Nat.le_of_ble_eq_true rfl) rfl rfl (by first | decide | assumption | (simp only [cnt]; omega)) (by first | rfl | (repeat (first | rw [ms_s] | rw [ms_t (by decide)] | rw [ms_k (by decide)]))) ?_
    refine m_iconst rfl rfl ?_
    refine m_iadd rfl rfl ?_
    refine m_pi (k := 4) rfl rfl (Nat.le_of_ble_eq_true rfl) rfl rfl rfl rfl (by first | decide | assumption | (simp only [cnt]; omega)) ?_
    refine m_aload_n rfl rfl rfl ?_
    refine m_gix (k := 4) (x := mem 3 0 4 + 1) rfl rfl (Nat.le_of_ble_eq_true rfl) rfl rfl (by first | decide | assumption | (simp only [cnt]; omega)) (by first | rfl | (repeat (first | rw [ms_s] | rw [ms_t (by decide)] | rw [ms_k (by decide)]))) ?_
    refine m_iconst rfl rfl ?_
    refine m_isub rfl rfl ?_
    refine m_iret rfl rfl rfl (Nat.le_of_ble_eq_true rfl) (Nat.le_of_ble_eq_true rfl) ?_
    unfold rqAdd
    first | (rw [if_pos (by omega)]; exact ⟨rfl, rfl⟩) | (rw [if_neg (by omega)]; exact ⟨rfl, rfl⟩)
  · refine m_iconst rfl rfl ?_
    refine m_iret rfl rfl rfl (Nat.le_of_ble_eq_true rfl) (Nat.le_of_ble_eq_true rfl) ?_
    unfold rqAdd
    first | (rw [if_pos (by omega)]; exact ⟨rfl, rfl⟩) | (rw [if_neg (by omega)]; exact ⟨rfl, rfl⟩)

def rqS1 (k : Nat) (s : zkM) : zkM := mset (mset s 15 0 k (s 14 0 k)) 16 0 k (-1)
def rqSt (m : zkM) : zkM := lp rqS1 (m 3 0 4).toNat m
set_option maxRecDepth 10000 in
theorem c_rqStart {l : Launch} {G : zkG} {mem : zkM} (hl : l.stackTraces = false) (h4 : 0 ≤ mem 3 0 4 ∧ mem 3 0 4 ≤ 12) : zkCt l G i_Rq_startAgain 0 0 0 [vr 3 0] mem (zkR0 (rqSt mem)) := by
  refine zkCt_of hl ok_Rq_startAgain (by decide +kernel) rfl rfl (List.forall_mem_cons.mpr ⟨rfl, fun _ h => nomatch h⟩) (Nat.le_of_ble_eq_true rfl) ?_
  refine m_iconst rfl rfl ?_
  refine m_istore_n rfl rfl (Nat.le_of_ble_eq_true rfl) rfl ?_
  refine zk_loop (P := fun (j : Nat) (s : zkM) => zkW l G i_Rq_startAgain _ 0 0 2 [some (vr 3 0), some (vi j)] [] s) (I := fun _ s => s 3 0 4 = mem 3 0 4) rqS1 (mem 3 0 4).toNat mem rfl (fun _ _ _ hI => hI) (fun j s hj hI hk => ?_) (fun hI => ?_)
  · refine m_iload_n rfl rfl rfl ?_
    refine m_aload_n rfl rfl rfl ?_
    refine m_gix (k := 4) (x := s 3 _ 4) rfl rfl (Nat.le_of_ble_eq_true rfl) rfl rfl (by first | decide | assumption | (simp only [cnt]; omega)) (by first | rfl | (repeat (first | rw [ms_s] | rw [ms_t (by decide)] | rw [ms_k (by decide)]))) ?_
    refine m_icmp_ge (tgt := 35) rfl rfl rfl (by omega) (by omega) (fun c7 => ?_) (fun c7 => ?_)
    · exfalso; omega
    · refine m_aload_n rfl rfl rfl ?_
      refine m_gr (k := 2) rfl rfl (Nat.le_of_ble_eq_true rfl) rfl rfl (by first | decide | assumption | (simp only [cnt]; omega)) ?_
      refine m_iload_n rfl rfl rfl ?_
      refine m_aload_n rfl rfl rfl ?_
      refine m_gr (k := 1) rfl rfl (Nat.le_of_ble_eq_true rfl) rfl rfl (by first | decide | assumption | (simp only [cnt]; omega)) ?_
      refine m_iload_n rfl rfl rfl ?_
      refine m_ialx (n := j) (y := s 14 _ (j)) rfl rfl (Nat.le_of_ble_eq_true rfl) rfl (by first | decide | assumption | (simp only [cnt]; omega)) (by omega) (by simp only [aln]; omega) (by first | rfl | (repeat (first | rw [ms_s] | rw [ms_t (by decide)] | rw [ms_k (by decide)]))) ?_
      refine m_iasn (n := j) rfl rfl (Nat.le_of_ble_eq_true rfl) rfl (by first | decide | assumption | (simp only [cnt]; omega)) (by omega) (by simp only [aln]; omega) ?_
      refine m_aload_n rfl rfl rfl ?_
      refine m_gr (k := 3) rfl rfl (Nat.le_of_ble_eq_true rfl) rfl rfl (by first | decide | assumption | (simp only [cnt]; omega)) ?_
      refine m_iload_n rfl rfl rfl ?_
      refine m_iconst rfl rfl ?_
      refine m_iasn (n := j) rfl rfl (Nat.le_of_ble_eq_true rfl) rfl (by first | decide | assumption | (simp only [cnt]; omega)) (by omega) (by simp only [aln]; omega) ?_
      refine m_iinc rfl rfl rfl (Nat.le_of_ble_eq_true rfl) rfl ?_
      refine m_goto (tgt := 2) rfl rfl rfl ?_
      exact hk
  · refine m_iload_n rfl rfl rfl ?_
    refine m_aload_n rfl rfl rfl ?_
    refine m_gix (k := 4) (x := (lp rqS1 (mem 3 0 4).toNat mem) 3 _ 4) rfl rfl (Nat.le_of_ble_eq_true rfl) rfl rfl (by first | decide | assumption | (simp only [cnt]; omega)) (by first | rfl | (repeat (first | rw [ms_s] | rw [ms_t (by decide)] | rw [ms_k (by decide)]))) ?_
    refine m_icmp_ge (tgt := 35) rfl rfl rfl (by omega) (by omega) (fun c7 => ?_) (fun c7 => ?_)
    · refine m_vret rfl rfl rfl (Nat.le_of_ble_eq_true rfl) (Nat.le_of_ble_eq_true rfl) ?_
      exact ⟨rfl, rfl⟩
    · exfalso; omega

def rqNf (m : zkM) (t : Int) (k : Nat) (x : Int) : Int := if (m 13 0 k ≤ t ∧ 0 < m 15 0 k) ∧ (x = -1 ∨ m 13 0 k < m 13 0 x.toNat) then k else x
def rqNx (m : zkM) (t : Int) : Int := lp (rqNf m t) (m 3 0 4).toNat (-1)
theorem rqNx_b {m : zkM} (h : 0 ≤ m 3 0 4 ∧ m 3 0 4 ≤ 12) (t : Int) : -1 ≤ rqNx m t ∧ rqNx m t < m 3 0 4 ∨ (rqNx m t = -1) := by
  have := lp_inv (fun (j : Nat) (s : Int) => -1 ≤ s ∧ s < j ∨ s = -1) (rqNf m t) (m 3 0 4).toNat (-1) (by omega) (fun j s _ hI => by unfold rqNf; split <;> omega)
  unfold rqNx
  omega
set_option maxRecDepth 10000 in
theorem c_rqNext {l : Launch} {G : zkG} {mem : zkM} (hl : l.stackTraces = false) {t : Int} (h4 : 0 ≤ mem 3 0 4 ∧ mem 3 0 4 ≤ 12) (ht : inR t) (h13 : ∀ k, k < 12 → inR (mem 13 0 k)) (h15 : ∀ k, k < 12 → inR (mem 15 0 k)) : zkCt l G i_Rq_nextToServe 0 0 0 [vr 3 0, vi t] mem (zkR1 (vi (rqNx mem t)) mem) := by
  refine zkCt_of hl ok_Rq_nextToServe (by decide +kernel) rfl rfl (List.forall_mem_cons.mpr ⟨rfl, (List.forall_mem_cons.mpr ⟨rfl, fun _ h => nomatch h⟩)⟩) (Nat.le_of_ble_eq_true rfl) ?_
  refine m_iconst rfl rfl ?_
  refine m_istore_n rfl rfl (Nat.le_of_ble_eq_true rfl) rfl ?_
  refine m_iconst rfl rfl ?_
  refine m_istore_n rfl rfl (Nat.le_of_ble_eq_true rfl) rfl ?_
  refine zk_loop (P := fun (j : Nat) (s : Int) => ∀ o4 : Option zkV, zkW l G i_Rq_nextToServe (zkKm G 0 0 0 (zkR1 (vi (rqNx mem t)) mem)) 0 0 4 [some (vr 3 0), some (vi t), some (vi s), some (vi j), o4] [] mem) (I := fun j s => -1 ≤ s ∧ s < j ∨ s = -1) (rqNf mem t) (mem 3 0 4).toNat (-1) (by omega) (fun j s _ hI => by unfold rqNf; split <;> omega) (fun j s hj hI hk o4 => ?_) (fun hI o4 => ?_) none
  · have a1 := h13 j (by omega)
    have a2 := h15 j (by omega)
    have a3 := h13 s.toNat (by omega)
    unfold rqNf at hk
    refine m_iload_n rfl rfl rfl ?_
    refine m_aload_n rfl rfl rfl ?_
    refine m_gix (k := 4) (x := mem 3 _ 4) rfl rfl (Nat.le_of_ble_eq_true rfl) rfl rfl (by first | decide | assumption | (simp only [cnt]; omega)) (by first | rfl | (repeat (first | rw [ms_s] | rw [ms_t (by decide)] | rw [ms_k (by decide)]))) ?_
    refine m_icmp_ge (tgt := 71) rfl rfl rfl (by omega) (by omega) (fun c9 => ?_) (fun c9 => ?_)
    · exfalso; omega
    · refine m_aload_n rfl rfl rfl ?_
      refine m_gr (k := 0) rfl rfl (Nat.le_of_ble_eq_true rfl) rfl rfl (by first | decide | assumption | (simp only [cnt]; omega)) ?_
      refine m_iload_n rfl rfl rfl ?_
      refine m_ialx (n := j) (y := mem 13 _ (j)) rfl rfl (Nat.le_of_ble_eq_true rfl) rfl (by first | decide | assumption | (simp only [cnt]; omega)) (by omega) (by simp only [aln]; omega) (by first | rfl | (repeat (first | rw [ms_s] | rw [ms_t (by decide)] | rw [ms_k (by decide)]))) ?_
      refine m_iload_n rfl rfl rfl ?_
      refine m_icmp_gt (tgt := 35) rfl rfl rfl (by omega) (by omega) (fun c19 => ?_) (fun c19 => ?_)
      · refine m_iconst rfl rfl ?_
        refine m_istore rfl rfl (Nat.le_of_ble_eq_true rfl) rfl ?_
        refine m_iload rfl rfl rfl ?_
        refine m_if_eq (tgt := 65) rfl rfl rfl (by omega) (fun c40 => ?_) (fun c40 => ?_)
        · refine m_iinc rfl rfl rfl (Nat.le_of_ble_eq_true rfl) rfl ?_
          refine m_goto (tgt := 4) rfl rfl rfl ?_
          first | (rw [if_pos (by omega)] at hk; exact hk _) | (rw [if_neg (by omega)] at hk; exact hk _)
        · exfalso; omega
      · refine m_aload_n rfl rfl rfl ?_
        refine m_gr (k := 2) rfl rfl (Nat.le_of_ble_eq_true rfl) rfl rfl (by first | decide | assumption | (simp only [cnt]; omega)) ?_
        refine m_iload_n rfl rfl rfl ?_
        refine m_ialx (n := j) (y := mem 15 _ (j)) rfl rfl (Nat.le_of_ble_eq_true rfl) rfl (by first | decide | assumption | (simp only [cnt]; omega)) (by omega) (by simp only [aln]; omega) (by first | rfl | (repeat (first | rw [ms_s] | rw [ms_t (by decide)] | rw [ms_k (by decide)]))) ?_
        refine m_if_le (tgt := 35) rfl rfl rfl (by omega) (fun c28 => ?_) (fun c28 => ?_)
        · refine m_iconst rfl rfl ?_
          refine m_istore rfl rfl (Nat.le_of_ble_eq_true rfl) rfl ?_
          refine m_iload rfl rfl rfl ?_
          refine m_if_eq (tgt := 65) rfl rfl rfl (by omega) (fun c40 => ?_) (fun c40 => ?_)
          · refine m_iinc rfl rfl rfl (Nat.le_of_ble_eq_true rfl) rfl ?_
            refine m_goto (tgt := 4) rfl rfl rfl ?_
            first | (rw [if_pos (by omega)] at hk; exact hk _) | (rw [if_neg (by omega)] at hk; exact hk _)
          · exfalso; omega
        · refine m_iconst rfl rfl ?_
          refine m_goto (tgt := 36) rfl rfl rfl ?_
          refine m_istore rfl rfl (Nat.le_of_ble_eq_true rfl) rfl ?_
          refine m_iload rfl rfl rfl ?_
          refine m_if_eq (tgt := 65) rfl rfl rfl (by omega) (fun c40 => ?_) (fun c40 => ?_)
          · exfalso; omega
          · refine m_iload_n rfl rfl rfl ?_
            refine m_iconst rfl rfl ?_
            refine m_icmp_eq (tgt := 63) rfl rfl rfl (by omega) (by omega) (fun c45 => ?_) (fun c45 => ?_)
            · refine m_iload_n rfl rfl rfl ?_
              refine m_istore_n rfl rfl (Nat.le_of_ble_eq_true rfl) rfl ?_
              refine m_iinc rfl rfl rfl (Nat.le_of_ble_eq_true rfl) rfl ?_
              refine m_goto (tgt := 4) rfl rfl rfl ?_
              first | (rw [if_pos (by omega)] at hk; exact hk _) | (rw [if_neg (by omega)] at hk; exact hk _)
            · refine m_aload_n rfl rfl rfl ?_
              refine m_gr (k := 0) rfl rfl (Nat.le_of_ble_eq_true rfl) rfl rfl (by first | decide | assumption | (simp only [cnt]; omega)) ?_
              refine m_iload_n rfl rfl rfl ?_
              refine m_ialx (n := j) (y := mem 13 _ (j)) rfl rfl (Nat.le_of_ble_eq_true rfl) rfl (by first | decide | assumption | (simp only [cnt]; omega)) (by omega) (by simp only [aln]; omega) (by first | rfl | (repeat (first | rw [ms_s] | rw [ms_t (by decide)] | rw [ms_k (by decide)]))) ?_
              refine m_aload_n rfl rfl rfl ?_
              refine m_gr (k := 0) rfl rfl (Nat.le_of_ble_eq_true rfl) rfl rfl (by first | decide | assumption | (simp only [cnt]; omega)) ?_
              refine m_iload_n rfl rfl rfl ?_
              refine m_ialx (n := s.toNat) (y := mem 13 _ (s.toNat)) rfl rfl (Nat.le_of_ble_eq_true rfl) rfl (by first | decide | assumption | (simp only [cnt]; omega)) (by omega) (by simp only [aln]; omega) (by first | rfl | (repeat (first | rw [ms_s] | rw [ms_t (by decide)] | rw [ms_k (by decide)]))) ?_
              refine m_icmp_ge (tgt := 65) rfl rfl rfl (by omega) (by omega) (fun c60 => ?_) (fun c60 => ?_)
              · refine m_iinc rfl rfl rfl (Nat.le_of_ble_eq_true rfl) rfl ?_
                refine m_goto (tgt := 4) rfl rfl rfl ?_
                first | (rw [if_pos (by omega)] at hk; exact hk _) | (rw [if_neg (by omega)] at hk; exact hk _)
              · refine m_iload_n rfl rfl rfl ?_
                refine m_istore_n rfl rfl (Nat.le_of_ble_eq_true rfl) rfl ?_
                refine m_iinc rfl rfl rfl (Nat.le_of_ble_eq_true rfl) rfl ?_
                refine m_goto (tgt := 4) rfl rfl rfl ?_
                first | (rw [if_pos (by omega)] at hk; exact hk _) | (rw [if_neg (by omega)] at hk; exact hk _)
  · refine m_iload_n rfl rfl rfl ?_
    refine m_aload_n rfl rfl rfl ?_
    refine m_gix (k := 4) (x := mem 3 _ 4) rfl rfl (Nat.le_of_ble_eq_true rfl) rfl rfl (by first | decide | assumption | (simp only [cnt]; omega)) (by first | rfl | (repeat (first | rw [ms_s] | rw [ms_t (by decide)] | rw [ms_k (by decide)]))) ?_
    refine m_icmp_ge (tgt := 71) rfl rfl rfl (by omega) (by omega) (fun c9 => ?_) (fun c9 => ?_)
    · refine m_iload_n rfl rfl rfl ?_
      refine m_iret rfl rfl rfl (Nat.le_of_ble_eq_true rfl) (Nat.le_of_ble_eq_true rfl) ?_
      exact ⟨rfl, rfl⟩
    · exfalso; omega

def rqSv (m : zkM) (r e : Int) : zkM := if ¬ (0 ≤ r ∧ r ≤ m 3 0 4 - 1) then m else if m 15 0 r.toNat - 1 = 0 then mset (mset m 15 0 r.toNat (m 15 0 r.toNat - 1)) 16 0 r.toNat (e - m 13 0 r.toNat) else mset m 15 0 r.toNat (m 15 0 r.toNat - 1)
set_option maxRecDepth 10000 in
theorem c_rqServe {l : Launch} {G : zkG} {mem : zkM} (hl : l.stackTraces = false) {r e : Int} (h4 : 0 ≤ mem 3 0 4 ∧ mem 3 0 4 ≤ 12) (hr : inR r) (h15 : ∀ k, k < 12 → 0 ≤ mem 15 0 k ∧ mem 15 0 k ≤ 1000) : zkCt l G i_Rq_serve 1 0 0 [vr 3 0, vi r, vi e] mem (zkR0 (rqSv mem r e)) := by
  refine zkCt_of hl ok_Rq_serve (by decide +kernel) rfl rfl (List.forall_mem_cons.mpr ⟨rfl, (List.forall_mem_cons.mpr ⟨rfl, (List.forall_mem_cons.mpr ⟨rfl, fun _ h => nomatch h⟩)⟩)⟩) (Nat.le_of_ble_eq_true rfl) ?_
  refine m_iload_n rfl rfl rfl ?_
  refine m_iconst rfl rfl ?_
  refine m_aload_n rfl rfl rfl ?_
  refine m_gix (k := 4) (x := mem 3 _ 4) rfl rfl (Nat.le_of_ble_eq_true rfl) rfl rfl (by first | decide | assumption | (simp only [cnt]; omega)) (by first | rfl | (repeat (first | rw [ms_s] | rw [ms_t (by decide)] | rw [ms_k (by decide)]))) ?_
  refine m_iconst rfl rfl ?_
  refine m_isub rfl rfl ?_
  refine m_cs1 rfl rfl lk_3_32 (c_isWithin hl (by omega) (by omega) (by omega)) rfl rfl (Nat.le_of_ble_eq_true rfl) (Nat.le_of_ble_eq_true rfl) (Nat.le_of_ble_eq_true rfl) (Nat.le_of_ble_eq_true rfl) (Nat.le_of_ble_eq_true rfl) ?_
  refine m_if_ne_d (tgt := 15) rfl rfl rfl (fun c11 => ?_) (fun c11 => ?_)
  · have a1 := h15 r.toNat (by omega)
    refine m_aload_n rfl rfl rfl ?_
    refine m_gr (k := 2) rfl rfl (Nat.le_of_ble_eq_true rfl) rfl rfl (by first | decide | assumption | (simp only [cnt]; omega)) ?_
    refine m_iload_n rfl rfl rfl ?_
    refine m_dup2 rfl rfl rfl rfl ?_
    refine m_ialx (n := r.toNat) (y := mem 15 _ (r.toNat)) rfl rfl (Nat.le_of_ble_eq_true rfl) rfl (by first | decide | assumption | (simp only [cnt]; omega)) (by omega) (by simp only [aln]; omega) (by first | rfl | (repeat (first | rw [ms_s] | rw [ms_t (by decide)] | rw [ms_k (by decide)]))) ?_
    refine m_iconst rfl rfl ?_
    refine m_isub rfl rfl ?_
    refine m_iasn (n := r.toNat) rfl rfl (Nat.le_of_ble_eq_true rfl) rfl (by first | decide | assumption | (simp only [cnt]; omega)) (by omega) (by simp only [aln]; omega) ?_
    refine m_aload_n rfl rfl rfl ?_
    refine m_gr (k := 2) rfl rfl (Nat.le_of_ble_eq_true rfl) rfl rfl (by first | decide | assumption | (simp only [cnt]; omega)) ?_
    refine m_iload_n rfl rfl rfl ?_
    refine m_ialx (n := r.toNat) (y := mem 15 0 r.toNat - 1) rfl rfl (Nat.le_of_ble_eq_true rfl) rfl (by decide) (by omega) (by simp only [aln]; omega) (by rw [ms_s]) ?_
    refine m_if_ne (tgt := 48) rfl rfl rfl (by omega) (fun c31 => ?_) (fun c31 => ?_)
    · refine m_vret rfl rfl rfl (Nat.le_of_ble_eq_true rfl) (Nat.le_of_ble_eq_true rfl) ?_
      unfold rqSv
      first | (rw [if_pos (by omega)]; exact ⟨rfl, rfl⟩) | (rw [if_neg (by omega), if_pos (by omega)]; exact ⟨rfl, rfl⟩) | (rw [if_neg (by omega), if_neg (by omega)]; exact ⟨rfl, rfl⟩)
    · refine m_aload_n rfl rfl rfl ?_
      refine m_gr (k := 3) rfl rfl (Nat.le_of_ble_eq_true rfl) rfl rfl (by first | decide | assumption | (simp only [cnt]; omega)) ?_
      refine m_iload_n rfl rfl rfl ?_
      refine m_iload_n rfl rfl rfl ?_
      refine m_aload_n rfl rfl rfl ?_
      refine m_gr (k := 0) rfl rfl (Nat.le_of_ble_eq_true rfl) rfl rfl (by first | decide | assumption | (simp only [cnt]; omega)) ?_
      refine m_iload_n rfl rfl rfl ?_
      refine m_ialx (n := r.toNat) (y := mem 13 _ (r.toNat)) rfl rfl (Nat.le_of_ble_eq_true rfl) rfl (by first | decide | assumption | (simp only [cnt]; omega)) (by omega) (by simp only [aln]; omega) (by first | rfl | (repeat (first | rw [ms_s] | rw [ms_t (by decide)] | rw [ms_k (by decide)]))) ?_
      refine m_isub rfl rfl ?_
      refine m_iasn (n := r.toNat) rfl rfl (Nat.le_of_ble_eq_true rfl) rfl (by first | decide | assumption | (simp only [cnt]; omega)) (by omega) (by simp only [aln]; omega) ?_
      refine m_vret rfl rfl rfl (Nat.le_of_ble_eq_true rfl) (Nat.le_of_ble_eq_true rfl) ?_
      unfold rqSv
      first | (rw [if_pos (by omega)]; exact ⟨rfl, rfl⟩) | (rw [if_neg (by omega), if_pos (by omega)]; exact ⟨rfl, rfl⟩) | (rw [if_neg (by omega), if_neg (by omega)]; exact ⟨rfl, rfl⟩)
  · refine m_vret rfl rfl rfl (Nat.le_of_ble_eq_true rfl) (Nat.le_of_ble_eq_true rfl) ?_
    unfold rqSv
    first | (rw [if_pos (by omega)]; exact ⟨rfl, rfl⟩) | (rw [if_neg (by omega), if_pos (by omega)]; exact ⟨rfl, rfl⟩) | (rw [if_neg (by omega), if_neg (by omega)]; exact ⟨rfl, rfl⟩)

def seSt (m : zkM) : zkM := mset (mset (mset m 4 0 7 (m 4 0 5)) 4 0 8 0) 4 0 2 0
set_option maxRecDepth 10000 in
theorem c_seStart {l : Launch} {G : zkG} {mem : zkM} (hl : l.stackTraces = false) : zkCt l G i_Se_startAgain 0 0 0 [vr 4 0] mem (zkR0 (seSt mem)) := by
  refine zkCt_of hl ok_Se_startAgain (by decide +kernel) rfl rfl (List.forall_mem_cons.mpr ⟨rfl, fun _ h => nomatch h⟩) (Nat.le_of_ble_eq_true rfl) ?_
  refine m_aload_n rfl rfl rfl ?_
  refine m_aload_n rfl rfl rfl ?_
  refine m_gix (k := 5) (x := mem 4 _ 5) rfl rfl (Nat.le_of_ble_eq_true rfl) rfl rfl (by first | decide | assumption | (simp only [cnt]; omega)) (by first | rfl | (repeat (first | rw [ms_s] | rw [ms_t (by decide)] | rw [ms_k (by decide)]))) ?_
  refine m_pi (k := 7) rfl rfl (Nat.le_of_ble_eq_true rfl) rfl rfl rfl rfl (by first | decide | assumption | (simp only [cnt]; omega)) ?_
  refine m_aload_n rfl rfl rfl ?_
  refine m_iconst rfl rfl ?_
  refine m_pz0 (k := 8) rfl rfl (Nat.le_of_ble_eq_true rfl) rfl rfl rfl rfl (by first | decide | assumption | (simp only [cnt]; omega)) ?_
  refine m_aload_n rfl rfl rfl ?_
  refine m_iconst rfl rfl ?_
  refine m_pi (k := 2) rfl rfl (Nat.le_of_ble_eq_true rfl) rfl rfl rfl rfl (by first | decide | assumption | (simp only [cnt]; omega)) ?_
  refine m_vret rfl rfl rfl (Nat.le_of_ble_eq_true rfl) (Nat.le_of_ble_eq_true rfl) ?_
  exact ⟨rfl, rfl⟩

def seBg (m : zkM) (p b pe : Int) : zkM := seSt (mset (mset (mset (mset m 4 0 3 1) 4 0 4 p) 4 0 5 b) 4 0 6 pe)
set_option maxRecDepth 10000 in
theorem c_seBegin {l : Launch} {G : zkG} {mem : zkM} (hl : l.stackTraces = false) {p b pe : Int} : zkCt l G i_Se_begin 1 0 0 [vr 4 0, vi p, vi b, vi pe] mem (zkR0 (seBg mem p b pe)) := by
  refine zkCt_of hl ok_Se_begin (by decide +kernel) rfl rfl (List.forall_mem_cons.mpr ⟨rfl, (List.forall_mem_cons.mpr ⟨rfl, (List.forall_mem_cons.mpr ⟨rfl, (List.forall_mem_cons.mpr ⟨rfl, fun _ h => nomatch h⟩)⟩)⟩)⟩) (Nat.le_of_ble_eq_true rfl) ?_
  refine m_aload_n rfl rfl rfl ?_
  refine m_iconst rfl rfl ?_
  refine m_pz1 (k := 3) rfl rfl (Nat.le_of_ble_eq_true rfl) rfl rfl rfl rfl (by first | decide | assumption | (simp only [cnt]; omega)) ?_
  refine m_aload_n rfl rfl rfl ?_
  refine m_iload_n rfl rfl rfl ?_
  refine m_pi (k := 4) rfl rfl (Nat.le_of_ble_eq_true rfl) rfl rfl rfl rfl (by first | decide | assumption | (simp only [cnt]; omega)) ?_
  refine m_aload_n rfl rfl rfl ?_
  refine m_iload_n rfl rfl rfl ?_
  refine m_pi (k := 5) rfl rfl (Nat.le_of_ble_eq_true rfl) rfl rfl rfl rfl (by first | decide | assumption | (simp only [cnt]; omega)) ?_
  refine m_aload_n rfl rfl rfl ?_
  refine m_iload_n rfl rfl rfl ?_
  refine m_pi (k := 6) rfl rfl (Nat.le_of_ble_eq_true rfl) rfl rfl rfl rfl (by first | decide | assumption | (simp only [cnt]; omega)) ?_
  refine m_aload_n rfl rfl rfl ?_
  refine m_cv0 rfl rfl lk_4_32 (c_seStart hl) rfl (by first | decide | assumption | (simp only [cnt]; omega)) (Nat.le_of_ble_eq_true rfl) rfl rfl (Nat.le_of_ble_eq_true rfl) (Nat.le_of_ble_eq_true rfl) (Nat.le_of_ble_eq_true rfl) (Nat.le_of_ble_eq_true rfl) (Nat.le_of_ble_eq_true rfl) ?_
  refine m_vret rfl rfl rfl (Nat.le_of_ble_eq_true rfl) (Nat.le_of_ble_eq_true rfl) ?_
  exact ⟨rfl, rfl⟩

set_option maxRecDepth 10000 in
theorem c_seHas {l : Launch} {G : zkG} {mem : zkM} (hl : l.stackTraces = false) {x : Int} (h3 : mem 4 0 3 = 0 ∨ mem 4 0 3 = 1) (hx : inR x) (h4 : inR (mem 4 0 4)) : zkCt l G i_Se_hasPriority 0 0 0 [vr 4 0, vi x] mem (zkR1 (vi (b2i (decide (mem 4 0 3 = 1 ∧ mem 4 0 4 = x)))) mem) := by
  refine zkCt_of hl ok_Se_hasPriority (by decide +kernel) rfl rfl (List.forall_mem_cons.mpr ⟨rfl, (List.forall_mem_cons.mpr ⟨rfl, fun _ h => nomatch h⟩)⟩) (Nat.le_of_ble_eq_true rfl) ?_
  refine m_aload_n rfl rfl rfl ?_
  refine m_gix (k := 3) (x := mem 4 _ 3) rfl rfl (Nat.le_of_ble_eq_true rfl) rfl rfl (by first | decide | assumption | (simp only [cnt]; omega)) (by first | rfl | (repeat (first | rw [ms_s] | rw [ms_t (by decide)] | rw [ms_k (by decide)]))) ?_
  refine m_if_eq (tgt := 19) rfl rfl rfl (by omega) (fun c4 => ?_) (fun c4 => ?_)
  · refine m_iconst rfl rfl ?_
    refine m_z0 rfl rfl rfl (Nat.le_of_ble_eq_true rfl) (Nat.le_of_ble_eq_true rfl) ?_
    first | (rw [decide_eq_true (by omega)]; exact ⟨rfl, rfl⟩) | (rw [decide_eq_false (by omega)]; exact ⟨rfl, rfl⟩)
  · refine m_aload_n rfl rfl rfl ?_
    refine m_gix (k := 4) (x := mem 4 _ 4) rfl rfl (Nat.le_of_ble_eq_true rfl) rfl rfl (by first | decide | assumption | (simp only [cnt]; omega)) (by first | rfl | (repeat (first | rw [ms_s] | rw [ms_t (by decide)] | rw [ms_k (by decide)]))) ?_
    refine m_iload_n rfl rfl rfl ?_
    refine m_icmp_ne (tgt := 19) rfl rfl rfl (by omega) (by omega) (fun c12 => ?_) (fun c12 => ?_)
    · refine m_iconst rfl rfl ?_
      refine m_z0 rfl rfl rfl (Nat.le_of_ble_eq_true rfl) (Nat.le_of_ble_eq_true rfl) ?_
      first | (rw [decide_eq_true (by omega)]; exact ⟨rfl, rfl⟩) | (rw [decide_eq_false (by omega)]; exact ⟨rfl, rfl⟩)
    · refine m_iconst rfl rfl ?_
      refine m_goto (tgt := 20) rfl rfl rfl ?_
      refine m_z1 rfl rfl rfl (Nat.le_of_ble_eq_true rfl) (Nat.le_of_ble_eq_true rfl) ?_
      first | (rw [decide_eq_true (by omega)]; exact ⟨rfl, rfl⟩) | (rw [decide_eq_false (by omega)]; exact ⟨rfl, rfl⟩)

set_option maxRecDepth 10000 in
theorem c_seReady {l : Launch} {G : zkG} {mem : zkM} (hl : l.stackTraces = false) {w : Int} (h3 : mem 4 0 3 = 0 ∨ mem 4 0 3 = 1) (hw : w = 0 ∨ w = 1) (h7 : inR (mem 4 0 7)) : zkCt l G i_Se_isReady 0 0 0 [vr 4 0, vi w] mem (zkR1 (vi (b2i (decide (mem 4 0 3 = 1 ∧ w = 1 ∧ 0 < mem 4 0 7)))) mem) := by
  refine zkCt_of hl ok_Se_isReady (by decide +kernel) rfl rfl (List.forall_mem_cons.mpr ⟨rfl, (List.forall_mem_cons.mpr ⟨rfl, fun _ h => nomatch h⟩)⟩) (Nat.le_of_ble_eq_true rfl) ?_
  refine m_aload_n rfl rfl rfl ?_
  refine m_gix (k := 3) (x := mem 4 _ 3) rfl rfl (Nat.le_of_ble_eq_true rfl) rfl rfl (by first | decide | assumption | (simp only [cnt]; omega)) (by first | rfl | (repeat (first | rw [ms_s] | rw [ms_t (by decide)] | rw [ms_k (by decide)]))) ?_
  refine m_if_eq (tgt := 22) rfl rfl rfl (by omega) (fun c4 => ?_) (fun c4 => ?_)
  · refine m_iconst rfl rfl ?_
    refine m_z0 rfl rfl rfl (Nat.le_of_ble_eq_true rfl) (Nat.le_of_ble_eq_true rfl) ?_
    first | (rw [decide_eq_true (by omega)]; exact ⟨rfl, rfl⟩) | (rw [decide_eq_false (by omega)]; exact ⟨rfl, rfl⟩)
  · refine m_iload_n rfl rfl rfl ?_
    refine m_if_eq (tgt := 22) rfl rfl rfl (by omega) (fun c8 => ?_) (fun c8 => ?_)
    · refine m_iconst rfl rfl ?_
      refine m_z0 rfl rfl rfl (Nat.le_of_ble_eq_true rfl) (Nat.le_of_ble_eq_true rfl) ?_
      first | (rw [decide_eq_true (by omega)]; exact ⟨rfl, rfl⟩) | (rw [decide_eq_false (by omega)]; exact ⟨rfl, rfl⟩)
    · refine m_aload_n rfl rfl rfl ?_
      refine m_gix (k := 7) (x := mem 4 _ 7) rfl rfl (Nat.le_of_ble_eq_true rfl) rfl rfl (by first | decide | assumption | (simp only [cnt]; omega)) (by first | rfl | (repeat (first | rw [ms_s] | rw [ms_t (by decide)] | rw [ms_k (by decide)]))) ?_
      refine m_if_le (tgt := 22) rfl rfl rfl (by omega) (fun c15 => ?_) (fun c15 => ?_)
      · refine m_iconst rfl rfl ?_
        refine m_z0 rfl rfl rfl (Nat.le_of_ble_eq_true rfl) (Nat.le_of_ble_eq_true rfl) ?_
        first | (rw [decide_eq_true (by omega)]; exact ⟨rfl, rfl⟩) | (rw [decide_eq_false (by omega)]; exact ⟨rfl, rfl⟩)
      · refine m_iconst rfl rfl ?_
        refine m_goto (tgt := 23) rfl rfl rfl ?_
        refine m_z1 rfl rfl rfl (Nat.le_of_ble_eq_true rfl) (Nat.le_of_ble_eq_true rfl) ?_
        first | (rw [decide_eq_true (by omega)]; exact ⟨rfl, rfl⟩) | (rw [decide_eq_false (by omega)]; exact ⟨rfl, rfl⟩)

def seRf (t : Int) (k : Nat) (s : zkM × Int) : zkM × Int := if s.1 11 0 k = t then (mset s.1 4 0 7 (s.1 4 0 7 + s.1 12 0 k), s.2) else (mset (mset s.1 11 0 s.2.toNat (s.1 11 0 k)) 12 0 s.2.toNat (s.1 12 0 k), s.2 + 1)
def seRp (m : zkM) (t : Int) : zkM := mset (lp (seRf t) (m 4 0 2).toNat (m, 0)).1 4 0 2 (lp (seRf t) (m 4 0 2).toNat (m, 0)).2
def seRI (m : zkM) (j : Nat) (s : zkM × Int) : Prop := s.1 4 0 2 = m 4 0 2 ∧ (0 ≤ s.2 ∧ s.2 ≤ j) ∧ ∀ k, k < 9 → inR (s.1 11 0 k)
theorem seRI_s {m : zkM} {t : Int} (h2 : 0 ≤ m 4 0 2 ∧ m 4 0 2 ≤ 9) (j : Nat) (s : zkM × Int) (hj : j < (m 4 0 2).toNat) (h : seRI m j s) : seRI m (j + 1) (seRf t j s) := by
  obtain ⟨a, b, c⟩ := h
  unfold seRf
  split
  · exact ⟨a, by dsimp only; omega, c⟩
  · refine ⟨a, by dsimp only; omega, fun k hk => ?_⟩
    dsimp only
    rw [ms_t (by decide)]
    by_cases e : k = s.2.toNat
    · subst e; rw [ms_s]; exact c j (by omega)
    · rw [ms_k e]; exact c k hk
set_option maxRecDepth 10000 in
theorem c_seRep {l : Launch} {G : zkG} {mem : zkM} (hl : l.stackTraces = false) {t : Int} (h2 : 0 ≤ mem 4 0 2 ∧ mem 4 0 2 ≤ 9) (ht : inR t) (h11 : ∀ k, k < 9 → inR (mem 11 0 k)) : zkCt l G i_Se_replenishAt 0 0 0 [vr 4 0, vi t] mem (zkR0 (seRp mem t)) := by
  refine zkCt_of hl ok_Se_replenishAt (by decide +kernel) rfl rfl (List.forall_mem_cons.mpr ⟨rfl, (List.forall_mem_cons.mpr ⟨rfl, fun _ h => nomatch h⟩)⟩) (Nat.le_of_ble_eq_true rfl) ?_
  refine m_iconst rfl rfl ?_
  refine m_istore_n rfl rfl (Nat.le_of_ble_eq_true rfl) rfl ?_
  refine m_iconst rfl rfl ?_
  refine m_istore_n rfl rfl (Nat.le_of_ble_eq_true rfl) rfl ?_
  refine zk_loop (P := fun (j : Nat) (s : zkM × Int) => zkW l G i_Se_replenishAt _ 0 0 4 [some (vr 4 0), some (vi t), some (vi s.2), some (vi j)] [] s.1) (I := seRI mem) (seRf t) (mem 4 0 2).toNat (mem, 0) ⟨rfl, by dsimp only; omega, h11⟩ (fun j s hj hI => seRI_s h2 j s hj hI) (fun j s hj hI hk => ?_) (fun hI => ?_)
  · obtain ⟨a, b, c⟩ := hI
    have a1 := c j (by omega)
    unfold seRf at hk
    refine m_iload_n rfl rfl rfl ?_
    refine m_aload_n rfl rfl rfl ?_
    refine m_gix (k := 2) (x := s.1 4 _ 2) rfl rfl (Nat.le_of_ble_eq_true rfl) rfl rfl (by first | decide | assumption | (simp only [cnt]; omega)) (by first | rfl | (repeat (first | rw [ms_s] | rw [ms_t (by decide)] | rw [ms_k (by decide)]))) ?_
    refine m_icmp_ge (tgt := 73) rfl rfl rfl (by omega) (by omega) (fun c9 => ?_) (fun c9 => ?_)
    · exfalso; omega
    · refine m_aload_n rfl rfl rfl ?_
      refine m_gr (k := 0) rfl rfl (Nat.le_of_ble_eq_true rfl) rfl rfl (by first | decide | assumption | (simp only [cnt]; omega)) ?_
      refine m_iload_n rfl rfl rfl ?_
      refine m_ialx (n := j) (y := s.1 11 _ (j)) rfl rfl (Nat.le_of_ble_eq_true rfl) rfl (by first | decide | assumption | (simp only [cnt]; omega)) (by omega) (by simp only [aln]; omega) (by first | rfl | (repeat (first | rw [ms_s] | rw [ms_t (by decide)] | rw [ms_k (by decide)]))) ?_
      refine m_iload_n rfl rfl rfl ?_
      refine m_icmp_ne (tgt := 40) rfl rfl rfl (by omega) (by omega) (fun c19 => ?_) (fun c19 => ?_)
      · refine m_aload_n rfl rfl rfl ?_
        refine m_gr (k := 0) rfl rfl (Nat.le_of_ble_eq_true rfl) rfl rfl (by first | decide | assumption | (simp only [cnt]; omega)) ?_
        refine m_iload_n rfl rfl rfl ?_
        refine m_aload_n rfl rfl rfl ?_
        refine m_gr (k := 0) rfl rfl (Nat.le_of_ble_eq_true rfl) rfl rfl (by first | decide | assumption | (simp only [cnt]; omega)) ?_
        refine m_iload_n rfl rfl rfl ?_
        refine m_ialx (n := j) (y := s.1 11 _ (j)) rfl rfl (Nat.le_of_ble_eq_true rfl) rfl (by first | decide | assumption | (simp only [cnt]; omega)) (by omega) (by simp only [aln]; omega) (by first | rfl | (repeat (first | rw [ms_s] | rw [ms_t (by decide)] | rw [ms_k (by decide)]))) ?_
        refine m_iasn (n := s.2.toNat) rfl rfl (Nat.le_of_ble_eq_true rfl) rfl (by first | decide | assumption | (simp only [cnt]; omega)) (by omega) (by simp only [aln]; omega) ?_
        refine m_aload_n rfl rfl rfl ?_
        refine m_gr (k := 1) rfl rfl (Nat.le_of_ble_eq_true rfl) rfl rfl (by first | decide | assumption | (simp only [cnt]; omega)) ?_
        refine m_iload_n rfl rfl rfl ?_
        refine m_aload_n rfl rfl rfl ?_
        refine m_gr (k := 1) rfl rfl (Nat.le_of_ble_eq_true rfl) rfl rfl (by first | decide | assumption | (simp only [cnt]; omega)) ?_
        refine m_iload_n rfl rfl rfl ?_
        refine m_ialx (n := j) (y := s.1 12 _ (j)) rfl rfl (Nat.le_of_ble_eq_true rfl) rfl (by first | decide | assumption | (simp only [cnt]; omega)) (by omega) (by simp only [aln]; omega) (by first | rfl | (repeat (first | rw [ms_s] | rw [ms_t (by decide)] | rw [ms_k (by decide)]))) ?_
        refine m_iasn (n := s.2.toNat) rfl rfl (Nat.le_of_ble_eq_true rfl) rfl (by first | decide | assumption | (simp only [cnt]; omega)) (by omega) (by simp only [aln]; omega) ?_
        refine m_iinc rfl rfl rfl (Nat.le_of_ble_eq_true rfl) rfl ?_
        refine m_iinc rfl rfl rfl (Nat.le_of_ble_eq_true rfl) rfl ?_
        refine m_goto (tgt := 4) rfl rfl rfl ?_
        first | (rw [if_pos (by omega)] at hk; exact hk) | (rw [if_neg (by omega)] at hk; exact hk)
      · refine m_aload_n rfl rfl rfl ?_
        refine m_dup rfl rfl rfl ?_
        refine m_gix (k := 7) (x := s.1 4 _ 7) rfl rfl (Nat.le_of_ble_eq_true rfl) rfl rfl (by first | decide | assumption | (simp only [cnt]; omega)) (by first | rfl | (repeat (first | rw [ms_s] | rw [ms_t (by decide)] | rw [ms_k (by decide)]))) ?_
        refine m_aload_n rfl rfl rfl ?_
        refine m_gr (k := 1) rfl rfl (Nat.le_of_ble_eq_true rfl) rfl rfl (by first | decide | assumption | (simp only [cnt]; omega)) ?_
        refine m_iload_n rfl rfl rfl ?_
        refine m_ialx (n := j) (y := s.1 12 _ (j)) rfl rfl (Nat.le_of_ble_eq_true rfl) rfl (by first | decide | assumption | (simp only [cnt]; omega)) (by omega) (by simp only [aln]; omega) (by first | rfl | (repeat (first | rw [ms_s] | rw [ms_t (by decide)] | rw [ms_k (by decide)]))) ?_
        refine m_iadd rfl rfl ?_
        refine m_pi (k := 7) rfl rfl (Nat.le_of_ble_eq_true rfl) rfl rfl rfl rfl (by first | decide | assumption | (simp only [cnt]; omega)) ?_
        refine m_goto (tgt := 67) rfl rfl rfl ?_
        refine m_iinc rfl rfl rfl (Nat.le_of_ble_eq_true rfl) rfl ?_
        refine m_goto (tgt := 4) rfl rfl rfl ?_
        first | (rw [if_pos (by omega)] at hk; exact hk) | (rw [if_neg (by omega)] at hk; exact hk)
  · obtain ⟨a, b, c⟩ := hI
    refine m_iload_n rfl rfl rfl ?_
    refine m_aload_n rfl rfl rfl ?_
    refine m_gix (k := 2) (x := (lp (seRf t) (mem 4 0 2).toNat (mem, 0)).1 4 _ 2) rfl rfl (Nat.le_of_ble_eq_true rfl) rfl rfl (by first | decide | assumption | (simp only [cnt]; omega)) (by first | rfl | (repeat (first | rw [ms_s] | rw [ms_t (by decide)] | rw [ms_k (by decide)]))) ?_
    refine m_icmp_ge (tgt := 73) rfl rfl rfl (by omega) (by omega) (fun c9 => ?_) (fun c9 => ?_)
    · refine m_aload_n rfl rfl rfl ?_
      refine m_iload_n rfl rfl rfl ?_
      refine m_pi (k := 2) rfl rfl (Nat.le_of_ble_eq_true rfl) rfl rfl rfl rfl (by first | decide | assumption | (simp only [cnt]; omega)) ?_
      refine m_vret rfl rfl rfl (Nat.le_of_ble_eq_true rfl) (Nat.le_of_ble_eq_true rfl) ?_
      exact ⟨rfl, rfl⟩
    · exfalso; omega

def seRu (m : zkM) (t : Int) : zkM := if m 4 0 8 = 0 then mset (mset (mset (mset (mset m 4 0 8 1) 4 0 9 t) 4 0 10 0) 4 0 7 (m 4 0 7 - 1)) 4 0 10 (0 + 1) else mset (mset m 4 0 7 (m 4 0 7 - 1)) 4 0 10 (m 4 0 10 + 1)
set_option maxRecDepth 10000 in
theorem c_seRun {l : Launch} {G : zkG} {mem : zkM} (hl : l.stackTraces = false) {t : Int} (h8 : mem 4 0 8 = 0 ∨ mem 4 0 8 = 1) : zkCt l G i_Se_runUnit 0 0 0 [vr 4 0, vi t] mem (zkR0 (seRu mem t)) := by
  refine zkCt_of hl ok_Se_runUnit (by decide +kernel) rfl rfl (List.forall_mem_cons.mpr ⟨rfl, (List.forall_mem_cons.mpr ⟨rfl, fun _ h => nomatch h⟩)⟩) (Nat.le_of_ble_eq_true rfl) ?_
  refine m_aload_n rfl rfl rfl ?_
  refine m_gix (k := 8) (x := mem 4 _ 8) rfl rfl (Nat.le_of_ble_eq_true rfl) rfl rfl (by first | decide | assumption | (simp only [cnt]; omega)) (by first | rfl | (repeat (first | rw [ms_s] | rw [ms_t (by decide)] | rw [ms_k (by decide)]))) ?_
  refine m_if_ne (tgt := 22) rfl rfl rfl (by omega) (fun c4 => ?_) (fun c4 => ?_)
  · refine m_aload_n rfl rfl rfl ?_
    refine m_dup rfl rfl rfl ?_
    refine m_gix (k := 7) (x := mem 4 _ 7) rfl rfl (Nat.le_of_ble_eq_true rfl) rfl rfl (by first | decide | assumption | (simp only [cnt]; omega)) (by first | rfl | (repeat (first | rw [ms_s] | rw [ms_t (by decide)] | rw [ms_k (by decide)]))) ?_
    refine m_iconst rfl rfl ?_
    refine m_isub rfl rfl ?_
    refine m_pi (k := 7) rfl rfl (Nat.le_of_ble_eq_true rfl) rfl rfl rfl rfl (by first | decide | assumption | (simp only [cnt]; omega)) ?_
    refine m_aload_n rfl rfl rfl ?_
    refine m_dup rfl rfl rfl ?_
    refine m_gix (k := 10) (x := mem 4 _ 10) rfl rfl (Nat.le_of_ble_eq_true rfl) rfl rfl (by first | decide | assumption | (simp only [cnt]; omega)) (by first | rfl | (repeat (first | rw [ms_s] | rw [ms_t (by decide)] | rw [ms_k (by decide)]))) ?_
    refine m_iconst rfl rfl ?_
    refine m_iadd rfl rfl ?_
    refine m_pi (k := 10) rfl rfl (Nat.le_of_ble_eq_true rfl) rfl rfl rfl rfl (by first | decide | assumption | (simp only [cnt]; omega)) ?_
    refine m_vret rfl rfl rfl (Nat.le_of_ble_eq_true rfl) (Nat.le_of_ble_eq_true rfl) ?_
    unfold seRu
    first | (rw [if_pos (by omega)]; exact ⟨rfl, rfl⟩) | (rw [if_neg (by omega)]; exact ⟨rfl, rfl⟩)
  · refine m_aload_n rfl rfl rfl ?_
    refine m_iconst rfl rfl ?_
    refine m_pz1 (k := 8) rfl rfl (Nat.le_of_ble_eq_true rfl) rfl rfl rfl rfl (by first | decide | assumption | (simp only [cnt]; omega)) ?_
    refine m_aload_n rfl rfl rfl ?_
    refine m_iload_n rfl rfl rfl ?_
    refine m_pi (k := 9) rfl rfl (Nat.le_of_ble_eq_true rfl) rfl rfl rfl rfl (by first | decide | assumption | (simp only [cnt]; omega)) ?_
    refine m_aload_n rfl rfl rfl ?_
    refine m_iconst rfl rfl ?_
    refine m_pi (k := 10) rfl rfl (Nat.le_of_ble_eq_true rfl) rfl rfl rfl rfl (by first | decide | assumption | (simp only [cnt]; omega)) ?_
    refine m_aload_n rfl rfl rfl ?_
    refine m_dup rfl rfl rfl ?_
    refine m_gix (k := 7) (x := mem 4 _ 7) rfl rfl (Nat.le_of_ble_eq_true rfl) rfl rfl (by first | decide | assumption | (simp only [cnt]; omega)) (by first | rfl | (repeat (first | rw [ms_s] | rw [ms_t (by decide)] | rw [ms_k (by decide)]))) ?_
    refine m_iconst rfl rfl ?_
    refine m_isub rfl rfl ?_
    refine m_pi (k := 7) rfl rfl (Nat.le_of_ble_eq_true rfl) rfl rfl rfl rfl (by first | decide | assumption | (simp only [cnt]; omega)) ?_
    refine m_aload_n rfl rfl rfl ?_
    refine m_dup rfl rfl rfl ?_
    refine m_gix (k := 10) (x := 0) rfl rfl (Nat.le_of_ble_eq_true rfl) rfl rfl (by first | decide | assumption | (simp only [cnt]; omega)) (by first | rfl | (repeat (first | rw [ms_s] | rw [ms_t (by decide)] | rw [ms_k (by decide)]))) ?_
    refine m_iconst rfl rfl ?_
    refine m_iadd rfl rfl ?_
    refine m_pi (k := 10) rfl rfl (Nat.le_of_ble_eq_true rfl) rfl rfl rfl rfl (by first | decide | assumption | (simp only [cnt]; omega)) ?_
    refine m_vret rfl rfl rfl (Nat.le_of_ble_eq_true rfl) (Nat.le_of_ble_eq_true rfl) ?_
    unfold seRu
    first | (rw [if_pos (by omega)]; exact ⟨rfl, rfl⟩) | (rw [if_neg (by omega)]; exact ⟨rfl, rfl⟩)

def seEn (m : zkM) (e w : Int) : zkM := if m 4 0 8 = 0 ∨ (m 4 0 3 = 1 ∧ w = 1 ∧ 0 < m 4 0 7) then m else if m 4 0 2 < 9 then mset (mset (mset (mset m 4 0 8 0) 11 0 (m 4 0 2).toNat (max (m 4 0 9 + m 4 0 6) e)) 12 0 (m 4 0 2).toNat (m 4 0 10)) 4 0 2 (m 4 0 2 + 1) else mset m 4 0 8 0
set_option maxRecDepth 10000 in
theorem c_seEnd {l : Launch} {G : zkG} {mem : zkM} (hl : l.stackTraces = false) {e w : Int} (h2 : 0 ≤ mem 4 0 2 ∧ mem 4 0 2 ≤ 9) (h3 : mem 4 0 3 = 0 ∨ mem 4 0 3 = 1) (h8 : mem 4 0 8 = 0 ∨ mem 4 0 8 = 1) (hw : w = 0 ∨ w = 1) (h7 : inR (mem 4 0 7)) (he : inR e) (h9 : 0 ≤ mem 4 0 9 ∧ mem 4 0 9 ≤ 1000) (h6 : 0 ≤ mem 4 0 6 ∧ mem 4 0 6 ≤ 1000) : zkCt l G i_Se_endUnit 1 0 0 [vr 4 0, vi e, vi w] mem (zkR0 (seEn mem e w)) := by
  refine zkCt_of hl ok_Se_endUnit (by decide +kernel) rfl rfl (List.forall_mem_cons.mpr ⟨rfl, (List.forall_mem_cons.mpr ⟨rfl, (List.forall_mem_cons.mpr ⟨rfl, fun _ h => nomatch h⟩)⟩)⟩) (Nat.le_of_ble_eq_true rfl) ?_
  refine m_aload_n rfl rfl rfl ?_
  refine m_gix (k := 8) (x := mem 4 _ 8) rfl rfl (Nat.le_of_ble_eq_true rfl) rfl rfl (by first | decide | assumption | (simp only [cnt]; omega)) (by first | rfl | (repeat (first | rw [ms_s] | rw [ms_t (by decide)] | rw [ms_k (by decide)]))) ?_
  refine m_if_eq (tgt := 15) rfl rfl rfl (by omega) (fun c4 => ?_) (fun c4 => ?_)
  · refine m_vret rfl rfl rfl (Nat.le_of_ble_eq_true rfl) (Nat.le_of_ble_eq_true rfl) ?_
    unfold seEn
    first | (rw [if_pos (by omega)]; exact ⟨rfl, rfl⟩) | (rw [if_neg (by omega), if_pos (by omega)]; exact ⟨rfl, rfl⟩) | (rw [if_neg (by omega), if_neg (by omega)]; exact ⟨rfl, rfl⟩)
  · refine m_aload_n rfl rfl rfl ?_
    refine m_iload_n rfl rfl rfl ?_
    refine m_cv1 rfl rfl lk_4_50 (show zkCt l G i_Se_isReady _ 0 0 _ _ (zkR1 (vi (b2i (decide (mem 4 0 3 = 1 ∧ w = 1 ∧ 0 < mem 4 0 7)))) _) from c_seReady hl h3 hw h7) rfl (by first | decide | assumption | (simp only [cnt]; omega)) (Nat.le_of_ble_eq_true rfl) rfl rfl (Nat.le_of_ble_eq_true rfl) (Nat.le_of_ble_eq_true rfl) (Nat.le_of_ble_eq_true rfl) (Nat.le_of_ble_eq_true rfl) (Nat.le_of_ble_eq_true rfl) ?_
    refine m_if_eq_d (tgt := 16) rfl rfl rfl (fun c12 => ?_) (fun c12 => ?_)
    · refine m_aload_n rfl rfl rfl ?_
      refine m_iconst rfl rfl ?_
      refine m_pz0 (k := 8) rfl rfl (Nat.le_of_ble_eq_true rfl) rfl rfl rfl rfl (by first | decide | assumption | (simp only [cnt]; omega)) ?_
      refine m_aload_n rfl rfl rfl ?_
      refine m_gix (k := 2) (x := mem 4 _ 2) rfl rfl (Nat.le_of_ble_eq_true rfl) rfl rfl (by first | decide | assumption | (simp only [cnt]; omega)) (by first | rfl | (repeat (first | rw [ms_s] | rw [ms_t (by decide)] | rw [ms_k (by decide)]))) ?_
      refine m_bipush rfl rfl (by decide) ?_
      refine m_icmp_ge (tgt := 75) rfl rfl rfl (by omega) (by omega) (fun c27 => ?_) (fun c27 => ?_)
      · refine m_vret rfl rfl rfl (Nat.le_of_ble_eq_true rfl) (Nat.le_of_ble_eq_true rfl) ?_
        unfold seEn
        first | (rw [if_pos (by omega)]; exact ⟨rfl, rfl⟩) | (rw [if_neg (by omega), if_pos (by omega)]; exact ⟨rfl, rfl⟩) | (rw [if_neg (by omega), if_neg (by omega)]; exact ⟨rfl, rfl⟩)
      · refine m_aload_n rfl rfl rfl ?_
        refine m_gr (k := 0) rfl rfl (Nat.le_of_ble_eq_true rfl) rfl rfl (by first | decide | assumption | (simp only [cnt]; omega)) ?_
        refine m_aload_n rfl rfl rfl ?_
        refine m_gix (k := 2) (x := mem 4 _ 2) rfl rfl (Nat.le_of_ble_eq_true rfl) rfl rfl (by first | decide | assumption | (simp only [cnt]; omega)) (by first | rfl | (repeat (first | rw [ms_s] | rw [ms_t (by decide)] | rw [ms_k (by decide)]))) ?_
        refine m_aload_n rfl rfl rfl ?_
        refine m_gix (k := 9) (x := mem 4 _ 9) rfl rfl (Nat.le_of_ble_eq_true rfl) rfl rfl (by first | decide | assumption | (simp only [cnt]; omega)) (by first | rfl | (repeat (first | rw [ms_s] | rw [ms_t (by decide)] | rw [ms_k (by decide)]))) ?_
        refine m_aload_n rfl rfl rfl ?_
        refine m_gix (k := 6) (x := mem 4 _ 6) rfl rfl (Nat.le_of_ble_eq_true rfl) rfl rfl (by first | decide | assumption | (simp only [cnt]; omega)) (by first | rfl | (repeat (first | rw [ms_s] | rw [ms_t (by decide)] | rw [ms_k (by decide)]))) ?_
        refine m_iadd rfl rfl ?_
        refine m_iload_n rfl rfl rfl ?_
        refine m_max rfl rfl (by decide +kernel) (by omega) (by omega) (Nat.le_of_ble_eq_true rfl) (Nat.le_of_ble_eq_true rfl) (Nat.le_of_ble_eq_true rfl) (Nat.le_of_ble_eq_true rfl) ?_
        refine m_iasn (n := (mem 4 0 2).toNat) rfl rfl (Nat.le_of_ble_eq_true rfl) rfl (by first | decide | assumption | (simp only [cnt]; omega)) (by omega) (by simp only [aln]; omega) ?_
        refine m_aload_n rfl rfl rfl ?_
        refine m_gr (k := 1) rfl rfl (Nat.le_of_ble_eq_true rfl) rfl rfl (by first | decide | assumption | (simp only [cnt]; omega)) ?_
        refine m_aload_n rfl rfl rfl ?_
        refine m_gix (k := 2) (x := mem 4 _ 2) rfl rfl (Nat.le_of_ble_eq_true rfl) rfl rfl (by first | decide | assumption | (simp only [cnt]; omega)) (by first | rfl | (repeat (first | rw [ms_s] | rw [ms_t (by decide)] | rw [ms_k (by decide)]))) ?_
        refine m_aload_n rfl rfl rfl ?_
        refine m_gix (k := 10) (x := mem 4 _ 10) rfl rfl (Nat.le_of_ble_eq_true rfl) rfl rfl (by first | decide | assumption | (simp only [cnt]; omega)) (by first | rfl | (repeat (first | rw [ms_s] | rw [ms_t (by decide)] | rw [ms_k (by decide)]))) ?_
        refine m_iasn (n := (mem 4 0 2).toNat) rfl rfl (Nat.le_of_ble_eq_true rfl) rfl (by first | decide | assumption | (simp only [cnt]; omega)) (by omega) (by simp only [aln]; omega) ?_
        refine m_aload_n rfl rfl rfl ?_
        refine m_dup rfl rfl rfl ?_
        refine m_gix (k := 2) (x := mem 4 _ 2) rfl rfl (Nat.le_of_ble_eq_true rfl) rfl rfl (by first | decide | assumption | (simp only [cnt]; omega)) (by first | rfl | (repeat (first | rw [ms_s] | rw [ms_t (by decide)] | rw [ms_k (by decide)]))) ?_
        refine m_iconst rfl rfl ?_
        refine m_iadd rfl rfl ?_
        refine m_pi (k := 2) rfl rfl (Nat.le_of_ble_eq_true rfl) rfl rfl rfl rfl (by first | decide | assumption | (simp only [cnt]; omega)) ?_
        refine m_vret rfl rfl rfl (Nat.le_of_ble_eq_true rfl) (Nat.le_of_ble_eq_true rfl) ?_
        unfold seEn
        first | (rw [if_pos (by omega)]; exact ⟨rfl, rfl⟩) | (rw [if_neg (by omega), if_pos (by omega)]; exact ⟨rfl, rfl⟩) | (rw [if_neg (by omega), if_neg (by omega)]; exact ⟨rfl, rfl⟩)
    · refine m_vret rfl rfl rfl (Nat.le_of_ble_eq_true rfl) (Nat.le_of_ble_eq_true rfl) ?_
      unfold seEn
      first | (rw [if_pos (by omega)]; exact ⟨rfl, rfl⟩) | (rw [if_neg (by omega), if_pos (by omega)]; exact ⟨rfl, rfl⟩) | (rw [if_neg (by omega), if_neg (by omega)]; exact ⟨rfl, rfl⟩)

def seNx (m : zkM) : Int := if 0 < m 4 0 2 then m 11 0 0 else -1
set_option maxRecDepth 10000 in
theorem c_seNext {l : Launch} {G : zkG} {mem : zkM} (hl : l.stackTraces = false) (h2 : inR (mem 4 0 2)) : zkCt l G i_Se_nextPlan 0 0 0 [vr 4 0] mem (zkR1 (vi (seNx mem)) mem) := by
  refine zkCt_of hl ok_Se_nextPlan (by decide +kernel) rfl rfl (List.forall_mem_cons.mpr ⟨rfl, fun _ h => nomatch h⟩) (Nat.le_of_ble_eq_true rfl) ?_
  refine m_aload_n rfl rfl rfl ?_
  refine m_gix (k := 2) (x := mem 4 _ 2) rfl rfl (Nat.le_of_ble_eq_true rfl) rfl rfl (by first | decide | assumption | (simp only [cnt]; omega)) (by first | rfl | (repeat (first | rw [ms_s] | rw [ms_t (by decide)] | rw [ms_k (by decide)]))) ?_
  refine m_if_le (tgt := 16) rfl rfl rfl (by omega) (fun c4 => ?_) (fun c4 => ?_)
  · refine m_iconst rfl rfl ?_
    refine m_iret rfl rfl rfl (Nat.le_of_ble_eq_true rfl) (Nat.le_of_ble_eq_true rfl) ?_
    unfold seNx
    first | (rw [if_pos (by omega)]; exact ⟨rfl, rfl⟩) | (rw [if_neg (by omega)]; exact ⟨rfl, rfl⟩)
  · refine m_aload_n rfl rfl rfl ?_
    refine m_gr (k := 0) rfl rfl (Nat.le_of_ble_eq_true rfl) rfl rfl (by first | decide | assumption | (simp only [cnt]; omega)) ?_
    refine m_iconst rfl rfl ?_
    refine m_ialx (n := 0) (y := mem 11 _ (0)) rfl rfl (Nat.le_of_ble_eq_true rfl) rfl (by first | decide | assumption | (simp only [cnt]; omega)) (by omega) (by simp only [aln]; omega) (by first | rfl | (repeat (first | rw [ms_s] | rw [ms_t (by decide)] | rw [ms_k (by decide)]))) ?_
    refine m_goto (tgt := 17) rfl rfl rfl ?_
    refine m_iret rfl rfl rfl (Nat.le_of_ble_eq_true rfl) (Nat.le_of_ble_eq_true rfl) ?_
    unfold seNx
    first | (rw [if_pos (by omega)]; exact ⟨rfl, rfl⟩) | (rw [if_neg (by omega)]; exact ⟨rfl, rfl⟩)

