/-! the class: a task -/
def taZ (n : Nat) (k : Nat) (s : zkM) : zkM := mset s 22 n k 0
def taSt (m : zkM) (n : Nat) : zkM := lp (taZ n) 6 (mset (mset (mset (mset (mset (mset (mset m 1 n 1 0) 1 n 2 0) 5 n 10 (m 5 n 7)) 5 n 11 0) 5 n 12 0) 5 n 13 0) 5 n 14 0)
set_option maxRecDepth 10000 in
theorem c_taStart {l : Launch} {G : zkG} {mem : zkM} (hl : l.stackTraces = false) {n : Nat} (hn : n < 10) : zkCt l G i_Ta_startAgain 1 0 0 [vr 5 n] mem (zkR0 (taSt mem n)) := by
  refine zkCt_of hl ok_Ta_startAgain (by decide +kernel) rfl rfl (List.forall_mem_cons.mpr ⟨rfl, fun _ h => nomatch h⟩) (Nat.le_of_ble_eq_true rfl) ?_
  refine m_aload_n rfl rfl rfl ?_
  refine m_gr (k := 2) rfl rfl (Nat.le_of_ble_eq_true rfl) rfl rfl (by first | decide | assumption | (simp only [cnt]; omega)) ?_
  refine m_cv0 rfl rfl lk_5_50 (c_joRemoveAll hl (by omega)) rfl (by first | decide | assumption | (simp only [cnt]; omega)) (Nat.le_of_ble_eq_true rfl) rfl rfl (Nat.le_of_ble_eq_true rfl) (Nat.le_of_ble_eq_true rfl) (Nat.le_of_ble_eq_true rfl) (Nat.le_of_ble_eq_true rfl) (Nat.le_of_ble_eq_true rfl) ?_
  refine m_aload_n rfl rfl rfl ?_
  refine m_aload_n rfl rfl rfl ?_
  refine m_gix (k := 7) (x := mem 5 n 7) rfl rfl (Nat.le_of_ble_eq_true rfl) rfl rfl (by first | decide | assumption | (simp only [cnt]; omega)) (by first | rfl | (repeat (first | rw [ms_s] | rw [ms_t (by decide)] | rw [ms_k (by decide)]))) ?_
  refine m_pi (k := 10) rfl rfl (Nat.le_of_ble_eq_true rfl) rfl rfl rfl rfl (by first | decide | assumption | (simp only [cnt]; omega)) ?_
  refine m_aload_n rfl rfl rfl ?_
  refine m_iconst rfl rfl ?_
  refine m_pz0 (k := 11) rfl rfl (Nat.le_of_ble_eq_true rfl) rfl rfl rfl rfl (by first | decide | assumption | (simp only [cnt]; omega)) ?_
  refine m_aload_n rfl rfl rfl ?_
  refine m_iconst rfl rfl ?_
  refine m_pi (k := 12) rfl rfl (Nat.le_of_ble_eq_true rfl) rfl rfl rfl rfl (by first | decide | assumption | (simp only [cnt]; omega)) ?_
  refine m_aload_n rfl rfl rfl ?_
  refine m_iconst rfl rfl ?_
  refine m_pi (k := 13) rfl rfl (Nat.le_of_ble_eq_true rfl) rfl rfl rfl rfl (by first | decide | assumption | (simp only [cnt]; omega)) ?_
  refine m_aload_n rfl rfl rfl ?_
  refine m_iconst rfl rfl ?_
  refine m_pi (k := 14) rfl rfl (Nat.le_of_ble_eq_true rfl) rfl rfl rfl rfl (by first | decide | assumption | (simp only [cnt]; omega)) ?_
  refine m_iconst rfl rfl ?_
  refine m_istore_n rfl rfl (Nat.le_of_ble_eq_true rfl) rfl ?_
  refine zk_loop (P := fun (j : Nat) (s : zkM) => zkW l G i_Ta_startAgain _ 0 0 37 [some (vr 5 n), some (vi j)] [] s) (I := fun _ _ => True) (taZ n) 6 _ trivial (fun _ _ _ _ => trivial) (fun j s hj _ hk => ?_) (fun _ => ?_)
  · refine m_iload_n rfl rfl rfl ?_
    refine m_aload_n rfl rfl rfl ?_
    refine m_gr (k := 3) rfl rfl (Nat.le_of_ble_eq_true rfl) rfl rfl (by first | decide | assumption | (simp only [cnt]; omega)) ?_
    refine m_alen rfl rfl (Nat.le_of_ble_eq_true rfl) (Or.inl rfl) (by first | decide | assumption | (simp only [cnt]; omega)) ?_
    refine m_icmp_ge (tgt := 59) rfl rfl rfl (by omega) (by decide) (fun c43 => ?_) (fun c43 => ?_)
    · exfalso; simp only [aln] at c43; omega
    · refine m_aload_n rfl rfl rfl ?_
      refine m_gr (k := 3) rfl rfl (Nat.le_of_ble_eq_true rfl) rfl rfl (by first | decide | assumption | (simp only [cnt]; omega)) ?_
      refine m_iload_n rfl rfl rfl ?_
      refine m_iconst rfl rfl ?_
      refine m_iasn (n := j) rfl rfl (Nat.le_of_ble_eq_true rfl) rfl (by first | decide | assumption | (simp only [cnt]; omega)) (by omega) (by simp only [aln]; omega) ?_
      refine m_iinc rfl rfl rfl (Nat.le_of_ble_eq_true rfl) rfl ?_
      refine m_goto (tgt := 37) rfl rfl rfl ?_
      exact hk
  · refine m_iload_n rfl rfl rfl ?_
    refine m_aload_n rfl rfl rfl ?_
    refine m_gr (k := 3) rfl rfl (Nat.le_of_ble_eq_true rfl) rfl rfl (by first | decide | assumption | (simp only [cnt]; omega)) ?_
    refine m_alen rfl rfl (Nat.le_of_ble_eq_true rfl) (Or.inl rfl) (by first | decide | assumption | (simp only [cnt]; omega)) ?_
    refine m_icmp_ge (tgt := 59) rfl rfl rfl (by omega) (by decide) (fun c43 => ?_) (fun c43 => ?_)
    · refine m_vret rfl rfl rfl (Nat.le_of_ble_eq_true rfl) (Nat.le_of_ble_eq_true rfl) ?_
      exact ⟨rfl, rfl⟩
    · exfalso; simp only [aln] at c43; omega

def taBg (m : zkM) (n : Nat) (p pe dl of : Int) : zkM := taSt (mset (mset (mset (mset (mset (mset m 5 n 4 p) 5 n 5 pe) 5 n 6 dl) 5 n 7 of) 5 n 8 0) 5 n 9 0) n
set_option maxRecDepth 10000 in
theorem c_taBegin {l : Launch} {G : zkG} {mem : zkM} (hl : l.stackTraces = false) {n : Nat} {p pe dl of : Int} (hn : n < 10) : zkCt l G i_Ta_begin 2 0 0 [vr 5 n, vi p, vi pe, vi dl, vi of] mem (zkR0 (taBg mem n p pe dl of)) := by
  refine zkCt_of hl ok_Ta_begin (by decide +kernel) rfl rfl (List.forall_mem_cons.mpr ⟨rfl, (List.forall_mem_cons.mpr ⟨rfl, (List.forall_mem_cons.mpr ⟨rfl, (List.forall_mem_cons.mpr ⟨rfl, (List.forall_mem_cons.mpr ⟨rfl, fun _ h => nomatch h⟩)⟩)⟩)⟩)⟩) (Nat.le_of_ble_eq_true rfl) ?_
  refine m_aload_n rfl rfl rfl ?_
  refine m_iload_n rfl rfl rfl ?_
  refine m_pi (k := 4) rfl rfl (Nat.le_of_ble_eq_true rfl) rfl rfl rfl rfl (by first | decide | assumption | (simp only [cnt]; omega)) ?_
  refine m_aload_n rfl rfl rfl ?_
  refine m_iload_n rfl rfl rfl ?_
  refine m_pi (k := 5) rfl rfl (Nat.le_of_ble_eq_true rfl) rfl rfl rfl rfl (by first | decide | assumption | (simp only [cnt]; omega)) ?_
  refine m_aload_n rfl rfl rfl ?_
  refine m_iload_n rfl rfl rfl ?_
  refine m_pi (k := 6) rfl rfl (Nat.le_of_ble_eq_true rfl) rfl rfl rfl rfl (by first | decide | assumption | (simp only [cnt]; omega)) ?_
  refine m_aload_n rfl rfl rfl ?_
  refine m_iload rfl rfl rfl ?_
  refine m_pi (k := 7) rfl rfl (Nat.le_of_ble_eq_true rfl) rfl rfl rfl rfl (by first | decide | assumption | (simp only [cnt]; omega)) ?_
  refine m_aload_n rfl rfl rfl ?_
  refine m_iconst rfl rfl ?_
  refine m_pi (k := 8) rfl rfl (Nat.le_of_ble_eq_true rfl) rfl rfl rfl rfl (by first | decide | assumption | (simp only [cnt]; omega)) ?_
  refine m_aload_n rfl rfl rfl ?_
  refine m_iconst rfl rfl ?_
  refine m_pi (k := 9) rfl rfl (Nat.le_of_ble_eq_true rfl) rfl rfl rfl rfl (by first | decide | assumption | (simp only [cnt]; omega)) ?_
  refine m_aload_n rfl rfl rfl ?_
  refine m_cv0 rfl rfl lk_5_47 (c_taStart hl (by omega)) rfl (by first | decide | assumption | (simp only [cnt]; omega)) (Nat.le_of_ble_eq_true rfl) rfl rfl (Nat.le_of_ble_eq_true rfl) (Nat.le_of_ble_eq_true rfl) (Nat.le_of_ble_eq_true rfl) (Nat.le_of_ble_eq_true rfl) (Nat.le_of_ble_eq_true rfl) ?_
  refine m_vret rfl rfl rfl (Nat.le_of_ble_eq_true rfl) (Nat.le_of_ble_eq_true rfl) ?_
  exact ⟨rfl, rfl⟩

def taAp (m : zkM) (n : Nat) (r le : Int) : zkM := if m 5 n 8 < 6 then mset (mset (mset (mset m 19 n (m 5 n 8).toNat r) 20 n (m 5 n 8).toNat le) 5 n 8 (m 5 n 8 + 1)) 5 n 9 (m 5 n 9 + le) else m
set_option maxRecDepth 10000 in
theorem c_taAdd {l : Launch} {G : zkG} {mem : zkM} (hl : l.stackTraces = false) {n : Nat} {r le : Int} (hn : n < 10) (h8 : 0 ≤ mem 5 n 8 ∧ mem 5 n 8 ≤ 6) : zkCt l G i_Ta_addPart 0 0 0 [vr 5 n, vi r, vi le] mem (zkR0 (taAp mem n r le)) := by
  refine zkCt_of hl ok_Ta_addPart (by decide +kernel) rfl rfl (List.forall_mem_cons.mpr ⟨rfl, (List.forall_mem_cons.mpr ⟨rfl, (List.forall_mem_cons.mpr ⟨rfl, fun _ h => nomatch h⟩)⟩)⟩) (Nat.le_of_ble_eq_true rfl) ?_
  refine m_aload_n rfl rfl rfl ?_
  refine m_gix (k := 8) (x := mem 5 n 8) rfl rfl (Nat.le_of_ble_eq_true rfl) rfl rfl (by first | decide | assumption | (simp only [cnt]; omega)) (by first | rfl | (repeat (first | rw [ms_s] | rw [ms_t (by decide)] | rw [ms_k (by decide)]))) ?_
  refine m_bipush rfl rfl (by decide) ?_
  refine m_icmp_ge (tgt := 49) rfl rfl rfl (by omega) (by omega) (fun c6 => ?_) (fun c6 => ?_)
  · refine m_vret rfl rfl rfl (Nat.le_of_ble_eq_true rfl) (Nat.le_of_ble_eq_true rfl) ?_
    unfold taAp
    first | (rw [if_pos (by omega)]; exact ⟨rfl, rfl⟩) | (rw [if_neg (by omega)]; exact ⟨rfl, rfl⟩)
  · refine m_aload_n rfl rfl rfl ?_
    refine m_gr (k := 0) rfl rfl (Nat.le_of_ble_eq_true rfl) rfl rfl (by first | decide | assumption | (simp only [cnt]; omega)) ?_
    refine m_aload_n rfl rfl rfl ?_
    refine m_gix (k := 8) (x := mem 5 n 8) rfl rfl (Nat.le_of_ble_eq_true rfl) rfl rfl (by first | decide | assumption | (simp only [cnt]; omega)) (by first | rfl | (repeat (first | rw [ms_s] | rw [ms_t (by decide)] | rw [ms_k (by decide)]))) ?_
    refine m_iload_n rfl rfl rfl ?_
    refine m_iasn (n := (mem 5 n 8).toNat) rfl rfl (Nat.le_of_ble_eq_true rfl) rfl (by first | decide | assumption | (simp only [cnt]; omega)) (by omega) (by simp only [aln]; omega) ?_
    refine m_aload_n rfl rfl rfl ?_
    refine m_gr (k := 1) rfl rfl (Nat.le_of_ble_eq_true rfl) rfl rfl (by first | decide | assumption | (simp only [cnt]; omega)) ?_
    refine m_aload_n rfl rfl rfl ?_
    refine m_gix (k := 8) (x := mem 5 n 8) rfl rfl (Nat.le_of_ble_eq_true rfl) rfl rfl (by first | decide | assumption | (simp only [cnt]; omega)) (by first | rfl | (repeat (first | rw [ms_s] | rw [ms_t (by decide)] | rw [ms_k (by decide)]))) ?_
    refine m_iload_n rfl rfl rfl ?_
    refine m_iasn (n := (mem 5 n 8).toNat) rfl rfl (Nat.le_of_ble_eq_true rfl) rfl (by first | decide | assumption | (simp only [cnt]; omega)) (by omega) (by simp only [aln]; omega) ?_
    refine m_aload_n rfl rfl rfl ?_
    refine m_dup rfl rfl rfl ?_
    refine m_gix (k := 8) (x := mem 5 n 8) rfl rfl (Nat.le_of_ble_eq_true rfl) rfl rfl (by first | decide | assumption | (simp only [cnt]; omega)) (by first | rfl | (repeat (first | rw [ms_s] | rw [ms_t (by decide)] | rw [ms_k (by decide)]))) ?_
    refine m_iconst rfl rfl ?_
    refine m_iadd rfl rfl ?_
    refine m_pi (k := 8) rfl rfl (Nat.le_of_ble_eq_true rfl) rfl rfl rfl rfl (by first | decide | assumption | (simp only [cnt]; omega)) ?_
    refine m_aload_n rfl rfl rfl ?_
    refine m_dup rfl rfl rfl ?_
    refine m_gix (k := 9) (x := mem 5 n 9) rfl rfl (Nat.le_of_ble_eq_true rfl) rfl rfl (by first | decide | assumption | (simp only [cnt]; omega)) (by first | rfl | (repeat (first | rw [ms_s] | rw [ms_t (by decide)] | rw [ms_k (by decide)]))) ?_
    refine m_iload_n rfl rfl rfl ?_
    refine m_iadd rfl rfl ?_
    refine m_pi (k := 9) rfl rfl (Nat.le_of_ble_eq_true rfl) rfl rfl rfl rfl (by first | decide | assumption | (simp only [cnt]; omega)) ?_
    refine m_vret rfl rfl rfl (Nat.le_of_ble_eq_true rfl) (Nat.le_of_ble_eq_true rfl) ?_
    unfold taAp
    first | (rw [if_pos (by omega)]; exact ⟨rfl, rfl⟩) | (rw [if_neg (by omega)]; exact ⟨rfl, rfl⟩)

def taPr (m : zkM) (n : Nat) (w : Int) : Int := if w = 0 then m 5 n 4 else if w = 1 then m 5 n 5 else if w = 2 then m 5 n 6 else if w = 3 then m 5 n 7 else if w = 4 then m 5 n 8 else m 5 n 9
set_option maxRecDepth 10000 in
theorem c_taProp {l : Launch} {G : zkG} {mem : zkM} (hl : l.stackTraces = false) {n : Nat} {w : Int} (hn : n < 10) (hw : inR w) : zkCt l G i_Ta_property 0 0 0 [vr 5 n, vi w] mem (zkR1 (vi (taPr mem n w)) mem) := by
  refine zkCt_of hl ok_Ta_property (by decide +kernel) rfl rfl (List.forall_mem_cons.mpr ⟨rfl, (List.forall_mem_cons.mpr ⟨rfl, fun _ h => nomatch h⟩)⟩) (Nat.le_of_ble_eq_true rfl) ?_
  refine m_iload_n rfl rfl rfl ?_
  rcases (show w = 0 ∨ w = 1 ∨ w = 2 ∨ w = 3 ∨ w = 4 ∨ (w < 0 ∨ 4 < w) by omega) with c1 | c1 | c1 | c1 | c1 | c1
  · refine m_swIn (off := 35) (tgt := 36) (len := 35) rfl rfl (by omega) (by omega) (by omega) (by rw [c1]; rfl) rfl ?_
    refine m_aload_n rfl rfl rfl ?_
    refine m_gix (k := 4) (x := mem 5 n 4) rfl rfl (Nat.le_of_ble_eq_true rfl) rfl rfl (by first | decide | assumption | (simp only [cnt]; omega)) (by first | rfl | (repeat (first | rw [ms_s] | rw [ms_t (by decide)] | rw [ms_k (by decide)]))) ?_
    refine m_iret rfl rfl rfl (Nat.le_of_ble_eq_true rfl) (Nat.le_of_ble_eq_true rfl) ?_
    unfold taPr
    first | (rw [if_pos (by omega)]; exact ⟨rfl, rfl⟩) | (rw [if_neg (by omega), if_pos (by omega)]; exact ⟨rfl, rfl⟩) | (rw [if_neg (by omega), if_neg (by omega), if_pos (by omega)]; exact ⟨rfl, rfl⟩) | (rw [if_neg (by omega), if_neg (by omega), if_neg (by omega), if_pos (by omega)]; exact ⟨rfl, rfl⟩) | (rw [if_neg (by omega), if_neg (by omega), if_neg (by omega), if_neg (by omega), if_pos (by omega)]; exact ⟨rfl, rfl⟩) | (rw [if_neg (by omega), if_neg (by omega), if_neg (by omega), if_neg (by omega), if_neg (by omega)]; exact ⟨rfl, rfl⟩)
  · refine m_swIn (off := 40) (tgt := 41) (len := 35) rfl rfl (by omega) (by omega) (by omega) (by rw [c1]; rfl) rfl ?_
    refine m_aload_n rfl rfl rfl ?_
    refine m_gix (k := 5) (x := mem 5 n 5) rfl rfl (Nat.le_of_ble_eq_true rfl) rfl rfl (by first | decide | assumption | (simp only [cnt]; omega)) (by first | rfl | (repeat (first | rw [ms_s] | rw [ms_t (by decide)] | rw [ms_k (by decide)]))) ?_
    refine m_iret rfl rfl rfl (Nat.le_of_ble_eq_true rfl) (Nat.le_of_ble_eq_true rfl) ?_
    unfold taPr
    first | (rw [if_pos (by omega)]; exact ⟨rfl, rfl⟩) | (rw [if_neg (by omega), if_pos (by omega)]; exact ⟨rfl, rfl⟩) | (rw [if_neg (by omega), if_neg (by omega), if_pos (by omega)]; exact ⟨rfl, rfl⟩) | (rw [if_neg (by omega), if_neg (by omega), if_neg (by omega), if_pos (by omega)]; exact ⟨rfl, rfl⟩) | (rw [if_neg (by omega), if_neg (by omega), if_neg (by omega), if_neg (by omega), if_pos (by omega)]; exact ⟨rfl, rfl⟩) | (rw [if_neg (by omega), if_neg (by omega), if_neg (by omega), if_neg (by omega), if_neg (by omega)]; exact ⟨rfl, rfl⟩)
  · refine m_swIn (off := 45) (tgt := 46) (len := 35) rfl rfl (by omega) (by omega) (by omega) (by rw [c1]; rfl) rfl ?_
    refine m_aload_n rfl rfl rfl ?_
    refine m_gix (k := 6) (x := mem 5 n 6) rfl rfl (Nat.le_of_ble_eq_true rfl) rfl rfl (by first | decide | assumption | (simp only [cnt]; omega)) (by first | rfl | (repeat (first | rw [ms_s] | rw [ms_t (by decide)] | rw [ms_k (by decide)]))) ?_
    refine m_iret rfl rfl rfl (Nat.le_of_ble_eq_true rfl) (Nat.le_of_ble_eq_true rfl) ?_
    unfold taPr
    first | (rw [if_pos (by omega)]; exact ⟨rfl, rfl⟩) | (rw [if_neg (by omega), if_pos (by omega)]; exact ⟨rfl, rfl⟩) | (rw [if_neg (by omega), if_neg (by omega), if_pos (by omega)]; exact ⟨rfl, rfl⟩) | (rw [if_neg (by omega), if_neg (by omega), if_neg (by omega), if_pos (by omega)]; exact ⟨rfl, rfl⟩) | (rw [if_neg (by omega), if_neg (by omega), if_neg (by omega), if_neg (by omega), if_pos (by omega)]; exact ⟨rfl, rfl⟩) | (rw [if_neg (by omega), if_neg (by omega), if_neg (by omega), if_neg (by omega), if_neg (by omega)]; exact ⟨rfl, rfl⟩)
  · refine m_swIn (off := 50) (tgt := 51) (len := 35) rfl rfl (by omega) (by omega) (by omega) (by rw [c1]; rfl) rfl ?_
    refine m_aload_n rfl rfl rfl ?_
    refine m_gix (k := 7) (x := mem 5 n 7) rfl rfl (Nat.le_of_ble_eq_true rfl) rfl rfl (by first | decide | assumption | (simp only [cnt]; omega)) (by first | rfl | (repeat (first | rw [ms_s] | rw [ms_t (by decide)] | rw [ms_k (by decide)]))) ?_
    refine m_iret rfl rfl rfl (Nat.le_of_ble_eq_true rfl) (Nat.le_of_ble_eq_true rfl) ?_
    unfold taPr
    first | (rw [if_pos (by omega)]; exact ⟨rfl, rfl⟩) | (rw [if_neg (by omega), if_pos (by omega)]; exact ⟨rfl, rfl⟩) | (rw [if_neg (by omega), if_neg (by omega), if_pos (by omega)]; exact ⟨rfl, rfl⟩) | (rw [if_neg (by omega), if_neg (by omega), if_neg (by omega), if_pos (by omega)]; exact ⟨rfl, rfl⟩) | (rw [if_neg (by omega), if_neg (by omega), if_neg (by omega), if_neg (by omega), if_pos (by omega)]; exact ⟨rfl, rfl⟩) | (rw [if_neg (by omega), if_neg (by omega), if_neg (by omega), if_neg (by omega), if_neg (by omega)]; exact ⟨rfl, rfl⟩)
  · refine m_swIn (off := 55) (tgt := 56) (len := 35) rfl rfl (by omega) (by omega) (by omega) (by rw [c1]; rfl) rfl ?_
    refine m_aload_n rfl rfl rfl ?_
    refine m_gix (k := 8) (x := mem 5 n 8) rfl rfl (Nat.le_of_ble_eq_true rfl) rfl rfl (by first | decide | assumption | (simp only [cnt]; omega)) (by first | rfl | (repeat (first | rw [ms_s] | rw [ms_t (by decide)] | rw [ms_k (by decide)]))) ?_
    refine m_iret rfl rfl rfl (Nat.le_of_ble_eq_true rfl) (Nat.le_of_ble_eq_true rfl) ?_
    unfold taPr
    first | (rw [if_pos (by omega)]; exact ⟨rfl, rfl⟩) | (rw [if_neg (by omega), if_pos (by omega)]; exact ⟨rfl, rfl⟩) | (rw [if_neg (by omega), if_neg (by omega), if_pos (by omega)]; exact ⟨rfl, rfl⟩) | (rw [if_neg (by omega), if_neg (by omega), if_neg (by omega), if_pos (by omega)]; exact ⟨rfl, rfl⟩) | (rw [if_neg (by omega), if_neg (by omega), if_neg (by omega), if_neg (by omega), if_pos (by omega)]; exact ⟨rfl, rfl⟩) | (rw [if_neg (by omega), if_neg (by omega), if_neg (by omega), if_neg (by omega), if_neg (by omega)]; exact ⟨rfl, rfl⟩)
  · refine m_swOut (tgt := 61) (len := 35) rfl rfl (by omega) (by omega) rfl ?_
    refine m_aload_n rfl rfl rfl ?_
    refine m_gix (k := 9) (x := mem 5 n 9) rfl rfl (Nat.le_of_ble_eq_true rfl) rfl rfl (by first | decide | assumption | (simp only [cnt]; omega)) (by first | rfl | (repeat (first | rw [ms_s] | rw [ms_t (by decide)] | rw [ms_k (by decide)]))) ?_
    refine m_iret rfl rfl rfl (Nat.le_of_ble_eq_true rfl) (Nat.le_of_ble_eq_true rfl) ?_
    unfold taPr
    first | (rw [if_pos (by omega)]; exact ⟨rfl, rfl⟩) | (rw [if_neg (by omega), if_pos (by omega)]; exact ⟨rfl, rfl⟩) | (rw [if_neg (by omega), if_neg (by omega), if_pos (by omega)]; exact ⟨rfl, rfl⟩) | (rw [if_neg (by omega), if_neg (by omega), if_neg (by omega), if_pos (by omega)]; exact ⟨rfl, rfl⟩) | (rw [if_neg (by omega), if_neg (by omega), if_neg (by omega), if_neg (by omega), if_pos (by omega)]; exact ⟨rfl, rfl⟩) | (rw [if_neg (by omega), if_neg (by omega), if_neg (by omega), if_neg (by omega), if_neg (by omega)]; exact ⟨rfl, rfl⟩)

def taRl (m : zkM) (n : Nat) (t : Int) : zkM := if m 5 n 8 = 0 ∨ t ≠ m 5 n 10 then m else if m 5 n 11 = 0 then joAdd (mset m 5 n 10 (m 5 n 10 + m 5 n 5)) n t else mset (mset (mset m 5 n 10 (m 5 n 10 + m 5 n 5)) 5 n 11 0) 22 n 3 (m 22 n 3 + 1)
set_option maxRecDepth 10000 in
theorem c_taRelease {l : Launch} {G : zkG} {mem : zkM} (hl : l.stackTraces = false) {n : Nat} {t : Int} (hn : n < 10) (hJ : joB mem n) (ht : inR t) (h8 : inR (mem 5 n 8)) (h10 : inR (mem 5 n 10)) (h11 : mem 5 n 11 = 0 ∨ mem 5 n 11 = 1) : zkCt l G i_Ta_releaseAt 1 0 0 [vr 5 n, vi t] mem (zkR0 (taRl mem n t)) := by
  refine zkCt_of hl ok_Ta_releaseAt (by decide +kernel) rfl rfl (List.forall_mem_cons.mpr ⟨rfl, (List.forall_mem_cons.mpr ⟨rfl, fun _ h => nomatch h⟩)⟩) (Nat.le_of_ble_eq_true rfl) ?_
  refine m_aload_n rfl rfl rfl ?_
  refine m_gix (k := 8) (x := mem 5 n 8) rfl rfl (Nat.le_of_ble_eq_true rfl) rfl rfl (by first | decide | assumption | (simp only [cnt]; omega)) (by first | rfl | (repeat (first | rw [ms_s] | rw [ms_t (by decide)] | rw [ms_k (by decide)]))) ?_
  refine m_if_eq (tgt := 15) rfl rfl rfl (by omega) (fun c4 => ?_) (fun c4 => ?_)
  · refine m_vret rfl rfl rfl (Nat.le_of_ble_eq_true rfl) (Nat.le_of_ble_eq_true rfl) ?_
    unfold taRl
    first | (rw [if_pos (by omega)]; exact ⟨rfl, rfl⟩) | (rw [if_neg (by omega), if_pos (by omega)]; exact ⟨rfl, rfl⟩) | (rw [if_neg (by omega), if_neg (by omega)]; exact ⟨rfl, rfl⟩)
  · refine m_iload_n rfl rfl rfl ?_
    refine m_aload_n rfl rfl rfl ?_
    refine m_gix (k := 10) (x := mem 5 n 10) rfl rfl (Nat.le_of_ble_eq_true rfl) rfl rfl (by first | decide | assumption | (simp only [cnt]; omega)) (by first | rfl | (repeat (first | rw [ms_s] | rw [ms_t (by decide)] | rw [ms_k (by decide)]))) ?_
    refine m_icmp_eq (tgt := 16) rfl rfl rfl (by omega) (by omega) (fun c12 => ?_) (fun c12 => ?_)
    · refine m_aload_n rfl rfl rfl ?_
      refine m_dup rfl rfl rfl ?_
      refine m_gix (k := 10) (x := mem 5 n 10) rfl rfl (Nat.le_of_ble_eq_true rfl) rfl rfl (by first | decide | assumption | (simp only [cnt]; omega)) (by first | rfl | (repeat (first | rw [ms_s] | rw [ms_t (by decide)] | rw [ms_k (by decide)]))) ?_
      refine m_aload_n rfl rfl rfl ?_
      refine m_gix (k := 5) (x := mem 5 n 5) rfl rfl (Nat.le_of_ble_eq_true rfl) rfl rfl (by first | decide | assumption | (simp only [cnt]; omega)) (by first | rfl | (repeat (first | rw [ms_s] | rw [ms_t (by decide)] | rw [ms_k (by decide)]))) ?_
      refine m_iadd rfl rfl ?_
      refine m_pi (k := 10) rfl rfl (Nat.le_of_ble_eq_true rfl) rfl rfl rfl rfl (by first | decide | assumption | (simp only [cnt]; omega)) ?_
      refine m_aload_n rfl rfl rfl ?_
      refine m_gix (k := 11) (x := mem 5 n 11) rfl rfl (Nat.le_of_ble_eq_true rfl) rfl rfl (by first | decide | assumption | (simp only [cnt]; omega)) (by first | rfl | (repeat (first | rw [ms_s] | rw [ms_t (by decide)] | rw [ms_k (by decide)]))) ?_
      refine m_if_eq (tgt := 54) rfl rfl rfl (by omega) (fun c33 => ?_) (fun c33 => ?_)
      · refine m_aload_n rfl rfl rfl ?_
        refine m_gr (k := 2) rfl rfl (Nat.le_of_ble_eq_true rfl) rfl rfl (by first | decide | assumption | (simp only [cnt]; omega)) ?_
        refine m_iload_n rfl rfl rfl ?_
        refine m_cv0 rfl rfl lk_5_69 (c_joAdd hl (by omega) (show joB _ _ from hJ)) rfl (by first | decide | assumption | (simp only [cnt]; omega)) (Nat.le_of_ble_eq_true rfl) rfl rfl (Nat.le_of_ble_eq_true rfl) (Nat.le_of_ble_eq_true rfl) (Nat.le_of_ble_eq_true rfl) (Nat.le_of_ble_eq_true rfl) (Nat.le_of_ble_eq_true rfl) ?_
        refine m_vret rfl rfl rfl (Nat.le_of_ble_eq_true rfl) (Nat.le_of_ble_eq_true rfl) ?_
        unfold taRl
        first | (rw [if_pos (by omega)]; exact ⟨rfl, rfl⟩) | (rw [if_neg (by omega), if_pos (by omega)]; exact ⟨rfl, rfl⟩) | (rw [if_neg (by omega), if_neg (by omega)]; exact ⟨rfl, rfl⟩)
      · refine m_aload_n rfl rfl rfl ?_
        refine m_iconst rfl rfl ?_
        refine m_pz0 (k := 11) rfl rfl (Nat.le_of_ble_eq_true rfl) rfl rfl rfl rfl (by first | decide | assumption | (simp only [cnt]; omega)) ?_
        refine m_aload_n rfl rfl rfl ?_
        refine m_gr (k := 3) rfl rfl (Nat.le_of_ble_eq_true rfl) rfl rfl (by first | decide | assumption | (simp only [cnt]; omega)) ?_
        refine m_iconst rfl rfl ?_
        refine m_dup2 rfl rfl rfl rfl ?_
        refine m_ialx (n := 3) (y := mem 22 n (3)) rfl rfl (Nat.le_of_ble_eq_true rfl) rfl (by first | decide | assumption | (simp only [cnt]; omega)) (by omega) (by simp only [aln]; omega) (by first | rfl | (repeat (first | rw [ms_s] | rw [ms_t (by decide)] | rw [ms_k (by decide)]))) ?_
        refine m_iconst rfl rfl ?_
        refine m_iadd rfl rfl ?_
        refine m_iasn (n := 3) rfl rfl (Nat.le_of_ble_eq_true rfl) rfl (by first | decide | assumption | (simp only [cnt]; omega)) (by omega) (by simp only [aln]; omega) ?_
        refine m_goto (tgt := 62) rfl rfl rfl ?_
        refine m_vret rfl rfl rfl (Nat.le_of_ble_eq_true rfl) (Nat.le_of_ble_eq_true rfl) ?_
        unfold taRl
        first | (rw [if_pos (by omega)]; exact ⟨rfl, rfl⟩) | (rw [if_neg (by omega), if_pos (by omega)]; exact ⟨rfl, rfl⟩) | (rw [if_neg (by omega), if_neg (by omega)]; exact ⟨rfl, rfl⟩)
    · refine m_vret rfl rfl rfl (Nat.le_of_ble_eq_true rfl) (Nat.le_of_ble_eq_true rfl) ?_
      unfold taRl
      first | (rw [if_pos (by omega)]; exact ⟨rfl, rfl⟩) | (rw [if_neg (by omega), if_pos (by omega)]; exact ⟨rfl, rfl⟩) | (rw [if_neg (by omega), if_neg (by omega)]; exact ⟨rfl, rfl⟩)

def taRj (m : zkM) (n : Nat) (p : Int) : zkM := if p = 0 then mset (joRm (mset (mset m 5 n 12 0) 5 n 13 0) n p) 22 n 2 (joRm (mset (mset m 5 n 12 0) 5 n 13 0) n p 22 n 2 + 1) else mset (joRm m n p) 22 n 2 (joRm m n p 22 n 2 + 1)
set_option maxRecDepth 10000 in
theorem c_taRemove {l : Launch} {G : zkG} {mem : zkM} (hl : l.stackTraces = false) {n : Nat} {p : Int} (hn : n < 10) (hJ : joB mem n) (hp : inR p) : zkCt l G i_Ta_removeJob 2 0 0 [vr 5 n, vi p] mem (zkR0 (taRj mem n p)) := by
  refine zkCt_of hl ok_Ta_removeJob (by decide +kernel) rfl rfl (List.forall_mem_cons.mpr ⟨rfl, (List.forall_mem_cons.mpr ⟨rfl, fun _ h => nomatch h⟩)⟩) (Nat.le_of_ble_eq_true rfl) ?_
  refine m_iload_n rfl rfl rfl ?_
  refine m_if_ne (tgt := 14) rfl rfl rfl (by omega) (fun c1 => ?_) (fun c1 => ?_)
  · refine m_aload_n rfl rfl rfl ?_
    refine m_gr (k := 2) rfl rfl (Nat.le_of_ble_eq_true rfl) rfl rfl (by first | decide | assumption | (simp only [cnt]; omega)) ?_
    refine m_iload_n rfl rfl rfl ?_
    refine m_cv0 rfl rfl lk_5_80 (c_joRm hl (by omega) (show joB _ _ from hJ) (by omega)) rfl (by first | decide | assumption | (simp only [cnt]; omega)) (Nat.le_of_ble_eq_true rfl) rfl rfl (Nat.le_of_ble_eq_true rfl) (Nat.le_of_ble_eq_true rfl) (Nat.le_of_ble_eq_true rfl) (Nat.le_of_ble_eq_true rfl) (Nat.le_of_ble_eq_true rfl) ?_
    refine m_aload_n rfl rfl rfl ?_
    refine m_gr (k := 3) rfl rfl (Nat.le_of_ble_eq_true rfl) rfl rfl (by first | decide | assumption | (simp only [cnt]; omega)) ?_
    refine m_iconst rfl rfl ?_
    refine m_dup2 rfl rfl rfl rfl ?_
    refine m_ialn (n := 2) rfl rfl (Nat.le_of_ble_eq_true rfl) rfl (by first | decide | assumption | (simp only [cnt]; omega)) (by omega) (by simp only [aln]; omega) ?_
    refine m_iconst rfl rfl ?_
    refine m_iadd rfl rfl ?_
    refine m_iasn (n := 2) rfl rfl (Nat.le_of_ble_eq_true rfl) rfl (by first | decide | assumption | (simp only [cnt]; omega)) (by omega) (by simp only [aln]; omega) ?_
    refine m_vret rfl rfl rfl (Nat.le_of_ble_eq_true rfl) (Nat.le_of_ble_eq_true rfl) ?_
    unfold taRj
    first | (rw [if_pos (by omega)]; exact ⟨rfl, rfl⟩) | (rw [if_neg (by omega)]; exact ⟨rfl, rfl⟩)
  · refine m_aload_n rfl rfl rfl ?_
    refine m_iconst rfl rfl ?_
    refine m_pi (k := 12) rfl rfl (Nat.le_of_ble_eq_true rfl) rfl rfl rfl rfl (by first | decide | assumption | (simp only [cnt]; omega)) ?_
    refine m_aload_n rfl rfl rfl ?_
    refine m_iconst rfl rfl ?_
    refine m_pi (k := 13) rfl rfl (Nat.le_of_ble_eq_true rfl) rfl rfl rfl rfl (by first | decide | assumption | (simp only [cnt]; omega)) ?_
    refine m_aload_n rfl rfl rfl ?_
    refine m_gr (k := 2) rfl rfl (Nat.le_of_ble_eq_true rfl) rfl rfl (by first | decide | assumption | (simp only [cnt]; omega)) ?_
    refine m_iload_n rfl rfl rfl ?_
    refine m_cv0 rfl rfl lk_5_80 (c_joRm hl (by omega) (show joB _ _ from hJ) (by omega)) rfl (by first | decide | assumption | (simp only [cnt]; omega)) (Nat.le_of_ble_eq_true rfl) rfl rfl (Nat.le_of_ble_eq_true rfl) (Nat.le_of_ble_eq_true rfl) (Nat.le_of_ble_eq_true rfl) (Nat.le_of_ble_eq_true rfl) (Nat.le_of_ble_eq_true rfl) ?_
    refine m_aload_n rfl rfl rfl ?_
    refine m_gr (k := 3) rfl rfl (Nat.le_of_ble_eq_true rfl) rfl rfl (by first | decide | assumption | (simp only [cnt]; omega)) ?_
    refine m_iconst rfl rfl ?_
    refine m_dup2 rfl rfl rfl rfl ?_
    refine m_ialn (n := 2) rfl rfl (Nat.le_of_ble_eq_true rfl) rfl (by first | decide | assumption | (simp only [cnt]; omega)) (by omega) (by simp only [aln]; omega) ?_
    refine m_iconst rfl rfl ?_
    refine m_iadd rfl rfl ?_
    refine m_iasn (n := 2) rfl rfl (Nat.le_of_ble_eq_true rfl) rfl (by first | decide | assumption | (simp only [cnt]; omega)) (by omega) (by simp only [aln]; omega) ?_
    refine m_vret rfl rfl rfl (Nat.le_of_ble_eq_true rfl) (Nat.le_of_ble_eq_true rfl) ?_
    unfold taRj
    first | (rw [if_pos (by omega)]; exact ⟨rfl, rfl⟩) | (rw [if_neg (by omega)]; exact ⟨rfl, rfl⟩)

def taMs (m : zkM) (n : Nat) (t po : Int) : zkM := if joPl m n (t - m 5 n 6) = -1 then m else if po = 1 then taRj (mset m 22 n 1 (m 22 n 1 + 1)) n (joPl m n (t - m 5 n 6)) else if po = 2 then mset (mset m 22 n 1 (m 22 n 1 + 1)) 5 n 11 1 else mset m 22 n 1 (m 22 n 1 + 1)
set_option maxRecDepth 10000 in
theorem c_taMiss {l : Launch} {G : zkG} {mem : zkM} (hl : l.stackTraces = false) {n : Nat} {t po : Int} (hn : n < 10) (hJ : joB mem n) (ht : 0 ≤ t ∧ t ≤ 400) (hd : 0 ≤ mem 5 n 6 ∧ mem 5 n 6 ≤ 100) (hpo : inR po) : zkCt l G i_Ta_missAt 3 0 0 [vr 5 n, vi t, vi po] mem (zkR0 (taMs mem n t po)) := by
  refine zkCt_of hl ok_Ta_missAt (by decide +kernel) rfl rfl (List.forall_mem_cons.mpr ⟨rfl, (List.forall_mem_cons.mpr ⟨rfl, (List.forall_mem_cons.mpr ⟨rfl, fun _ h => nomatch h⟩)⟩)⟩) (Nat.le_of_ble_eq_true rfl) ?_
  have hb := joPl_b hJ (t - mem 5 n 6)
  obtain ⟨j1, j2⟩ := id hJ
  have hb2 : joPl mem n (t - mem 5 n 6) < 400 := hb.2.1
  have hb1 := hb.1
  refine m_aload_n rfl rfl rfl ?_
  refine m_gr (k := 2) rfl rfl (Nat.le_of_ble_eq_true rfl) rfl rfl (by first | decide | assumption | (simp only [cnt]; omega)) ?_
  refine m_iload_n rfl rfl rfl ?_
  refine m_aload_n rfl rfl rfl ?_
  refine m_gix (k := 6) (x := mem 5 n 6) rfl rfl (Nat.le_of_ble_eq_true rfl) rfl rfl (by first | decide | assumption | (simp only [cnt]; omega)) (by first | rfl | (repeat (first | rw [ms_s] | rw [ms_t (by decide)] | rw [ms_k (by decide)]))) ?_
  refine m_isub rfl rfl ?_
  refine m_cv1 rfl rfl lk_5_73 (c_joPl hl (by omega) (show joB _ _ from hJ) (by omega)) rfl (by first | decide | assumption | (simp only [cnt]; omega)) (Nat.le_of_ble_eq_true rfl) rfl rfl (Nat.le_of_ble_eq_true rfl) (Nat.le_of_ble_eq_true rfl) (Nat.le_of_ble_eq_true rfl) (Nat.le_of_ble_eq_true rfl) (Nat.le_of_ble_eq_true rfl) ?_
  refine m_istore_n rfl rfl (Nat.le_of_ble_eq_true rfl) rfl ?_
  refine m_iload_n rfl rfl rfl ?_
  refine m_iconst rfl rfl ?_
  refine m_icmp_ne (tgt := 20) rfl rfl rfl (by omega) (by omega) (fun c16 => ?_) (fun c16 => ?_)
  · refine m_aload_n rfl rfl rfl ?_
    refine m_gr (k := 3) rfl rfl (Nat.le_of_ble_eq_true rfl) rfl rfl (by first | decide | assumption | (simp only [cnt]; omega)) ?_
    refine m_iconst rfl rfl ?_
    refine m_dup2 rfl rfl rfl rfl ?_
    refine m_ialx (n := 1) (y := mem 22 n (1)) rfl rfl (Nat.le_of_ble_eq_true rfl) rfl (by first | decide | assumption | (simp only [cnt]; omega)) (by omega) (by simp only [aln]; omega) (by first | rfl | (repeat (first | rw [ms_s] | rw [ms_t (by decide)] | rw [ms_k (by decide)]))) ?_
    refine m_iconst rfl rfl ?_
    refine m_iadd rfl rfl ?_
    refine m_iasn (n := 1) rfl rfl (Nat.le_of_ble_eq_true rfl) rfl (by first | decide | assumption | (simp only [cnt]; omega)) (by omega) (by simp only [aln]; omega) ?_
    refine m_iload_n rfl rfl rfl ?_
    refine m_iconst rfl rfl ?_
    refine m_icmp_ne (tgt := 43) rfl rfl rfl (by omega) (by omega) (fun c32 => ?_) (fun c32 => ?_)
    · refine m_iload_n rfl rfl rfl ?_
      refine m_iconst rfl rfl ?_
      refine m_icmp_ne (tgt := 53) rfl rfl rfl (by omega) (by omega) (fun c45 => ?_) (fun c45 => ?_)
      · refine m_vret rfl rfl rfl (Nat.le_of_ble_eq_true rfl) (Nat.le_of_ble_eq_true rfl) ?_
        unfold taMs
        first | (rw [if_pos (by omega)]; exact ⟨rfl, rfl⟩) | (rw [if_neg (by omega), if_pos (by omega)]; exact ⟨rfl, rfl⟩) | (rw [if_neg (by omega), if_neg (by omega), if_pos (by omega)]; exact ⟨rfl, rfl⟩) | (rw [if_neg (by omega), if_neg (by omega), if_neg (by omega)]; exact ⟨rfl, rfl⟩)
      · refine m_aload_n rfl rfl rfl ?_
        refine m_iconst rfl rfl ?_
        refine m_pz1 (k := 11) rfl rfl (Nat.le_of_ble_eq_true rfl) rfl rfl rfl rfl (by first | decide | assumption | (simp only [cnt]; omega)) ?_
        refine m_vret rfl rfl rfl (Nat.le_of_ble_eq_true rfl) (Nat.le_of_ble_eq_true rfl) ?_
        unfold taMs
        first | (rw [if_pos (by omega)]; exact ⟨rfl, rfl⟩) | (rw [if_neg (by omega), if_pos (by omega)]; exact ⟨rfl, rfl⟩) | (rw [if_neg (by omega), if_neg (by omega), if_pos (by omega)]; exact ⟨rfl, rfl⟩) | (rw [if_neg (by omega), if_neg (by omega), if_neg (by omega)]; exact ⟨rfl, rfl⟩)
    · refine m_aload_n rfl rfl rfl ?_
      refine m_iload_n rfl rfl rfl ?_
      refine m_cv0 rfl rfl lk_5_77 (c_taRemove hl (by omega) (show joB _ _ from hJ) (by omega)) rfl (by first | decide | assumption | (simp only [cnt]; omega)) (Nat.le_of_ble_eq_true rfl) rfl rfl (Nat.le_of_ble_eq_true rfl) (Nat.le_of_ble_eq_true rfl) (Nat.le_of_ble_eq_true rfl) (Nat.le_of_ble_eq_true rfl) (Nat.le_of_ble_eq_true rfl) ?_
      refine m_goto (tgt := 53) rfl rfl rfl ?_
      refine m_vret rfl rfl rfl (Nat.le_of_ble_eq_true rfl) (Nat.le_of_ble_eq_true rfl) ?_
      unfold taMs
      first | (rw [if_pos (by omega)]; exact ⟨rfl, rfl⟩) | (rw [if_neg (by omega), if_pos (by omega)]; exact ⟨rfl, rfl⟩) | (rw [if_neg (by omega), if_neg (by omega), if_pos (by omega)]; exact ⟨rfl, rfl⟩) | (rw [if_neg (by omega), if_neg (by omega), if_neg (by omega)]; exact ⟨rfl, rfl⟩)
  · refine m_vret rfl rfl rfl (Nat.le_of_ble_eq_true rfl) (Nat.le_of_ble_eq_true rfl) ?_
    unfold taMs
    first | (rw [if_pos (by omega)]; exact ⟨rfl, rfl⟩) | (rw [if_neg (by omega), if_pos (by omega)]; exact ⟨rfl, rfl⟩) | (rw [if_neg (by omega), if_neg (by omega), if_pos (by omega)]; exact ⟨rfl, rfl⟩) | (rw [if_neg (by omega), if_neg (by omega), if_neg (by omega)]; exact ⟨rfl, rfl⟩)

set_option maxRecDepth 10000 in
theorem c_taStarted {l : Launch} {G : zkG} {mem : zkM} (hl : l.stackTraces = false) {n : Nat} (hn : n < 10) (h12 : inR (mem 5 n 12)) (h13 : inR (mem 5 n 13)) : zkCt l G i_Ta_hasStartedJob 0 0 0 [vr 5 n] mem (zkR1 (vi (b2i (decide (0 < mem 5 n 12 ∨ 0 < mem 5 n 13)))) mem) := by
  refine zkCt_of hl ok_Ta_hasStartedJob (by decide +kernel) rfl rfl (List.forall_mem_cons.mpr ⟨rfl, fun _ h => nomatch h⟩) (Nat.le_of_ble_eq_true rfl) ?_
  refine m_aload_n rfl rfl rfl ?_
  refine m_gix (k := 12) (x := mem 5 n 12) rfl rfl (Nat.le_of_ble_eq_true rfl) rfl rfl (by first | decide | assumption | (simp only [cnt]; omega)) (by first | rfl | (repeat (first | rw [ms_s] | rw [ms_t (by decide)] | rw [ms_k (by decide)]))) ?_
  refine m_if_gt (tgt := 14) rfl rfl rfl (by omega) (fun c4 => ?_) (fun c4 => ?_)
  · refine m_iconst rfl rfl ?_
    refine m_goto (tgt := 19) rfl rfl rfl ?_
    refine m_z1 rfl rfl rfl (Nat.le_of_ble_eq_true rfl) (Nat.le_of_ble_eq_true rfl) ?_
    first | (rw [decide_eq_true (by omega)]; exact ⟨rfl, rfl⟩) | (rw [decide_eq_false (by omega)]; exact ⟨rfl, rfl⟩)
  · refine m_aload_n rfl rfl rfl ?_
    refine m_gix (k := 13) (x := mem 5 n 13) rfl rfl (Nat.le_of_ble_eq_true rfl) rfl rfl (by first | decide | assumption | (simp only [cnt]; omega)) (by first | rfl | (repeat (first | rw [ms_s] | rw [ms_t (by decide)] | rw [ms_k (by decide)]))) ?_
    refine m_if_le (tgt := 18) rfl rfl rfl (by omega) (fun c11 => ?_) (fun c11 => ?_)
    · refine m_iconst rfl rfl ?_
      refine m_z0 rfl rfl rfl (Nat.le_of_ble_eq_true rfl) (Nat.le_of_ble_eq_true rfl) ?_
      first | (rw [decide_eq_true (by omega)]; exact ⟨rfl, rfl⟩) | (rw [decide_eq_false (by omega)]; exact ⟨rfl, rfl⟩)
    · refine m_iconst rfl rfl ?_
      refine m_goto (tgt := 19) rfl rfl rfl ?_
      refine m_z1 rfl rfl rfl (Nat.le_of_ble_eq_true rfl) (Nat.le_of_ble_eq_true rfl) ?_
      first | (rw [decide_eq_true (by omega)]; exact ⟨rfl, rfl⟩) | (rw [decide_eq_false (by omega)]; exact ⟨rfl, rfl⟩)

def taHd (m : zkM) (n : Nat) : Int := if 0 < m 5 n 13 ∧ m 5 n 12 < 6 then m 19 n (m 5 n 12).toNat else -1
set_option maxRecDepth 10000 in
theorem c_taHeld {l : Launch} {G : zkG} {mem : zkM} (hl : l.stackTraces = false) {n : Nat} (hn : n < 10) (h12 : 0 ≤ mem 5 n 12 ∧ mem 5 n 12 ≤ 1000) (h13 : inR (mem 5 n 13)) : zkCt l G i_Ta_heldResource 0 0 0 [vr 5 n] mem (zkR1 (vi (taHd mem n)) mem) := by
  refine zkCt_of hl ok_Ta_heldResource (by decide +kernel) rfl rfl (List.forall_mem_cons.mpr ⟨rfl, fun _ h => nomatch h⟩) (Nat.le_of_ble_eq_true rfl) ?_
  refine m_aload_n rfl rfl rfl ?_
  refine m_gix (k := 13) (x := mem 5 n 13) rfl rfl (Nat.le_of_ble_eq_true rfl) rfl rfl (by first | decide | assumption | (simp only [cnt]; omega)) (by first | rfl | (repeat (first | rw [ms_s] | rw [ms_t (by decide)] | rw [ms_k (by decide)]))) ?_
  refine m_if_le (tgt := 28) rfl rfl rfl (by omega) (fun c4 => ?_) (fun c4 => ?_)
  · refine m_iconst rfl rfl ?_
    refine m_iret rfl rfl rfl (Nat.le_of_ble_eq_true rfl) (Nat.le_of_ble_eq_true rfl) ?_
    unfold taHd
    first | (rw [if_pos (by omega)]; exact ⟨rfl, rfl⟩) | (rw [if_neg (by omega)]; exact ⟨rfl, rfl⟩)
  · refine m_aload_n rfl rfl rfl ?_
    refine m_gix (k := 12) (x := mem 5 n 12) rfl rfl (Nat.le_of_ble_eq_true rfl) rfl rfl (by first | decide | assumption | (simp only [cnt]; omega)) (by first | rfl | (repeat (first | rw [ms_s] | rw [ms_t (by decide)] | rw [ms_k (by decide)]))) ?_
    refine m_bipush rfl rfl (by decide) ?_
    refine m_icmp_ge (tgt := 28) rfl rfl rfl (by omega) (by omega) (fun c13 => ?_) (fun c13 => ?_)
    · refine m_iconst rfl rfl ?_
      refine m_iret rfl rfl rfl (Nat.le_of_ble_eq_true rfl) (Nat.le_of_ble_eq_true rfl) ?_
      unfold taHd
      first | (rw [if_pos (by omega)]; exact ⟨rfl, rfl⟩) | (rw [if_neg (by omega)]; exact ⟨rfl, rfl⟩)
    · refine m_aload_n rfl rfl rfl ?_
      refine m_gr (k := 0) rfl rfl (Nat.le_of_ble_eq_true rfl) rfl rfl (by first | decide | assumption | (simp only [cnt]; omega)) ?_
      refine m_aload_n rfl rfl rfl ?_
      refine m_gix (k := 12) (x := mem 5 n 12) rfl rfl (Nat.le_of_ble_eq_true rfl) rfl rfl (by first | decide | assumption | (simp only [cnt]; omega)) (by first | rfl | (repeat (first | rw [ms_s] | rw [ms_t (by decide)] | rw [ms_k (by decide)]))) ?_
      refine m_ialx (n := (mem 5 n 12).toNat) (y := mem 19 n ((mem 5 n 12).toNat)) rfl rfl (Nat.le_of_ble_eq_true rfl) rfl (by first | decide | assumption | (simp only [cnt]; omega)) (by omega) (by simp only [aln]; omega) (by first | rfl | (repeat (first | rw [ms_s] | rw [ms_t (by decide)] | rw [ms_k (by decide)]))) ?_
      refine m_goto (tgt := 29) rfl rfl rfl ?_
      refine m_iret rfl rfl rfl (Nat.le_of_ble_eq_true rfl) (Nat.le_of_ble_eq_true rfl) ?_
      unfold taHd
      first | (rw [if_pos (by omega)]; exact ⟨rfl, rfl⟩) | (rw [if_neg (by omega)]; exact ⟨rfl, rfl⟩)

def taFj (m : zkM) (n : Nat) (x : Int) : zkM := mset (mset (mset (mset (joRmF m n) 5 n 12 0) 22 n 0 (joRmF m n 22 n 0 + 1)) 22 n 5 (max (joRmF m n 22 n 5) x)) 5 n 14 (joRmF m n 5 n 14 + x)
set_option maxRecDepth 10000 in
theorem c_taFinish {l : Launch} {G : zkG} {mem : zkM} (hl : l.stackTraces = false) {n : Nat} {x : Int} (hn : n < 10) (hJ : joB mem n) (hx : inR x) (h5 : inR (mem 22 n 5)) : zkCt l G i_Ta_finishJob 1 0 0 [vr 5 n, vi x] mem (zkR0 (taFj mem n x)) := by
  refine zkCt_of hl ok_Ta_finishJob (by decide +kernel) rfl rfl (List.forall_mem_cons.mpr ⟨rfl, (List.forall_mem_cons.mpr ⟨rfl, fun _ h => nomatch h⟩)⟩) (Nat.le_of_ble_eq_true rfl) ?_
  have h5a : inR (joRmF mem n 22 n 5) := by unfold joRmF; split <;> exact h5
  refine m_aload_n rfl rfl rfl ?_
  refine m_gr (k := 2) rfl rfl (Nat.le_of_ble_eq_true rfl) rfl rfl (by first | decide | assumption | (simp only [cnt]; omega)) ?_
  refine m_cv0 rfl rfl lk_5_90 (c_joRmF hl (by omega) (show joB _ _ from hJ)) rfl (by first | decide | assumption | (simp only [cnt]; omega)) (Nat.le_of_ble_eq_true rfl) rfl rfl (Nat.le_of_ble_eq_true rfl) (Nat.le_of_ble_eq_true rfl) (Nat.le_of_ble_eq_true rfl) (Nat.le_of_ble_eq_true rfl) (Nat.le_of_ble_eq_true rfl) ?_
  refine m_aload_n rfl rfl rfl ?_
  refine m_iconst rfl rfl ?_
  refine m_pi (k := 12) rfl rfl (Nat.le_of_ble_eq_true rfl) rfl rfl rfl rfl (by first | decide | assumption | (simp only [cnt]; omega)) ?_
  refine m_aload_n rfl rfl rfl ?_
  refine m_gr (k := 3) rfl rfl (Nat.le_of_ble_eq_true rfl) rfl rfl (by first | decide | assumption | (simp only [cnt]; omega)) ?_
  refine m_iconst rfl rfl ?_
  refine m_dup2 rfl rfl rfl rfl ?_
  refine m_ialx (n := 0) (y := (joRmF mem n) 22 n (0)) rfl rfl (Nat.le_of_ble_eq_true rfl) rfl (by first | decide | assumption | (simp only [cnt]; omega)) (by omega) (by simp only [aln]; omega) (by first | rfl | (repeat (first | rw [ms_s] | rw [ms_t (by decide)] | rw [ms_k (by decide)]))) ?_
  refine m_iconst rfl rfl ?_
  refine m_iadd rfl rfl ?_
  refine m_iasn (n := 0) rfl rfl (Nat.le_of_ble_eq_true rfl) rfl (by first | decide | assumption | (simp only [cnt]; omega)) (by omega) (by simp only [aln]; omega) ?_
  refine m_aload_n rfl rfl rfl ?_
  refine m_gr (k := 3) rfl rfl (Nat.le_of_ble_eq_true rfl) rfl rfl (by first | decide | assumption | (simp only [cnt]; omega)) ?_
  refine m_iconst rfl rfl ?_
  refine m_aload_n rfl rfl rfl ?_
  refine m_gr (k := 3) rfl rfl (Nat.le_of_ble_eq_true rfl) rfl rfl (by first | decide | assumption | (simp only [cnt]; omega)) ?_
  refine m_iconst rfl rfl ?_
  refine m_ialx (n := 5) (y := joRmF mem n 22 n 5) rfl rfl (Nat.le_of_ble_eq_true rfl) rfl (by simp only [cnt]; omega) (by omega) (by decide) (by rw [ms_k (by decide)]; rfl) ?_
  refine m_iload_n rfl rfl rfl ?_
  refine m_max rfl rfl (by decide +kernel) (by omega) (by omega) (Nat.le_of_ble_eq_true rfl) (Nat.le_of_ble_eq_true rfl) (Nat.le_of_ble_eq_true rfl) (Nat.le_of_ble_eq_true rfl) ?_
  refine m_iasn (n := 5) rfl rfl (Nat.le_of_ble_eq_true rfl) rfl (by first | decide | assumption | (simp only [cnt]; omega)) (by omega) (by simp only [aln]; omega) ?_
  refine m_aload_n rfl rfl rfl ?_
  refine m_dup rfl rfl rfl ?_
  refine m_gix (k := 14) (x := joRmF mem n 5 n 14) rfl rfl (Nat.le_of_ble_eq_true rfl) rfl rfl (by simp only [cnt]; omega) (by repeat (first | rw [ms_t (by decide)] | rw [ms_k (by decide)])) ?_
  refine m_iload_n rfl rfl rfl ?_
  refine m_iadd rfl rfl ?_
  refine m_pi (k := 14) rfl rfl (Nat.le_of_ble_eq_true rfl) rfl rfl rfl rfl (by first | decide | assumption | (simp only [cnt]; omega)) ?_
  refine m_vret rfl rfl rfl (Nat.le_of_ble_eq_true rfl) (Nat.le_of_ble_eq_true rfl) ?_
  exact ⟨rfl, rfl⟩

/-- a unit is run: the task behind the unit's count, then the job's end -/
def taR1 (m : zkM) (n : Nat) : zkM := if m 5 n 13 + 1 = m 20 n (m 5 n 12).toNat then mset (mset (mset m 5 n 13 (m 5 n 13 + 1)) 5 n 12 (m 5 n 12 + 1)) 5 n 13 0 else mset m 5 n 13 (m 5 n 13 + 1)
def taR2 (m : zkM) (n : Nat) : Int := if m 5 n 13 + 1 = m 20 n (m 5 n 12).toNat then m 5 n 12 + 1 else m 5 n 12
def taRu (m : zkM) (n : Nat) (e : Int) : Bool × zkM := if m 5 n 8 ≤ m 5 n 12 then (false, m) else if taR2 m n < m 5 n 8 then (false, taR1 m n) else (true, taFj (taR1 m n) n (e - joFst m n))
theorem joFst_R (m : zkM) (n : Nat) : joFst (taR1 m n) n = joFst m n := by
  unfold joFst taR1
  split <;> rfl
theorem joB_R {m : zkM} {n : Nat} (h : joB m n) : joB (taR1 m n) n := by
  unfold taR1
  split <;> exact h
theorem taR1_5 (m : zkM) (n : Nat) : taR1 m n 22 n 5 = m 22 n 5 := by
  unfold taR1
  split <;> rfl
theorem taR1_12 (m : zkM) (n : Nat) : taR1 m n 5 n 12 = taR2 m n := by
  unfold taR1 taR2
  by_cases h : m 5 n 13 + 1 = m 20 n (m 5 n 12).toNat
  · rw [if_pos h, if_pos h, ms_k (by decide), ms_s]
  · rw [if_neg h, if_neg h, ms_k (by decide)]
theorem taR1_8 (m : zkM) (n : Nat) : taR1 m n 5 n 8 = m 5 n 8 := by
  unfold taR1
  by_cases h : m 5 n 13 + 1 = m 20 n (m 5 n 12).toNat
  · rw [if_pos h, ms_k (by decide), ms_k (by decide), ms_k (by decide)]
  · rw [if_neg h, ms_k (by decide)]
theorem joFst_b {m : zkM} {n : Nat} (h : joB m n) (h2 : ∀ k, k < 400 → -1 ≤ m 21 n k ∧ m 21 n k ≤ 1000) : -1 ≤ joFst m n ∧ joFst m n ≤ 1000 := by
  obtain ⟨h1, -⟩ := h
  unfold joFst
  split
  · exact h2 _ (by omega)
  · omega
set_option maxRecDepth 10000 in
theorem c_taRun {l : Launch} {G : zkG} {mem : zkM} (hl : l.stackTraces = false) {n : Nat} {e : Int} (hn : n < 10) (hJ : joB mem n) (he : 0 ≤ e ∧ e ≤ 1000) (h12 : 0 ≤ mem 5 n 12 ∧ mem 5 n 12 ≤ 6) (h8 : 0 ≤ mem 5 n 8 ∧ mem 5 n 8 ≤ 6) (h13 : 0 ≤ mem 5 n 13 ∧ mem 5 n 13 ≤ 1000) (h20 : ∀ k, k < 6 → inR (mem 20 n k)) (h21 : ∀ k, k < 400 → -1 ≤ mem 21 n k ∧ mem 21 n k ≤ 1000) (h5 : inR (mem 22 n 5)) : zkCt l G i_Ta_runUnit 2 0 0 [vr 5 n, vi e] mem (zkR1 (vi (b2i (taRu mem n e).1)) (taRu mem n e).2) := by
  refine zkCt_of hl ok_Ta_runUnit (by decide +kernel) rfl rfl (List.forall_mem_cons.mpr ⟨rfl, (List.forall_mem_cons.mpr ⟨rfl, fun _ h => nomatch h⟩)⟩) (Nat.le_of_ble_eq_true rfl) ?_
  refine m_aload_n rfl rfl rfl ?_
  refine m_gix (k := 12) (x := mem 5 n 12) rfl rfl (Nat.le_of_ble_eq_true rfl) rfl rfl (by first | decide | assumption | (simp only [cnt]; omega)) (by first | rfl | (repeat (first | rw [ms_s] | rw [ms_t (by decide)] | rw [ms_k (by decide)]))) ?_
  refine m_aload_n rfl rfl rfl ?_
  refine m_gix (k := 8) (x := mem 5 n 8) rfl rfl (Nat.le_of_ble_eq_true rfl) rfl rfl (by first | decide | assumption | (simp only [cnt]; omega)) (by first | rfl | (repeat (first | rw [ms_s] | rw [ms_t (by decide)] | rw [ms_k (by decide)]))) ?_
  refine m_icmp_lt (tgt := 13) rfl rfl rfl (by omega) (by omega) (fun c8 => ?_) (fun c8 => ?_)
  · have h20a := h20 (mem 5 n 12).toNat (by omega)
    refine m_aload_n rfl rfl rfl ?_
    refine m_dup rfl rfl rfl ?_
    refine m_gix (k := 13) (x := mem 5 n 13) rfl rfl (Nat.le_of_ble_eq_true rfl) rfl rfl (by first | decide | assumption | (simp only [cnt]; omega)) (by first | rfl | (repeat (first | rw [ms_s] | rw [ms_t (by decide)] | rw [ms_k (by decide)]))) ?_
    refine m_iconst rfl rfl ?_
    refine m_iadd rfl rfl ?_
    refine m_pi (k := 13) rfl rfl (Nat.le_of_ble_eq_true rfl) rfl rfl rfl rfl (by first | decide | assumption | (simp only [cnt]; omega)) ?_
    refine m_aload_n rfl rfl rfl ?_
    refine m_gix (k := 13) (x := mem 5 n 13 + 1) rfl rfl (Nat.le_of_ble_eq_true rfl) rfl rfl (by simp only [cnt]; omega) (by rw [ms_s]) ?_
    refine m_aload_n rfl rfl rfl ?_
    refine m_gr (k := 1) rfl rfl (Nat.le_of_ble_eq_true rfl) rfl rfl (by first | decide | assumption | (simp only [cnt]; omega)) ?_
    refine m_aload_n rfl rfl rfl ?_
    refine m_gix (k := 12) (x := mem 5 n 12) rfl rfl (Nat.le_of_ble_eq_true rfl) rfl rfl (by first | decide | assumption | (simp only [cnt]; omega)) (by first | rfl | (repeat (first | rw [ms_s] | rw [ms_t (by decide)] | rw [ms_k (by decide)]))) ?_
    refine m_ialx (n := (mem 5 n 12).toNat) (y := mem 20 n ((mem 5 n 12).toNat)) rfl rfl (Nat.le_of_ble_eq_true rfl) rfl (by first | decide | assumption | (simp only [cnt]; omega)) (by omega) (by simp only [aln]; omega) (by first | rfl | (repeat (first | rw [ms_s] | rw [ms_t (by decide)] | rw [ms_k (by decide)]))) ?_
    refine m_icmp_ne (tgt := 54) rfl rfl rfl (by omega) (by omega) (fun c36 => ?_) (fun c36 => ?_)
    · first
        | (rw [show mset (mset (mset mem 5 n 13 (mem 5 n 13 + 1)) 5 n 12 (mem 5 n 12 + 1)) 5 n 13 0 = taR1 mem n by unfold taR1; rw [if_pos (by omega)]])
        | (rw [show mset mem 5 n 13 (mem 5 n 13 + 1) = taR1 mem n by unfold taR1; rw [if_neg (by omega)]])
      have e12 := taR1_12 mem n
      have e8 := taR1_8 mem n
      have hr2 : 0 ≤ taR2 mem n ∧ taR2 mem n ≤ 2000 := by unfold taR2; split <;> omega
      · refine m_aload_n rfl rfl rfl ?_
        refine m_gix (k := 12) (x := taR2 mem n) rfl rfl (Nat.le_of_ble_eq_true rfl) rfl rfl (by simp only [cnt]; omega) e12 ?_
        refine m_aload_n rfl rfl rfl ?_
        refine m_gix (k := 8) (x := mem 5 n 8) rfl rfl (Nat.le_of_ble_eq_true rfl) rfl rfl (by simp only [cnt]; omega) e8 ?_
        refine m_icmp_ge (tgt := 67) rfl rfl rfl (by omega) (by omega) (fun c62 => ?_) (fun c62 => ?_)
        · have hf := joFst_b hJ h21
          have h5b := taR1_5 mem n
          refine m_aload_n rfl rfl rfl ?_
          refine m_iload_n rfl rfl rfl ?_
          refine m_aload_n rfl rfl rfl ?_
          refine m_gr (k := 2) rfl rfl (Nat.le_of_ble_eq_true rfl) rfl rfl (by first | decide | assumption | (simp only [cnt]; omega)) ?_
          refine m_cv1 rfl rfl lk_5_83 (by have h := c_joFirst (l := l) (G := G) (mem := taR1 mem n) hl hn (joB_R hJ); rw [joFst_R] at h; exact h) rfl (by first | decide | assumption | (simp only [cnt]; omega)) (Nat.le_of_ble_eq_true rfl) rfl rfl (Nat.le_of_ble_eq_true rfl) (Nat.le_of_ble_eq_true rfl) (Nat.le_of_ble_eq_true rfl) (Nat.le_of_ble_eq_true rfl) (Nat.le_of_ble_eq_true rfl) ?_
          refine m_isub rfl rfl ?_
          refine m_cv0 rfl rfl lk_5_87 (c_taFinish hl (by omega) (joB_R hJ) (by omega) (by omega)) rfl (by first | decide | assumption | (simp only [cnt]; omega)) (Nat.le_of_ble_eq_true rfl) rfl rfl (Nat.le_of_ble_eq_true rfl) (Nat.le_of_ble_eq_true rfl) (Nat.le_of_ble_eq_true rfl) (Nat.le_of_ble_eq_true rfl) (Nat.le_of_ble_eq_true rfl) ?_
          refine m_iconst rfl rfl ?_
          refine m_z1 rfl rfl rfl (Nat.le_of_ble_eq_true rfl) (Nat.le_of_ble_eq_true rfl) ?_
          unfold taRu
          first | (rw [if_neg (by omega), if_neg (by omega)]; exact ⟨rfl, rfl⟩)
        · refine m_iconst rfl rfl ?_
          refine m_z0 rfl rfl rfl (Nat.le_of_ble_eq_true rfl) (Nat.le_of_ble_eq_true rfl) ?_
          unfold taRu
          first | (rw [if_neg (by omega), if_pos (by omega)]; exact ⟨rfl, rfl⟩)
    · refine m_aload_n rfl rfl rfl ?_
      refine m_dup rfl rfl rfl ?_
      refine m_gix (k := 12) (x := mem 5 n 12) rfl rfl (Nat.le_of_ble_eq_true rfl) rfl rfl (by first | decide | assumption | (simp only [cnt]; omega)) (by first | rfl | (repeat (first | rw [ms_s] | rw [ms_t (by decide)] | rw [ms_k (by decide)]))) ?_
      refine m_iconst rfl rfl ?_
      refine m_iadd rfl rfl ?_
      refine m_pi (k := 12) rfl rfl (Nat.le_of_ble_eq_true rfl) rfl rfl rfl rfl (by first | decide | assumption | (simp only [cnt]; omega)) ?_
      refine m_aload_n rfl rfl rfl ?_
      refine m_iconst rfl rfl ?_
      refine m_pi (k := 13) rfl rfl (Nat.le_of_ble_eq_true rfl) rfl rfl rfl rfl (by first | decide | assumption | (simp only [cnt]; omega)) ?_
      first
        | (rw [show mset (mset (mset mem 5 n 13 (mem 5 n 13 + 1)) 5 n 12 (mem 5 n 12 + 1)) 5 n 13 0 = taR1 mem n by unfold taR1; rw [if_pos (by omega)]])
        | (rw [show mset mem 5 n 13 (mem 5 n 13 + 1) = taR1 mem n by unfold taR1; rw [if_neg (by omega)]])
      have e12 := taR1_12 mem n
      have e8 := taR1_8 mem n
      have hr2 : 0 ≤ taR2 mem n ∧ taR2 mem n ≤ 2000 := by unfold taR2; split <;> omega
      · refine m_aload_n rfl rfl rfl ?_
        refine m_gix (k := 12) (x := taR2 mem n) rfl rfl (Nat.le_of_ble_eq_true rfl) rfl rfl (by simp only [cnt]; omega) e12 ?_
        refine m_aload_n rfl rfl rfl ?_
        refine m_gix (k := 8) (x := mem 5 n 8) rfl rfl (Nat.le_of_ble_eq_true rfl) rfl rfl (by simp only [cnt]; omega) e8 ?_
        refine m_icmp_ge (tgt := 67) rfl rfl rfl (by omega) (by omega) (fun c62 => ?_) (fun c62 => ?_)
        · have hf := joFst_b hJ h21
          have h5b := taR1_5 mem n
          refine m_aload_n rfl rfl rfl ?_
          refine m_iload_n rfl rfl rfl ?_
          refine m_aload_n rfl rfl rfl ?_
          refine m_gr (k := 2) rfl rfl (Nat.le_of_ble_eq_true rfl) rfl rfl (by first | decide | assumption | (simp only [cnt]; omega)) ?_
          refine m_cv1 rfl rfl lk_5_83 (by have h := c_joFirst (l := l) (G := G) (mem := taR1 mem n) hl hn (joB_R hJ); rw [joFst_R] at h; exact h) rfl (by first | decide | assumption | (simp only [cnt]; omega)) (Nat.le_of_ble_eq_true rfl) rfl rfl (Nat.le_of_ble_eq_true rfl) (Nat.le_of_ble_eq_true rfl) (Nat.le_of_ble_eq_true rfl) (Nat.le_of_ble_eq_true rfl) (Nat.le_of_ble_eq_true rfl) ?_
          refine m_isub rfl rfl ?_
          refine m_cv0 rfl rfl lk_5_87 (c_taFinish hl (by omega) (joB_R hJ) (by omega) (by omega)) rfl (by first | decide | assumption | (simp only [cnt]; omega)) (Nat.le_of_ble_eq_true rfl) rfl rfl (Nat.le_of_ble_eq_true rfl) (Nat.le_of_ble_eq_true rfl) (Nat.le_of_ble_eq_true rfl) (Nat.le_of_ble_eq_true rfl) (Nat.le_of_ble_eq_true rfl) ?_
          refine m_iconst rfl rfl ?_
          refine m_z1 rfl rfl rfl (Nat.le_of_ble_eq_true rfl) (Nat.le_of_ble_eq_true rfl) ?_
          unfold taRu
          first | (rw [if_neg (by omega), if_neg (by omega)]; exact ⟨rfl, rfl⟩)
        · refine m_iconst rfl rfl ?_
          refine m_z0 rfl rfl rfl (Nat.le_of_ble_eq_true rfl) (Nat.le_of_ble_eq_true rfl) ?_
          unfold taRu
          first | (rw [if_neg (by omega), if_pos (by omega)]; exact ⟨rfl, rfl⟩)
  · refine m_iconst rfl rfl ?_
    refine m_z0 rfl rfl rfl (Nat.le_of_ble_eq_true rfl) (Nat.le_of_ble_eq_true rfl) ?_
    unfold taRu
    first | (rw [if_pos (by omega)]; exact ⟨rfl, rfl⟩)

