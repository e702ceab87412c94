/-! the class: ranges, jobs, tasks -/
set_option maxRecDepth 10000 in
theorem c_isWithin {l : Launch} {G : zkG} {mem : zkM} (hl : l.stackTraces = false) {x a b : Int} (hx : inR x) (ha : inR a) (hb : inR b) : zkCt l G i_Cw_isWithin 0 0 0 [vi x, vi a, vi b] mem (zkR1 (vi (b2i (decide (a ≤ x ∧ x ≤ b)))) mem) := by
  refine zkCt_of hl ok_Cw_isWithin (by decide +kernel) rfl rfl (List.forall_mem_cons.mpr ⟨rfl, (List.forall_mem_cons.mpr ⟨rfl, (List.forall_mem_cons.mpr ⟨rfl, fun _ h => nomatch h⟩)⟩)⟩) (Nat.le_of_ble_eq_true rfl) ?_
  refine m_iload_n rfl rfl rfl ?_
  refine m_iload_n rfl rfl rfl ?_
  refine m_icmp_lt (tgt := 14) rfl rfl rfl (by omega) (by omega) (fun c2 => ?_) (fun c2 => ?_)
  · refine m_iconst rfl rfl ?_
    refine m_z0 rfl rfl rfl (Nat.le_of_ble_eq_true rfl) (Nat.le_of_ble_eq_true rfl) ?_
    first | (rw [decide_eq_true (by omega)]; exact ⟨rfl, rfl⟩) | (rw [decide_eq_false (by omega)]; exact ⟨rfl, rfl⟩)
  · refine m_iload_n rfl rfl rfl ?_
    refine m_iload_n rfl rfl rfl ?_
    refine m_icmp_gt (tgt := 14) rfl rfl rfl (by omega) (by omega) (fun c7 => ?_) (fun c7 => ?_)
    · refine m_iconst rfl rfl ?_
      refine m_z0 rfl rfl rfl (Nat.le_of_ble_eq_true rfl) (Nat.le_of_ble_eq_true rfl) ?_
      first | (rw [decide_eq_true (by omega)]; exact ⟨rfl, rfl⟩) | (rw [decide_eq_false (by omega)]; exact ⟨rfl, rfl⟩)
    · refine m_iconst rfl rfl ?_
      refine m_goto (tgt := 15) rfl rfl rfl ?_
      refine m_z1 rfl rfl rfl (Nat.le_of_ble_eq_true rfl) (Nat.le_of_ble_eq_true rfl) ?_
      first | (rw [decide_eq_true (by omega)]; exact ⟨rfl, rfl⟩) | (rw [decide_eq_false (by omega)]; exact ⟨rfl, rfl⟩)

def joB (m : zkM) (n : Nat) : Prop := (0 ≤ m 1 n 1 ∧ m 1 n 1 ≤ m 1 n 2 ∧ m 1 n 2 ≤ 400) ∧ ∀ k, k < 400 → inR (m 21 n k)
set_option maxRecDepth 10000 in
theorem c_joRemoveAll {l : Launch} {G : zkG} {mem : zkM} (hl : l.stackTraces = false) {n : Nat} (hn : n < 10) : zkCt l G i_Jo_removeAll 0 0 0 [vr 1 n] mem (zkR0 (mset (mset mem 1 n 1 0) 1 n 2 0)) := by
  refine zkCt_of hl ok_Jo_removeAll (by decide +kernel) rfl rfl (List.forall_mem_cons.mpr ⟨rfl, fun _ h => nomatch h⟩) (Nat.le_of_ble_eq_true rfl) ?_
  refine m_aload_n rfl rfl rfl ?_
  refine m_iconst rfl rfl ?_
  refine m_pi (k := 1) rfl rfl (Nat.le_of_ble_eq_true rfl) rfl rfl rfl rfl (by first | decide | assumption | (simp only [cnt]; omega)) ?_
  refine m_aload_n rfl rfl rfl ?_
  refine m_iconst rfl rfl ?_
  refine m_pi (k := 2) rfl rfl (Nat.le_of_ble_eq_true rfl) rfl rfl rfl rfl (by first | decide | assumption | (simp only [cnt]; omega)) ?_
  refine m_vret rfl rfl rfl (Nat.le_of_ble_eq_true rfl) (Nat.le_of_ble_eq_true rfl) ?_
  exact ⟨rfl, rfl⟩

set_option maxRecDepth 10000 in
theorem c_joIsEmpty {l : Launch} {G : zkG} {mem : zkM} (hl : l.stackTraces = false) {n : Nat} (hn : n < 10) (hJ : joB mem n) : zkCt l G i_Jo_isEmpty 0 0 0 [vr 1 n] mem (zkR1 (vi (b2i (decide (mem 1 n 1 = mem 1 n 2)))) mem) := by
  refine zkCt_of hl ok_Jo_isEmpty (by decide +kernel) rfl rfl (List.forall_mem_cons.mpr ⟨rfl, fun _ h => nomatch h⟩) (Nat.le_of_ble_eq_true rfl) ?_
  obtain ⟨j1, j2⟩ := id hJ
  refine m_aload_n rfl rfl rfl ?_
  refine m_gix (k := 1) (x := mem 1 n 1) rfl rfl (Nat.le_of_ble_eq_true rfl) rfl rfl (by first | decide | assumption | (simp only [cnt]; omega)) (by first | rfl | (repeat (first | rw [ms_s] | rw [ms_t (by decide)] | rw [ms_k (by decide)]))) ?_
  refine m_aload_n rfl rfl rfl ?_
  refine m_gix (k := 2) (x := mem 1 n 2) rfl rfl (Nat.le_of_ble_eq_true rfl) rfl rfl (by first | decide | assumption | (simp only [cnt]; omega)) (by first | rfl | (repeat (first | rw [ms_s] | rw [ms_t (by decide)] | rw [ms_k (by decide)]))) ?_
  refine m_icmp_ne (tgt := 15) rfl rfl rfl (by omega) (by omega) (fun c8 => ?_) (fun c8 => ?_)
  · refine m_iconst rfl rfl ?_
    refine m_z0 rfl rfl rfl (Nat.le_of_ble_eq_true rfl) (Nat.le_of_ble_eq_true rfl) ?_
    first | (rw [decide_eq_true (by omega)]; exact ⟨rfl, rfl⟩) | (rw [decide_eq_false (by omega)]; exact ⟨rfl, rfl⟩)
  · refine m_iconst rfl rfl ?_
    refine m_goto (tgt := 16) rfl rfl rfl ?_
    refine m_z1 rfl rfl rfl (Nat.le_of_ble_eq_true rfl) (Nat.le_of_ble_eq_true rfl) ?_
    first | (rw [decide_eq_true (by omega)]; exact ⟨rfl, rfl⟩) | (rw [decide_eq_false (by omega)]; exact ⟨rfl, rfl⟩)

set_option maxRecDepth 10000 in
theorem c_joSize {l : Launch} {G : zkG} {mem : zkM} (hl : l.stackTraces = false) {n : Nat} (hn : n < 10) : zkCt l G i_Jo_size 0 0 0 [vr 1 n] mem (zkR1 (vi (mem 1 n 2 - mem 1 n 1)) mem) := by
  refine zkCt_of hl ok_Jo_size (by decide +kernel) rfl rfl (List.forall_mem_cons.mpr ⟨rfl, fun _ h => nomatch h⟩) (Nat.le_of_ble_eq_true rfl) ?_
  refine m_aload_n rfl rfl rfl ?_
  refine m_gix (k := 2) (x := mem 1 n 2) rfl rfl (Nat.le_of_ble_eq_true rfl) rfl rfl (by first | decide | assumption | (simp only [cnt]; omega)) (by first | rfl | (repeat (first | rw [ms_s] | rw [ms_t (by decide)] | rw [ms_k (by decide)]))) ?_
  refine m_aload_n rfl rfl rfl ?_
  refine m_gix (k := 1) (x := mem 1 n 1) rfl rfl (Nat.le_of_ble_eq_true rfl) rfl rfl (by first | decide | assumption | (simp only [cnt]; omega)) (by first | rfl | (repeat (first | rw [ms_s] | rw [ms_t (by decide)] | rw [ms_k (by decide)]))) ?_
  refine m_isub rfl rfl ?_
  refine m_iret rfl rfl rfl (Nat.le_of_ble_eq_true rfl) (Nat.le_of_ble_eq_true rfl) ?_
  exact ⟨rfl, rfl⟩

def joAdd (m : zkM) (n : Nat) (x : Int) : zkM := if m 1 n 2 < 400 then mset (mset m 21 n (m 1 n 2).toNat x) 1 n 2 (m 1 n 2 + 1) else m
set_option maxRecDepth 10000 in
theorem c_joAdd {l : Launch} {G : zkG} {mem : zkM} (hl : l.stackTraces = false) {n : Nat} {x : Int} (hn : n < 10) (hJ : joB mem n) : zkCt l G i_Jo_add 0 0 0 [vr 1 n, vi x] mem (zkR0 (joAdd mem n x)) := by
  refine zkCt_of hl ok_Jo_add (by decide +kernel) rfl rfl (List.forall_mem_cons.mpr ⟨rfl, (List.forall_mem_cons.mpr ⟨rfl, fun _ h => nomatch h⟩)⟩) (Nat.le_of_ble_eq_true rfl) ?_
  obtain ⟨j1, j2⟩ := id hJ
  refine m_aload_n rfl rfl rfl ?_
  refine m_gix (k := 2) (x := mem 1 n 2) rfl rfl (Nat.le_of_ble_eq_true rfl) rfl rfl (by first | decide | assumption | (simp only [cnt]; omega)) (by first | rfl | (repeat (first | rw [ms_s] | rw [ms_t (by decide)] | rw [ms_k (by decide)]))) ?_
  refine m_aload_n rfl rfl rfl ?_
  refine m_gr (k := 0) rfl rfl (Nat.le_of_ble_eq_true rfl) rfl rfl (by first | decide | assumption | (simp only [cnt]; omega)) ?_
  refine m_alen rfl rfl (Nat.le_of_ble_eq_true rfl) (Or.inl rfl) (by first | decide | assumption | (simp only [cnt]; omega)) ?_
  refine m_icmp_ge (tgt := 32) rfl rfl rfl (by omega) (by decide) (fun c9 => ?_) (fun c9 => ?_)
  · simp only [aln] at c9
    refine m_vret rfl rfl rfl (Nat.le_of_ble_eq_true rfl) (Nat.le_of_ble_eq_true rfl) ?_
    unfold joAdd
    first | (rw [if_pos (by omega)]; exact ⟨rfl, rfl⟩) | (rw [if_neg (by omega)]; exact ⟨rfl, rfl⟩)
  · simp only [aln] at c9
    refine m_aload_n rfl rfl rfl ?_
    refine m_gr (k := 0) rfl rfl (Nat.le_of_ble_eq_true rfl) rfl rfl (by first | decide | assumption | (simp only [cnt]; omega)) ?_
    refine m_aload_n rfl rfl rfl ?_
    refine m_gix (k := 2) (x := mem 1 n 2) rfl rfl (Nat.le_of_ble_eq_true rfl) rfl rfl (by first | decide | assumption | (simp only [cnt]; omega)) (by first | rfl | (repeat (first | rw [ms_s] | rw [ms_t (by decide)] | rw [ms_k (by decide)]))) ?_
    refine m_iload_n rfl rfl rfl ?_
    refine m_iasn (n := (mem 1 n 2).toNat) rfl rfl (Nat.le_of_ble_eq_true rfl) rfl (by first | decide | assumption | (simp only [cnt]; omega)) (by omega) (by simp only [aln]; omega) ?_
    refine m_aload_n rfl rfl rfl ?_
    refine m_dup rfl rfl rfl ?_
    refine m_gix (k := 2) (x := mem 1 n 2) rfl rfl (Nat.le_of_ble_eq_true rfl) rfl rfl (by first | decide | assumption | (simp only [cnt]; omega)) (by first | rfl | (repeat (first | rw [ms_s] | rw [ms_t (by decide)] | rw [ms_k (by decide)]))) ?_
    refine m_iconst rfl rfl ?_
    refine m_iadd rfl rfl ?_
    refine m_pi (k := 2) rfl rfl (Nat.le_of_ble_eq_true rfl) rfl rfl rfl rfl (by first | decide | assumption | (simp only [cnt]; omega)) ?_
    refine m_vret rfl rfl rfl (Nat.le_of_ble_eq_true rfl) (Nat.le_of_ble_eq_true rfl) ?_
    unfold joAdd
    first | (rw [if_pos (by omega)]; exact ⟨rfl, rfl⟩) | (rw [if_neg (by omega)]; exact ⟨rfl, rfl⟩)

def joFst (m : zkM) (n : Nat) : Int := if m 1 n 1 < m 1 n 2 then m 21 n (m 1 n 1).toNat else -1
set_option maxRecDepth 10000 in
theorem c_joFirst {l : Launch} {G : zkG} {mem : zkM} (hl : l.stackTraces = false) {n : Nat} (hn : n < 10) (hJ : joB mem n) : zkCt l G i_Jo_firstRelease 0 0 0 [vr 1 n] mem (zkR1 (vi (joFst mem n)) mem) := by
  refine zkCt_of hl ok_Jo_firstRelease (by decide +kernel) rfl rfl (List.forall_mem_cons.mpr ⟨rfl, fun _ h => nomatch h⟩) (Nat.le_of_ble_eq_true rfl) ?_
  obtain ⟨j1, j2⟩ := id hJ
  refine m_aload_n rfl rfl rfl ?_
  refine m_gix (k := 1) (x := mem 1 n 1) rfl rfl (Nat.le_of_ble_eq_true rfl) rfl rfl (by first | decide | assumption | (simp only [cnt]; omega)) (by first | rfl | (repeat (first | rw [ms_s] | rw [ms_t (by decide)] | rw [ms_k (by decide)]))) ?_
  refine m_aload_n rfl rfl rfl ?_
  refine m_gix (k := 2) (x := mem 1 n 2) rfl rfl (Nat.le_of_ble_eq_true rfl) rfl rfl (by first | decide | assumption | (simp only [cnt]; omega)) (by first | rfl | (repeat (first | rw [ms_s] | rw [ms_t (by decide)] | rw [ms_k (by decide)]))) ?_
  refine m_icmp_ge (tgt := 23) rfl rfl rfl (by omega) (by omega) (fun c8 => ?_) (fun c8 => ?_)
  · refine m_iconst rfl rfl ?_
    refine m_iret rfl rfl rfl (Nat.le_of_ble_eq_true rfl) (Nat.le_of_ble_eq_true rfl) ?_
    unfold joFst
    first | (rw [if_pos (by omega)]; exact ⟨rfl, rfl⟩) | (rw [if_neg (by omega)]; exact ⟨rfl, rfl⟩)
  · refine m_aload_n rfl rfl rfl ?_
    refine m_gr (k := 0) rfl rfl (Nat.le_of_ble_eq_true rfl) rfl rfl (by first | decide | assumption | (simp only [cnt]; omega)) ?_
    refine m_aload_n rfl rfl rfl ?_
    refine m_gix (k := 1) (x := mem 1 n 1) rfl rfl (Nat.le_of_ble_eq_true rfl) rfl rfl (by first | decide | assumption | (simp only [cnt]; omega)) (by first | rfl | (repeat (first | rw [ms_s] | rw [ms_t (by decide)] | rw [ms_k (by decide)]))) ?_
    refine m_ialx (n := (mem 1 n 1).toNat) (y := mem 21 n ((mem 1 n 1).toNat)) rfl rfl (Nat.le_of_ble_eq_true rfl) rfl (by first | decide | assumption | (simp only [cnt]; omega)) (by omega) (by simp only [aln]; omega) (by first | rfl | (repeat (first | rw [ms_s] | rw [ms_t (by decide)] | rw [ms_k (by decide)]))) ?_
    refine m_goto (tgt := 24) rfl rfl rfl ?_
    refine m_iret rfl rfl rfl (Nat.le_of_ble_eq_true rfl) (Nat.le_of_ble_eq_true rfl) ?_
    unfold joFst
    first | (rw [if_pos (by omega)]; exact ⟨rfl, rfl⟩) | (rw [if_neg (by omega)]; exact ⟨rfl, rfl⟩)

def joRmF (m : zkM) (n : Nat) : zkM := if m 1 n 1 < m 1 n 2 then mset m 1 n 1 (m 1 n 1 + 1) else m
set_option maxRecDepth 10000 in
theorem c_joRmF {l : Launch} {G : zkG} {mem : zkM} (hl : l.stackTraces = false) {n : Nat} (hn : n < 10) (hJ : joB mem n) : zkCt l G i_Jo_removeFirst 0 0 0 [vr 1 n] mem (zkR0 (joRmF mem n)) := by
  refine zkCt_of hl ok_Jo_removeFirst (by decide +kernel) rfl rfl (List.forall_mem_cons.mpr ⟨rfl, fun _ h => nomatch h⟩) (Nat.le_of_ble_eq_true rfl) ?_
  obtain ⟨j1, j2⟩ := id hJ
  refine m_aload_n rfl rfl rfl ?_
  refine m_gix (k := 1) (x := mem 1 n 1) rfl rfl (Nat.le_of_ble_eq_true rfl) rfl rfl (by first | decide | assumption | (simp only [cnt]; omega)) (by first | rfl | (repeat (first | rw [ms_s] | rw [ms_t (by decide)] | rw [ms_k (by decide)]))) ?_
  refine m_aload_n rfl rfl rfl ?_
  refine m_gix (k := 2) (x := mem 1 n 2) rfl rfl (Nat.le_of_ble_eq_true rfl) rfl rfl (by first | decide | assumption | (simp only [cnt]; omega)) (by first | rfl | (repeat (first | rw [ms_s] | rw [ms_t (by decide)] | rw [ms_k (by decide)]))) ?_
  refine m_icmp_ge (tgt := 21) rfl rfl rfl (by omega) (by omega) (fun c8 => ?_) (fun c8 => ?_)
  · refine m_vret rfl rfl rfl (Nat.le_of_ble_eq_true rfl) (Nat.le_of_ble_eq_true rfl) ?_
    unfold joRmF
    first | (rw [if_pos (by omega)]; exact ⟨rfl, rfl⟩) | (rw [if_neg (by omega)]; exact ⟨rfl, rfl⟩)
  · refine m_aload_n rfl rfl rfl ?_
    refine m_dup rfl rfl rfl ?_
    refine m_gix (k := 1) (x := mem 1 n 1) rfl rfl (Nat.le_of_ble_eq_true rfl) rfl rfl (by first | decide | assumption | (simp only [cnt]; omega)) (by first | rfl | (repeat (first | rw [ms_s] | rw [ms_t (by decide)] | rw [ms_k (by decide)]))) ?_
    refine m_iconst rfl rfl ?_
    refine m_iadd rfl rfl ?_
    refine m_pi (k := 1) rfl rfl (Nat.le_of_ble_eq_true rfl) rfl rfl rfl rfl (by first | decide | assumption | (simp only [cnt]; omega)) ?_
    refine m_vret rfl rfl rfl (Nat.le_of_ble_eq_true rfl) (Nat.le_of_ble_eq_true rfl) ?_
    unfold joRmF
    first | (rw [if_pos (by omega)]; exact ⟨rfl, rfl⟩) | (rw [if_neg (by omega)]; exact ⟨rfl, rfl⟩)

def joPf (m : zkM) (n : Nat) (x : Int) : Nat → Int
  | 0 => -1
  | r + 1 => if x ≤ m 21 n ((m 1 n 1).toNat + r) then (if m 21 n ((m 1 n 1).toNat + r) = x then r else joPf m n x r) else -1
theorem joPf_s (m : zkM) (n : Nat) (x : Int) (r : Nat) : joPf m n x (r + 1) = if x ≤ m 21 n ((m 1 n 1).toNat + r) then (if m 21 n ((m 1 n 1).toNat + r) = x then (r : Int) else joPf m n x r) else -1 := rfl
def joPl (m : zkM) (n : Nat) (x : Int) : Int := joPf m n x (m 1 n 2 - m 1 n 1).toNat
theorem joPf_b (m : zkM) (n : Nat) (x : Int) : ∀ r : Nat, -1 ≤ joPf m n x r ∧ joPf m n x r < r
  | 0 => by unfold joPf; omega
  | r + 1 => by
    have := joPf_b m n x r
    rw [joPf_s]
    split
    · split <;> omega
    · omega
theorem joPl_b {m : zkM} {n : Nat} (h : joB m n) (x : Int) : -1 ≤ joPl m n x ∧ joPl m n x < 400 ∧ joPl m n x < m 1 n 2 - m 1 n 1 + (if m 1 n 1 = m 1 n 2 then 0 else 0) := by
  have := joPf_b m n x (m 1 n 2 - m 1 n 1).toNat
  obtain ⟨h1, -⟩ := h
  unfold joPl
  split <;> omega
set_option maxRecDepth 10000 in
theorem w_placeOf {l : Launch} {G : zkG} {mem : zkM} {n : Nat} {x : Int} (hl : l.stackTraces = false) (hn : n < 10) (hJ : joB mem n) (hx : inR x) : ∀ (r : Nat) (k : Int), k = mem 1 n 1 + r - 1 → k < mem 1 n 2 → joPl mem n x = joPf mem n x r → zkW l G i_Jo_placeOf (zkKm G 0 0 0 (zkR1 (vi (joPl mem n x)) mem)) 0 0 7 [some (vr 1 n), some (vi x), some (vi k)] [] mem := by
  obtain ⟨j1, j2⟩ := id hJ
  intro r
  induction r with
  | zero =>
    intro k hk h1 h2
    refine m_iload_n rfl rfl rfl ?_
    refine m_aload_n rfl rfl rfl ?_
    refine m_gix (k := 1) (x := mem 1 n 1) rfl rfl (Nat.le_of_ble_eq_true rfl) rfl rfl (by first | decide | assumption | (simp only [cnt]; omega)) (by first | rfl | (repeat (first | rw [ms_s] | rw [ms_t (by decide)] | rw [ms_k (by decide)]))) ?_
    refine m_icmp_lt (tgt := 48) rfl rfl rfl (by omega) (by omega) (fun c12 => ?_) (fun c12 => ?_)
    · refine m_iconst rfl rfl ?_
      refine m_iret rfl rfl rfl (Nat.le_of_ble_eq_true rfl) (Nat.le_of_ble_eq_true rfl) ?_
      rw [h2]
      exact ⟨rfl, rfl⟩
    · exfalso; omega
  | succ r ih =>
    intro k hk h1 h2
    have j3 := j2 ((mem 1 n 1).toNat + r) (by omega)
    rw [joPf_s mem n x r] at h2
    refine m_iload_n rfl rfl rfl ?_
    refine m_aload_n rfl rfl rfl ?_
    refine m_gix (k := 1) (x := mem 1 n 1) rfl rfl (Nat.le_of_ble_eq_true rfl) rfl rfl (by first | decide | assumption | (simp only [cnt]; omega)) (by first | rfl | (repeat (first | rw [ms_s] | rw [ms_t (by decide)] | rw [ms_k (by decide)]))) ?_
    refine m_icmp_lt (tgt := 48) rfl rfl rfl (by omega) (by omega) (fun c12 => ?_) (fun c12 => ?_)
    · exfalso; omega
    · refine m_aload_n rfl rfl rfl ?_
      refine m_gr (k := 0) rfl rfl (Nat.le_of_ble_eq_true rfl) rfl rfl (by first | decide | assumption | (simp only [cnt]; omega)) ?_
      refine m_iload_n rfl rfl rfl ?_
      refine m_ialx (n := (mem 1 n 1).toNat + r) (y := mem 21 n ((mem 1 n 1).toNat + r)) rfl rfl (Nat.le_of_ble_eq_true rfl) rfl (by first | decide | assumption | (simp only [cnt]; omega)) (by omega) (by simp only [aln]; omega) (by first | rfl | (repeat (first | rw [ms_s] | rw [ms_t (by decide)] | rw [ms_k (by decide)]))) ?_
      refine m_iload_n rfl rfl rfl ?_
      refine m_icmp_lt (tgt := 48) rfl rfl rfl (by omega) (by omega) (fun c22 => ?_) (fun c22 => ?_)
      · refine m_iconst rfl rfl ?_
        refine m_iret rfl rfl rfl (Nat.le_of_ble_eq_true rfl) (Nat.le_of_ble_eq_true rfl) ?_
        rw [if_neg (by omega)] at h2
        rw [h2]
        exact ⟨rfl, rfl⟩
      · refine m_aload_n rfl rfl rfl ?_
        refine m_gr (k := 0) rfl rfl (Nat.le_of_ble_eq_true rfl) rfl rfl (by first | decide | assumption | (simp only [cnt]; omega)) ?_
        refine m_iload_n rfl rfl rfl ?_
        refine m_ialx (n := (mem 1 n 1).toNat + r) (y := mem 21 n ((mem 1 n 1).toNat + r)) rfl rfl (Nat.le_of_ble_eq_true rfl) rfl (by first | decide | assumption | (simp only [cnt]; omega)) (by omega) (by simp only [aln]; omega) (by first | rfl | (repeat (first | rw [ms_s] | rw [ms_t (by decide)] | rw [ms_k (by decide)]))) ?_
        refine m_iload_n rfl rfl rfl ?_
        refine m_icmp_ne (tgt := 42) rfl rfl rfl (by omega) (by omega) (fun c32 => ?_) (fun c32 => ?_)
        · refine m_iinc rfl rfl rfl (Nat.le_of_ble_eq_true rfl) rfl ?_
          refine m_goto (tgt := 7) rfl rfl rfl ?_
          rw [if_pos (by omega), if_neg (by omega)] at h2
          exact ih _ (by omega) (by omega) h2
        · refine m_iload_n rfl rfl rfl ?_
          refine m_aload_n rfl rfl rfl ?_
          refine m_gix (k := 1) (x := mem 1 n 1) rfl rfl (Nat.le_of_ble_eq_true rfl) rfl rfl (by first | decide | assumption | (simp only [cnt]; omega)) (by first | rfl | (repeat (first | rw [ms_s] | rw [ms_t (by decide)] | rw [ms_k (by decide)]))) ?_
          refine m_isub rfl rfl ?_
          refine m_iret rfl rfl rfl (Nat.le_of_ble_eq_true rfl) (Nat.le_of_ble_eq_true rfl) ?_
          rw [if_pos (by omega), if_pos (by omega)] at h2
          rw [h2]
          exact ⟨congrArg _ (congrArg _ (congrArg vi (by omega))), rfl⟩

set_option maxRecDepth 10000 in
theorem c_joPl {l : Launch} {G : zkG} {mem : zkM} (hl : l.stackTraces = false) {n : Nat} {x : Int} (hn : n < 10) (hJ : joB mem n) (hx : inR x) : zkCt l G i_Jo_placeOf 0 0 0 [vr 1 n, vi x] mem (zkR1 (vi (joPl mem n x)) mem) := by
  refine zkCt_of hl ok_Jo_placeOf (by decide +kernel) rfl rfl (List.forall_mem_cons.mpr ⟨rfl, (List.forall_mem_cons.mpr ⟨rfl, fun _ h => nomatch h⟩)⟩) (Nat.le_of_ble_eq_true rfl) ?_
  obtain ⟨j1, j2⟩ := id hJ
  refine m_aload_n rfl rfl rfl ?_
  refine m_gix (k := 2) (x := mem 1 n 2) rfl rfl (Nat.le_of_ble_eq_true rfl) rfl rfl (by first | decide | assumption | (simp only [cnt]; omega)) (by first | rfl | (repeat (first | rw [ms_s] | rw [ms_t (by decide)] | rw [ms_k (by decide)]))) ?_
  refine m_iconst rfl rfl ?_
  refine m_isub rfl rfl ?_
  refine m_istore_n rfl rfl (Nat.le_of_ble_eq_true rfl) rfl ?_
  exact w_placeOf hl hn hJ hx (mem 1 n 2 - mem 1 n 1).toNat _ (by omega) (by omega) rfl

def joRf (n a : Nat) (j : Nat) (s : zkM) : zkM := mset s 21 n (a + j) (s 21 n (a + j + 1))
def joRm (m : zkM) (n : Nat) (p : Int) : zkM := if 0 ≤ p ∧ p ≤ m 1 n 2 - m 1 n 1 - 1 then lp (joRf n (m 1 n 1 + p).toNat) (m 1 n 2 - 1 - m 1 n 1 - p).toNat (mset m 1 n 2 (m 1 n 2 - 1)) else m
set_option maxRecDepth 10000 in
theorem c_joRm {l : Launch} {G : zkG} {mem : zkM} (hl : l.stackTraces = false) {n : Nat} {p : Int} (hn : n < 10) (hJ : joB mem n) (hp : inR p) : zkCt l G i_Jo_removeAt 1 0 0 [vr 1 n, vi p] mem (zkR0 (joRm mem n p)) := by
  refine zkCt_of hl ok_Jo_removeAt (by decide +kernel) rfl rfl (List.forall_mem_cons.mpr ⟨rfl, (List.forall_mem_cons.mpr ⟨rfl, fun _ h => nomatch h⟩)⟩) (Nat.le_of_ble_eq_true rfl) ?_
  obtain ⟨j1, j2⟩ := id hJ
  refine m_iload_n rfl rfl rfl ?_
  refine m_iconst rfl rfl ?_
  refine m_aload_n rfl rfl rfl ?_
  refine m_cv1 rfl rfl lk_1_22 (c_joSize hl (by omega)) rfl (by first | decide | assumption | (simp only [cnt]; omega)) (Nat.le_of_ble_eq_true rfl) rfl rfl (Nat.le_of_ble_eq_true rfl) (Nat.le_of_ble_eq_true rfl) (Nat.le_of_ble_eq_true rfl) (Nat.le_of_ble_eq_true rfl) (Nat.le_of_ble_eq_true rfl) ?_
  refine m_iconst rfl rfl ?_
  refine m_isub rfl rfl ?_
  refine m_cs1 rfl rfl lk_1_26 (c_isWithin hl (by omega) (by omega) (by omega)) rfl rfl (Nat.le_of_ble_eq_true rfl) (Nat.le_of_ble_eq_true rfl) (Nat.le_of_ble_eq_true rfl) (Nat.le_of_ble_eq_true rfl) (Nat.le_of_ble_eq_true rfl) ?_
  refine m_if_ne_d (tgt := 15) rfl rfl rfl (fun c11 => ?_) (fun c11 => ?_)
  · refine m_aload_n rfl rfl rfl ?_
    refine m_dup rfl rfl rfl ?_
    refine m_gix (k := 2) (x := mem 1 n 2) rfl rfl (Nat.le_of_ble_eq_true rfl) rfl rfl (by first | decide | assumption | (simp only [cnt]; omega)) (by first | rfl | (repeat (first | rw [ms_s] | rw [ms_t (by decide)] | rw [ms_k (by decide)]))) ?_
    refine m_iconst rfl rfl ?_
    refine m_isub rfl rfl ?_
    refine m_pi (k := 2) rfl rfl (Nat.le_of_ble_eq_true rfl) rfl rfl rfl rfl (by first | decide | assumption | (simp only [cnt]; omega)) ?_
    refine m_aload_n rfl rfl rfl ?_
    refine m_gix (k := 1) (x := mem 1 n 1) rfl rfl (Nat.le_of_ble_eq_true rfl) rfl rfl (by first | decide | assumption | (simp only [cnt]; omega)) (by first | rfl | (repeat (first | rw [ms_s] | rw [ms_t (by decide)] | rw [ms_k (by decide)]))) ?_
    refine m_iload_n rfl rfl rfl ?_
    refine m_iadd rfl rfl ?_
    refine m_istore_n rfl rfl (Nat.le_of_ble_eq_true rfl) rfl ?_
    rw [show mem 1 n 1 + p = mem 1 n 1 + p + ((0 : Nat) : Int) by omega]
    refine zk_loop (P := fun (j : Nat) (s : zkM) => zkW l G i_Jo_removeAt _ 0 0 32 [some (vr 1 n), some (vi p), some (vi (mem 1 n 1 + p + j))] [] s) (I := fun j s => s 1 n 1 = mem 1 n 1 ∧ s 1 n 2 = mem 1 n 2 - 1) (joRf n (mem 1 n 1 + p).toNat) (mem 1 n 2 - 1 - mem 1 n 1 - p).toNat (mset mem 1 n 2 (mem 1 n 2 - 1)) ⟨ms_k (by decide) _ _ _ _ _ _, ms_s _ _ _ _ _⟩ (fun j s _ hI => hI) (fun j s hj hI hk => ?_) (fun hI => ?_)
    · refine m_iload_n rfl rfl rfl ?_
      refine m_aload_n rfl rfl rfl ?_
      refine m_gix (k := 2) (x := s 1 n 2) rfl rfl (Nat.le_of_ble_eq_true rfl) rfl rfl (by first | decide | assumption | (simp only [cnt]; omega)) (by first | rfl | (repeat (first | rw [ms_s] | rw [ms_t (by decide)] | rw [ms_k (by decide)]))) ?_
      refine m_icmp_ge (tgt := 60) rfl rfl rfl (by omega) (by omega) (fun c37 => ?_) (fun c37 => ?_)
      · exfalso; omega
      · refine m_aload_n rfl rfl rfl ?_
        refine m_gr (k := 0) rfl rfl (Nat.le_of_ble_eq_true rfl) rfl rfl (by first | decide | assumption | (simp only [cnt]; omega)) ?_
        refine m_iload_n rfl rfl rfl ?_
        refine m_aload_n rfl rfl rfl ?_
        refine m_gr (k := 0) rfl rfl (Nat.le_of_ble_eq_true rfl) rfl rfl (by first | decide | assumption | (simp only [cnt]; omega)) ?_
        refine m_iload_n rfl rfl rfl ?_
        refine m_iconst rfl rfl ?_
        refine m_iadd rfl rfl ?_
        refine m_ialx (n := (mem 1 n 1 + p).toNat + j + 1) (y := s 21 n ((mem 1 n 1 + p).toNat + j + 1)) rfl rfl (Nat.le_of_ble_eq_true rfl) rfl (by first | decide | assumption | (simp only [cnt]; omega)) (by omega) (by simp only [aln]; omega) (by first | rfl | (repeat (first | rw [ms_s] | rw [ms_t (by decide)] | rw [ms_k (by decide)]))) ?_
        refine m_iasn (n := (mem 1 n 1 + p).toNat + j) rfl rfl (Nat.le_of_ble_eq_true rfl) rfl (by first | decide | assumption | (simp only [cnt]; omega)) (by omega) (by simp only [aln]; omega) ?_
        refine m_iinc rfl rfl rfl (Nat.le_of_ble_eq_true rfl) rfl ?_
        refine m_goto (tgt := 32) rfl rfl rfl ?_
        rw [show mem 1 n 1 + p + (j : Int) + 1 = mem 1 n 1 + p + ((j + 1 : Nat) : Int) by omega]
        exact hk
    · refine m_iload_n rfl rfl rfl ?_
      refine m_aload_n rfl rfl rfl ?_
      refine m_gix (k := 2) (x := (lp (joRf n (mem 1 n 1 + p).toNat) (mem 1 n 2 - 1 - mem 1 n 1 - p).toNat (mset mem 1 n 2 (mem 1 n 2 - 1))) 1 n 2) rfl rfl (Nat.le_of_ble_eq_true rfl) rfl rfl (by first | decide | assumption | (simp only [cnt]; omega)) (by first | rfl | (repeat (first | rw [ms_s] | rw [ms_t (by decide)] | rw [ms_k (by decide)]))) ?_
      refine m_icmp_ge (tgt := 60) rfl rfl rfl (by omega) (by omega) (fun c37 => ?_) (fun c37 => ?_)
      · refine m_vret rfl rfl rfl (Nat.le_of_ble_eq_true rfl) (Nat.le_of_ble_eq_true rfl) ?_
        unfold joRm
        first | (rw [if_pos (by omega)]; exact ⟨rfl, rfl⟩)
      · exfalso; omega
  · refine m_vret rfl rfl rfl (Nat.le_of_ble_eq_true rfl) (Nat.le_of_ble_eq_true rfl) ?_
    unfold joRm
    first | (rw [if_neg (by omega)]; exact ⟨rfl, rfl⟩)

