/-! the class: the bench's unit -/
/-- what the choice of a unit reads is in its bounds -/
def beP (m : zkM) : Prop := (0 ≤ m 0 0 5 ∧ m 0 0 5 ≤ 5) ∧ (∀ i, i < 5 → joB m i ∧ (0 ≤ m 5 i 12 ∧ m 5 i 12 ≤ 6) ∧ inR (m 5 i 13) ∧ inR (m 5 i 4) ∧ ∀ k, k < 6 → -1 ≤ m 19 i k ∧ m 19 i k ≤ 3) ∧ (∀ k, k < 4 → inR (m 17 0 k)) ∧ inR (m 4 0 4)
theorem taHd_b {m : zkM} (h : beP m) {i : Nat} (hi : i < 5) : -1 ≤ taHd m i ∧ taHd m i ≤ 3 := by
  obtain ⟨-, h2, -⟩ := h
  obtain ⟨-, h3, -, -, h4⟩ := h2 i hi
  unfold taHd
  split
  · exact h4 _ (by omega)
  · omega
def beUr (m : zkM) (n : Nat) : Int := if taHd m n = -1 then m 5 n 4 else max (m 5 n 4) (m 17 0 (taHd m n).toNat)
theorem beUr_b {m : zkM} (h : beP m) {i : Nat} (hi : i < 5) : inR (beUr m i) := by
  have h1 := taHd_b h hi
  obtain ⟨-, h2, h3, -⟩ := h
  obtain ⟨-, -, -, h5, -⟩ := h2 i hi
  have h6 := h3 (taHd m i).toNat (by omega)
  unfold beUr
  split <;> omega
set_option maxRecDepth 10000 in
theorem c_beUr {l : Launch} {G : zkG} {mem : zkM} (hl : l.stackTraces = false) {i : Nat} (hP : beP mem) (hi : i < 5) : zkCt l G i_Be_urgencyOf 1 0 0 [vr 0 0, vr 5 i] mem (zkR1 (vi (beUr mem i)) mem) := by
  refine zkCt_of hl ok_Be_urgencyOf (by decide +kernel) rfl rfl (List.forall_mem_cons.mpr ⟨rfl, (List.forall_mem_cons.mpr ⟨rfl, fun _ h => nomatch h⟩)⟩) (Nat.le_of_ble_eq_true rfl) ?_
  obtain ⟨p1, p2, p3, p4, p5⟩ := hP.2.1 i hi
  have hh := taHd_b hP hi
  have h17 := hP.2.2.1 (taHd mem i).toNat (by omega)
  refine m_aload_n rfl rfl rfl ?_
  refine m_cv1 rfl rfl lk_0_162 (c_taHeld hl (by omega) (by omega) p3) rfl (by first | decide | assumption | (simp only [cnt]; omega)) (Nat.le_of_ble_eq_true rfl) rfl rfl (Nat.le_of_ble_eq_true rfl) (Nat.le_of_ble_eq_true rfl) (Nat.le_of_ble_eq_true rfl) (Nat.le_of_ble_eq_true rfl) (Nat.le_of_ble_eq_true rfl) ?_
  refine m_istore_n rfl rfl (Nat.le_of_ble_eq_true rfl) rfl ?_
  refine m_iload_n rfl rfl rfl ?_
  refine m_iconst rfl rfl ?_
  refine m_icmp_ne (tgt := 17) rfl rfl rfl (by omega) (by omega) (fun c7 => ?_) (fun c7 => ?_)
  · refine m_aload_n rfl rfl rfl ?_
    refine m_gix (k := 4) (x := mem 5 i 4) rfl rfl (Nat.le_of_ble_eq_true rfl) rfl rfl (by first | decide | assumption | (simp only [cnt]; omega)) (by first | rfl | (repeat (first | rw [ms_s] | rw [ms_t (by decide)] | rw [ms_k (by decide)]))) ?_
    refine m_aload_n rfl rfl rfl ?_
    refine m_gr (k := 3) rfl rfl (Nat.le_of_ble_eq_true rfl) rfl rfl (by first | decide | assumption | (simp only [cnt]; omega)) ?_
    refine m_iload_n rfl rfl rfl ?_
    refine m_ialx (n := (taHd mem i).toNat) (y := mem 17 _ ((taHd mem i).toNat)) rfl rfl (Nat.le_of_ble_eq_true rfl) rfl (by first | decide | assumption | (simp only [cnt]; omega)) (by omega) (by simp only [aln]; omega) (by first | rfl | (repeat (first | rw [ms_s] | rw [ms_t (by decide)] | rw [ms_k (by decide)]))) ?_
    refine m_max rfl rfl (by decide +kernel) (by omega) (by omega) (Nat.le_of_ble_eq_true rfl) (Nat.le_of_ble_eq_true rfl) (Nat.le_of_ble_eq_true rfl) (Nat.le_of_ble_eq_true rfl) ?_
    refine m_iret rfl rfl rfl (Nat.le_of_ble_eq_true rfl) (Nat.le_of_ble_eq_true rfl) ?_
    unfold beUr
    first | (rw [if_pos (by omega)]; exact ⟨rfl, rfl⟩) | (rw [if_neg (by omega)]; exact ⟨rfl, rfl⟩)
  · refine m_aload_n rfl rfl rfl ?_
    refine m_gix (k := 4) (x := mem 5 i 4) rfl rfl (Nat.le_of_ble_eq_true rfl) rfl rfl (by first | decide | assumption | (simp only [cnt]; omega)) (by first | rfl | (repeat (first | rw [ms_s] | rw [ms_t (by decide)] | rw [ms_k (by decide)]))) ?_
    refine m_goto (tgt := 30) rfl rfl rfl ?_
    refine m_iret rfl rfl rfl (Nat.le_of_ble_eq_true rfl) (Nat.le_of_ble_eq_true rfl) ?_
    unfold beUr
    first | (rw [if_pos (by omega)]; exact ⟨rfl, rfl⟩) | (rw [if_neg (by omega)]; exact ⟨rfl, rfl⟩)

def beHf (m : zkM) (x : Int) : Nat → Nat → Int
  | 0, _ => -1
  | r + 1, i => if taHd m i = x then i else beHf m x r (i + 1)
theorem beHf_s (m : zkM) (x : Int) (r i : Nat) : beHf m x (r + 1) i = if taHd m i = x then (i : Int) else beHf m x r (i + 1) := rfl
def beHo (m : zkM) (x : Int) : Int := beHf m x (m 0 0 5).toNat 0
set_option maxRecDepth 10000 in
theorem w_beHo {l : Launch} {G : zkG} {mem : zkM} {x : Int} (hl : l.stackTraces = false) (hP : beP mem) (hx : inR x) (h5 : 0 ≤ mem 0 0 5 ∧ mem 0 0 5 ≤ 5) : ∀ (r i : Nat), (i : Int) + r = mem 0 0 5 → beHo mem x = beHf mem x r i → zkW l G i_Be_holderOf (zkKm G 1 0 0 (zkR1 (vi (beHo mem x)) mem)) 0 0 2 [some (vr 0 0), some (vi x), some (vi i)] [] mem := by
  intro r
  induction r with
  | zero =>
    intro i h1 h2
    refine m_iload_n rfl rfl rfl ?_
    refine m_aload_n rfl rfl rfl ?_
    refine m_gix (k := 5) (x := mem 0 _ 5) rfl rfl (Nat.le_of_ble_eq_true rfl) rfl rfl (by first | decide | assumption | (simp only [cnt]; omega)) (by first | rfl | (repeat (first | rw [ms_s] | rw [ms_t (by decide)] | rw [ms_k (by decide)]))) ?_
    refine m_icmp_ge (tgt := 31) rfl rfl rfl (by omega) (by omega) (fun c7 => ?_) (fun c7 => ?_)
    · refine m_iconst rfl rfl ?_
      refine m_iret rfl rfl rfl (Nat.le_of_ble_eq_true rfl) (Nat.le_of_ble_eq_true rfl) ?_
      rw [h2]
      exact ⟨rfl, rfl⟩
    · exfalso; omega
  | succ r ih =>
    intro i h1 h2
    obtain ⟨p1, p2, p3, p4, p5⟩ := hP.2.1 i (by omega)
    have hh := taHd_b hP (i := i) (by omega)
    rw [beHf_s mem x r i] at h2
    refine m_iload_n rfl rfl rfl ?_
    refine m_aload_n rfl rfl rfl ?_
    refine m_gix (k := 5) (x := mem 0 _ 5) rfl rfl (Nat.le_of_ble_eq_true rfl) rfl rfl (by first | decide | assumption | (simp only [cnt]; omega)) (by first | rfl | (repeat (first | rw [ms_s] | rw [ms_t (by decide)] | rw [ms_k (by decide)]))) ?_
    refine m_icmp_ge (tgt := 31) rfl rfl rfl (by omega) (by omega) (fun c7 => ?_) (fun c7 => ?_)
    · exfalso; omega
    · refine m_aload_n rfl rfl rfl ?_
      refine m_gr (k := 0) rfl rfl (Nat.le_of_ble_eq_true rfl) rfl rfl (by first | decide | assumption | (simp only [cnt]; omega)) ?_
      refine m_iload_n rfl rfl rfl ?_
      refine m_aaln (n := i) (q := i) rfl rfl (by decide) (by omega) (by omega) (by omega) ?_
      refine m_cv1 rfl rfl lk_0_162 (c_taHeld (n := i) hl (by omega) (by omega) p3) rfl (by first | decide | assumption | (simp only [cnt]; omega)) (Nat.le_of_ble_eq_true rfl) rfl rfl (Nat.le_of_ble_eq_true rfl) (Nat.le_of_ble_eq_true rfl) (Nat.le_of_ble_eq_true rfl) (Nat.le_of_ble_eq_true rfl) (Nat.le_of_ble_eq_true rfl) ?_
      refine m_iload_n rfl rfl rfl ?_
      refine m_icmp_ne (tgt := 25) rfl rfl rfl (by omega) (by omega) (fun c20 => ?_) (fun c20 => ?_)
      · refine m_iinc rfl rfl rfl (Nat.le_of_ble_eq_true rfl) rfl ?_
        refine m_goto (tgt := 2) rfl rfl rfl ?_
        rw [if_neg (by omega)] at h2
        exact ih (i + 1) (by omega) h2
      · refine m_iload_n rfl rfl rfl ?_
        refine m_iret rfl rfl rfl (Nat.le_of_ble_eq_true rfl) (Nat.le_of_ble_eq_true rfl) ?_
        rw [if_pos (by omega)] at h2
        rw [h2]
        exact ⟨rfl, rfl⟩

set_option maxRecDepth 10000 in
theorem c_beHo {l : Launch} {G : zkG} {mem : zkM} (hl : l.stackTraces = false) {x : Int} (hP : beP mem) (hx : inR x) : zkCt l G i_Be_holderOf 1 0 0 [vr 0 0, vi x] mem (zkR1 (vi (beHo mem x)) mem) := by
  refine zkCt_of hl ok_Be_holderOf (by decide +kernel) rfl rfl (List.forall_mem_cons.mpr ⟨rfl, (List.forall_mem_cons.mpr ⟨rfl, fun _ h => nomatch h⟩)⟩) (Nat.le_of_ble_eq_true rfl) ?_
  have h5 := hP.1
  refine m_iconst rfl rfl ?_
  refine m_istore_n rfl rfl (Nat.le_of_ble_eq_true rfl) rfl ?_
  exact w_beHo hl hP hx h5 (mem 0 0 5).toNat 0 (by omega) rfl

def beUf (m : zkM) (t : Nat) (s : Int) : Int := if m 18 0 t = -1 then s else s + 1
def beUs (m : zkM) : Int := lp (beUf m) (m 0 0 7).toNat 0
set_option maxRecDepth 10000 in
theorem c_beUs {l : Launch} {G : zkG} {mem : zkM} (hl : l.stackTraces = false) (h7 : 0 ≤ mem 0 0 7 ∧ mem 0 0 7 ≤ 400) (h18 : ∀ k, k < 400 → inR (mem 18 0 k)) : zkCt l G i_Be_usedUnits 0 0 0 [vr 0 0] mem (zkR1 (vi (beUs mem)) mem) := by
  refine zkCt_of hl ok_Be_usedUnits (by decide +kernel) rfl rfl (List.forall_mem_cons.mpr ⟨rfl, fun _ h => nomatch h⟩) (Nat.le_of_ble_eq_true rfl) ?_
  refine m_iconst rfl rfl ?_
  refine m_istore_n rfl rfl (Nat.le_of_ble_eq_true rfl) rfl ?_
  refine m_iconst rfl rfl ?_
  refine m_istore_n rfl rfl (Nat.le_of_ble_eq_true rfl) rfl ?_
  refine zk_loop (P := fun (j : Nat) (s : Int) => zkW l G i_Be_usedUnits _ 0 0 4 [some (vr 0 0), some (vi s), some (vi j)] [] mem) (I := fun _ _ => True) (beUf mem) (mem 0 0 7).toNat 0 trivial (fun _ _ _ _ => trivial) (fun j s hj hI hk => ?_) (fun hI => ?_)
  · have a1 := h18 j (by omega)
    unfold beUf at hk
    refine m_iload_n rfl rfl rfl ?_
    refine m_aload_n rfl rfl rfl ?_
    refine m_gix (k := 7) (x := mem 0 _ 7) rfl rfl (Nat.le_of_ble_eq_true rfl) rfl rfl (by first | decide | assumption | (simp only [cnt]; omega)) (by first | rfl | (repeat (first | rw [ms_s] | rw [ms_t (by decide)] | rw [ms_k (by decide)]))) ?_
    refine m_icmp_ge (tgt := 31) rfl rfl rfl (by omega) (by omega) (fun c9 => ?_) (fun c9 => ?_)
    · exfalso; omega
    · refine m_aload_n rfl rfl rfl ?_
      refine m_gr (k := 4) rfl rfl (Nat.le_of_ble_eq_true rfl) rfl rfl (by first | decide | assumption | (simp only [cnt]; omega)) ?_
      refine m_iload_n rfl rfl rfl ?_
      refine m_ialx (n := j) (y := mem 18 _ (j)) rfl rfl (Nat.le_of_ble_eq_true rfl) rfl (by first | decide | assumption | (simp only [cnt]; omega)) (by omega) (by simp only [aln]; omega) (by first | rfl | (repeat (first | rw [ms_s] | rw [ms_t (by decide)] | rw [ms_k (by decide)]))) ?_
      refine m_iconst rfl rfl ?_
      refine m_icmp_eq (tgt := 25) rfl rfl rfl (by omega) (by omega) (fun c19 => ?_) (fun c19 => ?_)
      · refine m_iinc rfl rfl rfl (Nat.le_of_ble_eq_true rfl) rfl ?_
        refine m_goto (tgt := 4) rfl rfl rfl ?_
        first | (rw [if_pos (by omega)] at hk; exact hk) | (rw [if_neg (by omega)] at hk; exact hk)
      · refine m_iinc rfl rfl rfl (Nat.le_of_ble_eq_true rfl) rfl ?_
        refine m_iinc rfl rfl rfl (Nat.le_of_ble_eq_true rfl) rfl ?_
        refine m_goto (tgt := 4) rfl rfl rfl ?_
        first | (rw [if_pos (by omega)] at hk; exact hk) | (rw [if_neg (by omega)] at hk; exact hk)
  · refine m_iload_n rfl rfl rfl ?_
    refine m_aload_n rfl rfl rfl ?_
    refine m_gix (k := 7) (x := mem 0 _ 7) rfl rfl (Nat.le_of_ble_eq_true rfl) rfl rfl (by first | decide | assumption | (simp only [cnt]; omega)) (by first | rfl | (repeat (first | rw [ms_s] | rw [ms_t (by decide)] | rw [ms_k (by decide)]))) ?_
    refine m_icmp_ge (tgt := 31) rfl rfl rfl (by omega) (by omega) (fun c9 => ?_) (fun c9 => ?_)
    · refine m_iload_n rfl rfl rfl ?_
      refine m_iret rfl rfl rfl (Nat.le_of_ble_eq_true rfl) (Nat.le_of_ble_eq_true rfl) ?_
      exact ⟨rfl, rfl⟩
    · exfalso; omega

def beMf (m : zkM) (i : Nat) (s : Int × Int) : Int × Int := if m 1 i 1 = m 1 i 2 then s else if s.2 < beUr m i ∨ (beUr m i = s.2 ∧ taHd m i ≠ -1) then ((i : Int), beUr m i) else s
def beMu (m : zkM) (w : Int) : Int := (lp (beMf m) (m 0 0 5).toNat (if w = 0 then ((-1 : Int), (0 : Int)) else (9, m 4 0 4))).1
theorem beMu_b {m : zkM} (h : 0 ≤ m 0 0 5 ∧ m 0 0 5 ≤ 5) (w : Int) : -1 ≤ beMu m w ∧ beMu m w ≤ 9 := by
  unfold beMu
  refine lp_inv (fun (_ : Nat) (s : Int × Int) => -1 ≤ s.1 ∧ s.1 ≤ 9) (beMf m) (m 0 0 5).toNat _ ?_ (fun j s hj hI => ?_)
  · split <;> (dsimp only; omega)
  · unfold beMf
    split
    · exact hI
    · split
      · dsimp only; omega
      · exact hI
set_option maxRecDepth 10000 in
theorem c_beMu {l : Launch} {G : zkG} {mem : zkM} (hl : l.stackTraces = false) {w : Int} (hP : beP mem) (hw : w = 0 ∨ w = 1) : zkCt l G i_Be_mostUrgent 2 0 0 [vr 0 0, vi w] mem (zkR1 (vi (beMu mem w)) mem) := by
  refine zkCt_of hl ok_Be_mostUrgent (by decide +kernel) rfl rfl (List.forall_mem_cons.mpr ⟨rfl, (List.forall_mem_cons.mpr ⟨rfl, fun _ h => nomatch h⟩)⟩) (Nat.le_of_ble_eq_true rfl) ?_
  have h5 := hP.1
  have h44 := hP.2.2.2
  rcases hw with hz | hz
  · skip
    refine m_iload_n rfl rfl rfl ?_
    refine m_if_eq (tgt := 9) rfl rfl rfl (by omega) (fun c1 => ?_) (fun c1 => ?_)
    · refine m_iconst rfl rfl ?_
      refine m_istore_n rfl rfl (Nat.le_of_ble_eq_true rfl) rfl ?_
      refine m_iload_n rfl rfl rfl ?_
      refine m_if_eq (tgt := 25) rfl rfl rfl (by omega) (fun c12 => ?_) (fun c12 => ?_)
      · refine m_iconst rfl rfl ?_
        refine m_istore_n rfl rfl (Nat.le_of_ble_eq_true rfl) rfl ?_
        refine m_iconst rfl rfl ?_
        refine m_istore rfl rfl (Nat.le_of_ble_eq_true rfl) rfl ?_
        refine zk_loop (P := fun (j : Nat) (s : Int × Int) => ∀ o5 : Option zkV, zkW l G i_Be_mostUrgent (zkKm G 2 0 0 (zkR1 (vi (beMu mem w)) mem)) 0 0 30 [some (vr 0 0), some (vi w), some (vi s.1), some (vi s.2), some (vi j), o5] [] mem) (I := fun _ s => inR s.2) (beMf mem) (mem 0 0 5).toNat (((-1 : Int), (0 : Int))) (by dsimp only; omega) (fun j s hj hI => by have := beUr_b hP (i := j) (by omega); unfold beMf; split; exact hI; split; exact this; exact hI) (fun j s hj hI hk o5 => ?_) (fun hI o5 => ?_) none
        · obtain ⟨p1, p2, p3, p4, p5⟩ := hP.2.1 j (by omega)
          have hh := taHd_b hP (i := j) (by omega)
          have hu := beUr_b hP (i := j) (by omega)
          unfold beMf at hk
          refine m_iload rfl rfl rfl ?_
          refine m_aload_n rfl rfl rfl ?_
          refine m_gix (k := 5) (x := mem 0 _ 5) rfl rfl (Nat.le_of_ble_eq_true rfl) rfl rfl (by first | decide | assumption | (simp only [cnt]; omega)) (by first | rfl | (repeat (first | rw [ms_s] | rw [ms_t (by decide)] | rw [ms_k (by decide)]))) ?_
          refine m_icmp_ge (tgt := 109) rfl rfl rfl (by omega) (by omega) (fun c36 => ?_) (fun c36 => ?_)
          · exfalso; omega
          · refine m_aload_n rfl rfl rfl ?_
            refine m_gr (k := 0) rfl rfl (Nat.le_of_ble_eq_true rfl) rfl rfl (by first | decide | assumption | (simp only [cnt]; omega)) ?_
            refine m_iload rfl rfl rfl ?_
            refine m_aaln (n := j) (q := j) rfl rfl (by decide) (by omega) (by omega) (by omega) ?_
            refine m_gr (k := 2) rfl rfl (Nat.le_of_ble_eq_true rfl) rfl rfl (by first | decide | assumption | (simp only [cnt]; omega)) ?_
            refine m_cv1 rfl rfl lk_0_153 (c_joIsEmpty (n := j) hl (by omega) p1) rfl (by first | decide | assumption | (simp only [cnt]; omega)) (Nat.le_of_ble_eq_true rfl) rfl rfl (Nat.le_of_ble_eq_true rfl) (Nat.le_of_ble_eq_true rfl) (Nat.le_of_ble_eq_true rfl) (Nat.le_of_ble_eq_true rfl) (Nat.le_of_ble_eq_true rfl) ?_
            refine m_if_eq_d (tgt := 58) rfl rfl rfl (fun c52 => ?_) (fun c52 => ?_)
            · refine m_aload_n rfl rfl rfl ?_
              refine m_aload_n rfl rfl rfl ?_
              refine m_gr (k := 0) rfl rfl (Nat.le_of_ble_eq_true rfl) rfl rfl (by first | decide | assumption | (simp only [cnt]; omega)) ?_
              refine m_iload rfl rfl rfl ?_
              refine m_aaln (n := j) (q := j) rfl rfl (by decide) (by omega) (by omega) (by omega) ?_
              refine m_cv1 rfl rfl lk_0_158 (c_beUr (i := j) hl hP (by omega)) rfl (by first | decide | assumption | (simp only [cnt]; omega)) (Nat.le_of_ble_eq_true rfl) rfl rfl (Nat.le_of_ble_eq_true rfl) (Nat.le_of_ble_eq_true rfl) (Nat.le_of_ble_eq_true rfl) (Nat.le_of_ble_eq_true rfl) (Nat.le_of_ble_eq_true rfl) ?_
              refine m_istore rfl rfl (Nat.le_of_ble_eq_true rfl) rfl ?_
              refine m_iload rfl rfl rfl ?_
              refine m_iload_n rfl rfl rfl ?_
              refine m_icmp_gt (tgt := 97) rfl rfl rfl (by omega) (by omega) (fun c74 => ?_) (fun c74 => ?_)
              · refine m_iload rfl rfl rfl ?_
                refine m_istore_n rfl rfl (Nat.le_of_ble_eq_true rfl) rfl ?_
                refine m_iload rfl rfl rfl ?_
                refine m_istore_n rfl rfl (Nat.le_of_ble_eq_true rfl) rfl ?_
                refine m_iinc rfl rfl rfl (Nat.le_of_ble_eq_true rfl) rfl ?_
                refine m_goto (tgt := 30) rfl rfl rfl ?_
                first | (rw [if_pos (by omega)] at hk; exact hk _) | (rw [if_neg (by omega), if_pos (by omega)] at hk; exact hk _) | (rw [if_neg (by omega), if_neg (by omega)] at hk; exact hk _)
              · refine m_iload rfl rfl rfl ?_
                refine m_iload_n rfl rfl rfl ?_
                refine m_icmp_ne (tgt := 103) rfl rfl rfl (by omega) (by omega) (fun c80 => ?_) (fun c80 => ?_)
                · refine m_iinc rfl rfl rfl (Nat.le_of_ble_eq_true rfl) rfl ?_
                  refine m_goto (tgt := 30) rfl rfl rfl ?_
                  first | (rw [if_pos (by omega)] at hk; exact hk _) | (rw [if_neg (by omega), if_pos (by omega)] at hk; exact hk _) | (rw [if_neg (by omega), if_neg (by omega)] at hk; exact hk _)
                · refine m_aload_n rfl rfl rfl ?_
                  refine m_gr (k := 0) rfl rfl (Nat.le_of_ble_eq_true rfl) rfl rfl (by first | decide | assumption | (simp only [cnt]; omega)) ?_
                  refine m_iload rfl rfl rfl ?_
                  refine m_aaln (n := j) (q := j) rfl rfl (by decide) (by omega) (by omega) (by omega) ?_
                  refine m_cv1 rfl rfl lk_0_162 (c_taHeld (n := j) hl (by omega) (by omega) p3) rfl (by first | decide | assumption | (simp only [cnt]; omega)) (Nat.le_of_ble_eq_true rfl) rfl rfl (Nat.le_of_ble_eq_true rfl) (Nat.le_of_ble_eq_true rfl) (Nat.le_of_ble_eq_true rfl) (Nat.le_of_ble_eq_true rfl) (Nat.le_of_ble_eq_true rfl) ?_
                  refine m_iconst rfl rfl ?_
                  refine m_icmp_eq (tgt := 103) rfl rfl rfl (by omega) (by omega) (fun c94 => ?_) (fun c94 => ?_)
                  · refine m_iinc rfl rfl rfl (Nat.le_of_ble_eq_true rfl) rfl ?_
                    refine m_goto (tgt := 30) rfl rfl rfl ?_
                    first | (rw [if_pos (by omega)] at hk; exact hk _) | (rw [if_neg (by omega), if_pos (by omega)] at hk; exact hk _) | (rw [if_neg (by omega), if_neg (by omega)] at hk; exact hk _)
                  · refine m_iload rfl rfl rfl ?_
                    refine m_istore_n rfl rfl (Nat.le_of_ble_eq_true rfl) rfl ?_
                    refine m_iload rfl rfl rfl ?_
                    refine m_istore_n rfl rfl (Nat.le_of_ble_eq_true rfl) rfl ?_
                    refine m_iinc rfl rfl rfl (Nat.le_of_ble_eq_true rfl) rfl ?_
                    refine m_goto (tgt := 30) rfl rfl rfl ?_
                    first | (rw [if_pos (by omega)] at hk; exact hk _) | (rw [if_neg (by omega), if_pos (by omega)] at hk; exact hk _) | (rw [if_neg (by omega), if_neg (by omega)] at hk; exact hk _)
            · refine m_goto (tgt := 103) rfl rfl rfl ?_
              refine m_iinc rfl rfl rfl (Nat.le_of_ble_eq_true rfl) rfl ?_
              refine m_goto (tgt := 30) rfl rfl rfl ?_
              first | (rw [if_pos (by omega)] at hk; exact hk _) | (rw [if_neg (by omega), if_pos (by omega)] at hk; exact hk _) | (rw [if_neg (by omega), if_neg (by omega)] at hk; exact hk _)
        · refine m_iload rfl rfl rfl ?_
          refine m_aload_n rfl rfl rfl ?_
          refine m_gix (k := 5) (x := mem 0 _ 5) rfl rfl (Nat.le_of_ble_eq_true rfl) rfl rfl (by first | decide | assumption | (simp only [cnt]; omega)) (by first | rfl | (repeat (first | rw [ms_s] | rw [ms_t (by decide)] | rw [ms_k (by decide)]))) ?_
          refine m_icmp_ge (tgt := 109) rfl rfl rfl (by omega) (by omega) (fun c36 => ?_) (fun c36 => ?_)
          · refine m_iload_n rfl rfl rfl ?_
            refine m_iret rfl rfl rfl (Nat.le_of_ble_eq_true rfl) (Nat.le_of_ble_eq_true rfl) ?_
            refine ⟨?_, rfl⟩
            unfold beMu
            rw [if_pos hz]
          · exfalso; omega
      · exfalso; omega
    · exfalso; omega
  · skip
    refine m_iload_n rfl rfl rfl ?_
    refine m_if_eq (tgt := 9) rfl rfl rfl (by omega) (fun c1 => ?_) (fun c1 => ?_)
    · exfalso; omega
    · refine m_bipush rfl rfl (by decide) ?_
      refine m_goto (tgt := 10) rfl rfl rfl ?_
      refine m_istore_n rfl rfl (Nat.le_of_ble_eq_true rfl) rfl ?_
      refine m_iload_n rfl rfl rfl ?_
      refine m_if_eq (tgt := 25) rfl rfl rfl (by omega) (fun c12 => ?_) (fun c12 => ?_)
      · exfalso; omega
      · refine m_aload_n rfl rfl rfl ?_
        refine m_gr (k := 1) rfl rfl (Nat.le_of_ble_eq_true rfl) rfl rfl (by first | decide | assumption | (simp only [cnt]; omega)) ?_
        refine m_gix (k := 4) (x := mem 4 _ 4) rfl rfl (Nat.le_of_ble_eq_true rfl) rfl rfl (by first | decide | assumption | (simp only [cnt]; omega)) (by first | rfl | (repeat (first | rw [ms_s] | rw [ms_t (by decide)] | rw [ms_k (by decide)]))) ?_
        refine m_goto (tgt := 26) rfl rfl rfl ?_
        refine m_istore_n rfl rfl (Nat.le_of_ble_eq_true rfl) rfl ?_
        refine m_iconst rfl rfl ?_
        refine m_istore rfl rfl (Nat.le_of_ble_eq_true rfl) rfl ?_
        refine zk_loop (P := fun (j : Nat) (s : Int × Int) => ∀ o5 : Option zkV, zkW l G i_Be_mostUrgent (zkKm G 2 0 0 (zkR1 (vi (beMu mem w)) mem)) 0 0 30 [some (vr 0 0), some (vi w), some (vi s.1), some (vi s.2), some (vi j), o5] [] mem) (I := fun _ s => inR s.2) (beMf mem) (mem 0 0 5).toNat (((9 : Int), mem 4 0 4)) (by dsimp only; omega) (fun j s hj hI => by have := beUr_b hP (i := j) (by omega); unfold beMf; split; exact hI; split; exact this; exact hI) (fun j s hj hI hk o5 => ?_) (fun hI o5 => ?_) none
        · obtain ⟨p1, p2, p3, p4, p5⟩ := hP.2.1 j (by omega)
          have hh := taHd_b hP (i := j) (by omega)
          have hu := beUr_b hP (i := j) (by omega)
          unfold beMf at hk
          refine m_iload rfl rfl rfl ?_
          refine m_aload_n rfl rfl rfl ?_
          refine m_gix (k := 5) (x := mem 0 _ 5) rfl rfl (Nat.le_of_ble_eq_true rfl) rfl rfl (by first | decide | assumption | (simp only [cnt]; omega)) (by first | rfl | (repeat (first | rw [ms_s] | rw [ms_t (by decide)] | rw [ms_k (by decide)]))) ?_
          refine m_icmp_ge (tgt := 109) rfl rfl rfl (by omega) (by omega) (fun c36 => ?_) (fun c36 => ?_)
          · exfalso; omega
          · refine m_aload_n rfl rfl rfl ?_
            refine m_gr (k := 0) rfl rfl (Nat.le_of_ble_eq_true rfl) rfl rfl (by first | decide | assumption | (simp only [cnt]; omega)) ?_
            refine m_iload rfl rfl rfl ?_
            refine m_aaln (n := j) (q := j) rfl rfl (by decide) (by omega) (by omega) (by omega) ?_
            refine m_gr (k := 2) rfl rfl (Nat.le_of_ble_eq_true rfl) rfl rfl (by first | decide | assumption | (simp only [cnt]; omega)) ?_
            refine m_cv1 rfl rfl lk_0_153 (c_joIsEmpty (n := j) hl (by omega) p1) rfl (by first | decide | assumption | (simp only [cnt]; omega)) (Nat.le_of_ble_eq_true rfl) rfl rfl (Nat.le_of_ble_eq_true rfl) (Nat.le_of_ble_eq_true rfl) (Nat.le_of_ble_eq_true rfl) (Nat.le_of_ble_eq_true rfl) (Nat.le_of_ble_eq_true rfl) ?_
            refine m_if_eq_d (tgt := 58) rfl rfl rfl (fun c52 => ?_) (fun c52 => ?_)
            · refine m_aload_n rfl rfl rfl ?_
              refine m_aload_n rfl rfl rfl ?_
              refine m_gr (k := 0) rfl rfl (Nat.le_of_ble_eq_true rfl) rfl rfl (by first | decide | assumption | (simp only [cnt]; omega)) ?_
              refine m_iload rfl rfl rfl ?_
              refine m_aaln (n := j) (q := j) rfl rfl (by decide) (by omega) (by omega) (by omega) ?_
              refine m_cv1 rfl rfl lk_0_158 (c_beUr (i := j) hl hP (by omega)) rfl (by first | decide | assumption | (simp only [cnt]; omega)) (Nat.le_of_ble_eq_true rfl) rfl rfl (Nat.le_of_ble_eq_true rfl) (Nat.le_of_ble_eq_true rfl) (Nat.le_of_ble_eq_true rfl) (Nat.le_of_ble_eq_true rfl) (Nat.le_of_ble_eq_true rfl) ?_
              refine m_istore rfl rfl (Nat.le_of_ble_eq_true rfl) rfl ?_
              refine m_iload rfl rfl rfl ?_
              refine m_iload_n rfl rfl rfl ?_
              refine m_icmp_gt (tgt := 97) rfl rfl rfl (by omega) (by omega) (fun c74 => ?_) (fun c74 => ?_)
              · refine m_iload rfl rfl rfl ?_
                refine m_istore_n rfl rfl (Nat.le_of_ble_eq_true rfl) rfl ?_
                refine m_iload rfl rfl rfl ?_
                refine m_istore_n rfl rfl (Nat.le_of_ble_eq_true rfl) rfl ?_
                refine m_iinc rfl rfl rfl (Nat.le_of_ble_eq_true rfl) rfl ?_
                refine m_goto (tgt := 30) rfl rfl rfl ?_
                first | (rw [if_pos (by omega)] at hk; exact hk _) | (rw [if_neg (by omega), if_pos (by omega)] at hk; exact hk _) | (rw [if_neg (by omega), if_neg (by omega)] at hk; exact hk _)
              · refine m_iload rfl rfl rfl ?_
                refine m_iload_n rfl rfl rfl ?_
                refine m_icmp_ne (tgt := 103) rfl rfl rfl (by omega) (by omega) (fun c80 => ?_) (fun c80 => ?_)
                · refine m_iinc rfl rfl rfl (Nat.le_of_ble_eq_true rfl) rfl ?_
                  refine m_goto (tgt := 30) rfl rfl rfl ?_
                  first | (rw [if_pos (by omega)] at hk; exact hk _) | (rw [if_neg (by omega), if_pos (by omega)] at hk; exact hk _) | (rw [if_neg (by omega), if_neg (by omega)] at hk; exact hk _)
                · refine m_aload_n rfl rfl rfl ?_
                  refine m_gr (k := 0) rfl rfl (Nat.le_of_ble_eq_true rfl) rfl rfl (by first | decide | assumption | (simp only [cnt]; omega)) ?_
                  refine m_iload rfl rfl rfl ?_
                  refine m_aaln (n := j) (q := j) rfl rfl (by decide) (by omega) (by omega) (by omega) ?_
                  refine m_cv1 rfl rfl lk_0_162 (c_taHeld (n := j) hl (by omega) (by omega) p3) rfl (by first | decide | assumption | (simp only [cnt]; omega)) (Nat.le_of_ble_eq_true rfl) rfl rfl (Nat.le_of_ble_eq_true rfl) (Nat.le_of_ble_eq_true rfl) (Nat.le_of_ble_eq_true rfl) (Nat.le_of_ble_eq_true rfl) (Nat.le_of_ble_eq_true rfl) ?_
                  refine m_iconst rfl rfl ?_
                  refine m_icmp_eq (tgt := 103) rfl rfl rfl (by omega) (by omega) (fun c94 => ?_) (fun c94 => ?_)
                  · refine m_iinc rfl rfl rfl (Nat.le_of_ble_eq_true rfl) rfl ?_
                    refine m_goto (tgt := 30) rfl rfl rfl ?_
                    first | (rw [if_pos (by omega)] at hk; exact hk _) | (rw [if_neg (by omega), if_pos (by omega)] at hk; exact hk _) | (rw [if_neg (by omega), if_neg (by omega)] at hk; exact hk _)
                  · refine m_iload rfl rfl rfl ?_
                    refine m_istore_n rfl rfl (Nat.le_of_ble_eq_true rfl) rfl ?_
                    refine m_iload rfl rfl rfl ?_
                    refine m_istore_n rfl rfl (Nat.le_of_ble_eq_true rfl) rfl ?_
                    refine m_iinc rfl rfl rfl (Nat.le_of_ble_eq_true rfl) rfl ?_
                    refine m_goto (tgt := 30) rfl rfl rfl ?_
                    first | (rw [if_pos (by omega)] at hk; exact hk _) | (rw [if_neg (by omega), if_pos (by omega)] at hk; exact hk _) | (rw [if_neg (by omega), if_neg (by omega)] at hk; exact hk _)
            · refine m_goto (tgt := 103) rfl rfl rfl ?_
              refine m_iinc rfl rfl rfl (Nat.le_of_ble_eq_true rfl) rfl ?_
              refine m_goto (tgt := 30) rfl rfl rfl ?_
              first | (rw [if_pos (by omega)] at hk; exact hk _) | (rw [if_neg (by omega), if_pos (by omega)] at hk; exact hk _) | (rw [if_neg (by omega), if_neg (by omega)] at hk; exact hk _)
        · refine m_iload rfl rfl rfl ?_
          refine m_aload_n rfl rfl rfl ?_
          refine m_gix (k := 5) (x := mem 0 _ 5) rfl rfl (Nat.le_of_ble_eq_true rfl) rfl rfl (by first | decide | assumption | (simp only [cnt]; omega)) (by first | rfl | (repeat (first | rw [ms_s] | rw [ms_t (by decide)] | rw [ms_k (by decide)]))) ?_
          refine m_icmp_ge (tgt := 109) rfl rfl rfl (by omega) (by omega) (fun c36 => ?_) (fun c36 => ?_)
          · refine m_iload_n rfl rfl rfl ?_
            refine m_iret rfl rfl rfl (Nat.le_of_ble_eq_true rfl) (Nat.le_of_ble_eq_true rfl) ?_
            refine ⟨?_, rfl⟩
            unfold beMu
            rw [if_neg (by omega)]
          · exfalso; omega

def beBf (m : zkM) : Int := if 0 < m 0 0 7 then m 18 0 (m 0 0 7 - 1).toNat else -1
def beNp (m : zkM) (c : Int) : zkM := if beBf m ≠ c ∧ (0 ≤ beBf m ∧ beBf m ≤ m 0 0 5 - 1) ∧ (0 < m 5 (beBf m).toNat 12 ∨ 0 < m 5 (beBf m).toNat 13) then mset m 22 (beBf m).toNat 4 (m 22 (beBf m).toNat 4 + 1) else m
set_option maxRecDepth 10000 in
theorem c_beNp {l : Launch} {G : zkG} {mem : zkM} (hl : l.stackTraces = false) {c : Int} (h5 : 0 ≤ mem 0 0 5 ∧ mem 0 0 5 ≤ 5) (hc : inR c) (h7 : 0 ≤ mem 0 0 7 ∧ mem 0 0 7 ≤ 400) (h18 : ∀ k, k < 400 → inR (mem 18 0 k)) (hs : ∀ i, i < 5 → inR (mem 5 i 12) ∧ inR (mem 5 i 13)) : zkCt l G i_Be_notePreemption 2 0 0 [vr 0 0, vi c] mem (zkR0 (beNp mem c)) := by
  refine zkCt_of hl ok_Be_notePreemption (by decide +kernel) rfl rfl (List.forall_mem_cons.mpr ⟨rfl, (List.forall_mem_cons.mpr ⟨rfl, fun _ h => nomatch h⟩)⟩) (Nat.le_of_ble_eq_true rfl) ?_
  have h18a := h18 (mem 0 0 7 - 1).toNat (by omega)
  have hbf : inR (beBf mem) := by unfold beBf; split <;> omega
  refine m_aload_n rfl rfl rfl ?_
  refine m_gix (k := 7) (x := mem 0 _ 7) rfl rfl (Nat.le_of_ble_eq_true rfl) rfl rfl (by first | decide | assumption | (simp only [cnt]; omega)) (by first | rfl | (repeat (first | rw [ms_s] | rw [ms_t (by decide)] | rw [ms_k (by decide)]))) ?_
  refine m_if_le (tgt := 21) rfl rfl rfl (by omega) (fun c4 => ?_) (fun c4 => ?_)
  · refine m_iconst rfl rfl ?_
    first | (rw [show mem 18 0 (mem 0 0 7 - 1).toNat = beBf mem by unfold beBf; rw [if_pos (by omega)]]) | (rw [show vi (-1) = vi (beBf mem) by unfold beBf; rw [if_neg (by omega)]])
    refine m_istore_n rfl rfl (Nat.le_of_ble_eq_true rfl) rfl ?_
    refine m_iload_n rfl rfl rfl ?_
    refine m_iload_n rfl rfl rfl ?_
    refine m_icmp_eq (tgt := 63) rfl rfl rfl (by omega) (by omega) (fun c25 => ?_) (fun c25 => ?_)
    · refine m_vret rfl rfl rfl (Nat.le_of_ble_eq_true rfl) (Nat.le_of_ble_eq_true rfl) ?_
      unfold beNp
      first | (rw [if_pos (by omega)]; exact ⟨rfl, rfl⟩) | (rw [if_neg (by omega)]; exact ⟨rfl, rfl⟩)
    · refine m_aload_n rfl rfl rfl ?_
      refine m_iload_n rfl rfl rfl ?_
      refine m_cv1 rfl rfl lk_0_82 (c_beHas hl h5 hbf) rfl (by first | decide | assumption | (simp only [cnt]; omega)) (Nat.le_of_ble_eq_true rfl) rfl rfl (Nat.le_of_ble_eq_true rfl) (Nat.le_of_ble_eq_true rfl) (Nat.le_of_ble_eq_true rfl) (Nat.le_of_ble_eq_true rfl) (Nat.le_of_ble_eq_true rfl) ?_
      refine m_if_eq_d (tgt := 63) rfl rfl rfl (fun c33 => ?_) (fun c33 => ?_)
      · refine m_vret rfl rfl rfl (Nat.le_of_ble_eq_true rfl) (Nat.le_of_ble_eq_true rfl) ?_
        unfold beNp
        first | (rw [if_pos (by omega)]; exact ⟨rfl, rfl⟩) | (rw [if_neg (by omega)]; exact ⟨rfl, rfl⟩)
      · have hs1 := hs (beBf mem).toNat (by omega)
        refine m_aload_n rfl rfl rfl ?_
        refine m_gr (k := 0) rfl rfl (Nat.le_of_ble_eq_true rfl) rfl rfl (by first | decide | assumption | (simp only [cnt]; omega)) ?_
        refine m_iload_n rfl rfl rfl ?_
        refine m_aaln (n := (beBf mem).toNat) (q := (beBf mem).toNat) rfl rfl (by decide) (by omega) (by omega) (by omega) ?_
        refine m_cv1 rfl rfl lk_0_165 (c_taStarted (n := (beBf mem).toNat) hl (by omega) hs1.1 hs1.2) rfl (by first | decide | assumption | (simp only [cnt]; omega)) (Nat.le_of_ble_eq_true rfl) rfl rfl (Nat.le_of_ble_eq_true rfl) (Nat.le_of_ble_eq_true rfl) (Nat.le_of_ble_eq_true rfl) (Nat.le_of_ble_eq_true rfl) (Nat.le_of_ble_eq_true rfl) ?_
        refine m_if_eq_d (tgt := 63) rfl rfl rfl (fun c45 => ?_) (fun c45 => ?_)
        · refine m_vret rfl rfl rfl (Nat.le_of_ble_eq_true rfl) (Nat.le_of_ble_eq_true rfl) ?_
          unfold beNp
          first | (rw [if_pos (by omega)]; exact ⟨rfl, rfl⟩) | (rw [if_neg (by omega)]; exact ⟨rfl, rfl⟩)
        · refine m_aload_n rfl rfl rfl ?_
          refine m_gr (k := 0) rfl rfl (Nat.le_of_ble_eq_true rfl) rfl rfl (by first | decide | assumption | (simp only [cnt]; omega)) ?_
          refine m_iload_n rfl rfl rfl ?_
          refine m_aaln (n := (beBf mem).toNat) (q := (beBf mem).toNat) rfl rfl (by decide) (by omega) (by omega) (by omega) ?_
          refine m_gr (k := 3) rfl rfl (Nat.le_of_ble_eq_true rfl) rfl rfl (by first | decide | assumption | (simp only [cnt]; omega)) ?_
          refine m_iconst rfl rfl ?_
          refine m_dup2 rfl rfl rfl rfl ?_
          refine m_ialx (n := 4) (y := mem 22 (beBf mem).toNat (4)) rfl rfl (Nat.le_of_ble_eq_true rfl) rfl (by first | decide | assumption | (simp only [cnt]; omega)) (by omega) (by simp only [aln]; omega) (by first | rfl | (repeat (first | rw [ms_s] | rw [ms_t (by decide)] | rw [ms_k (by decide)]))) ?_
          refine m_iconst rfl rfl ?_
          refine m_iadd rfl rfl ?_
          refine m_iasn (n := 4) rfl rfl (Nat.le_of_ble_eq_true rfl) rfl (by first | decide | assumption | (simp only [cnt]; omega)) (by omega) (by simp only [aln]; omega) ?_
          refine m_vret rfl rfl rfl (Nat.le_of_ble_eq_true rfl) (Nat.le_of_ble_eq_true rfl) ?_
          unfold beNp
          first | (rw [if_pos (by omega)]; exact ⟨rfl, rfl⟩) | (rw [if_neg (by omega)]; exact ⟨rfl, rfl⟩)
  · refine m_aload_n rfl rfl rfl ?_
    refine m_gr (k := 4) rfl rfl (Nat.le_of_ble_eq_true rfl) rfl rfl (by first | decide | assumption | (simp only [cnt]; omega)) ?_
    refine m_aload_n rfl rfl rfl ?_
    refine m_gix (k := 7) (x := mem 0 _ 7) rfl rfl (Nat.le_of_ble_eq_true rfl) rfl rfl (by first | decide | assumption | (simp only [cnt]; omega)) (by first | rfl | (repeat (first | rw [ms_s] | rw [ms_t (by decide)] | rw [ms_k (by decide)]))) ?_
    refine m_iconst rfl rfl ?_
    refine m_isub rfl rfl ?_
    refine m_ialx (n := (mem 0 0 7 - 1).toNat) (y := mem 18 _ ((mem 0 0 7 - 1).toNat)) rfl rfl (Nat.le_of_ble_eq_true rfl) rfl (by first | decide | assumption | (simp only [cnt]; omega)) (by omega) (by simp only [aln]; omega) (by first | rfl | (repeat (first | rw [ms_s] | rw [ms_t (by decide)] | rw [ms_k (by decide)]))) ?_
    refine m_goto (tgt := 22) rfl rfl rfl ?_
    first | (rw [show mem 18 0 (mem 0 0 7 - 1).toNat = beBf mem by unfold beBf; rw [if_pos (by omega)]]) | (rw [show vi (-1) = vi (beBf mem) by unfold beBf; rw [if_neg (by omega)]])
    refine m_istore_n rfl rfl (Nat.le_of_ble_eq_true rfl) rfl ?_
    refine m_iload_n rfl rfl rfl ?_
    refine m_iload_n rfl rfl rfl ?_
    refine m_icmp_eq (tgt := 63) rfl rfl rfl (by omega) (by omega) (fun c25 => ?_) (fun c25 => ?_)
    · refine m_vret rfl rfl rfl (Nat.le_of_ble_eq_true rfl) (Nat.le_of_ble_eq_true rfl) ?_
      unfold beNp
      first | (rw [if_pos (by omega)]; exact ⟨rfl, rfl⟩) | (rw [if_neg (by omega)]; exact ⟨rfl, rfl⟩)
    · refine m_aload_n rfl rfl rfl ?_
      refine m_iload_n rfl rfl rfl ?_
      refine m_cv1 rfl rfl lk_0_82 (c_beHas hl h5 hbf) rfl (by first | decide | assumption | (simp only [cnt]; omega)) (Nat.le_of_ble_eq_true rfl) rfl rfl (Nat.le_of_ble_eq_true rfl) (Nat.le_of_ble_eq_true rfl) (Nat.le_of_ble_eq_true rfl) (Nat.le_of_ble_eq_true rfl) (Nat.le_of_ble_eq_true rfl) ?_
      refine m_if_eq_d (tgt := 63) rfl rfl rfl (fun c33 => ?_) (fun c33 => ?_)
      · refine m_vret rfl rfl rfl (Nat.le_of_ble_eq_true rfl) (Nat.le_of_ble_eq_true rfl) ?_
        unfold beNp
        first | (rw [if_pos (by omega)]; exact ⟨rfl, rfl⟩) | (rw [if_neg (by omega)]; exact ⟨rfl, rfl⟩)
      · have hs1 := hs (beBf mem).toNat (by omega)
        refine m_aload_n rfl rfl rfl ?_
        refine m_gr (k := 0) rfl rfl (Nat.le_of_ble_eq_true rfl) rfl rfl (by first | decide | assumption | (simp only [cnt]; omega)) ?_
        refine m_iload_n rfl rfl rfl ?_
        refine m_aaln (n := (beBf mem).toNat) (q := (beBf mem).toNat) rfl rfl (by decide) (by omega) (by omega) (by omega) ?_
        refine m_cv1 rfl rfl lk_0_165 (c_taStarted (n := (beBf mem).toNat) hl (by omega) hs1.1 hs1.2) rfl (by first | decide | assumption | (simp only [cnt]; omega)) (Nat.le_of_ble_eq_true rfl) rfl rfl (Nat.le_of_ble_eq_true rfl) (Nat.le_of_ble_eq_true rfl) (Nat.le_of_ble_eq_true rfl) (Nat.le_of_ble_eq_true rfl) (Nat.le_of_ble_eq_true rfl) ?_
        refine m_if_eq_d (tgt := 63) rfl rfl rfl (fun c45 => ?_) (fun c45 => ?_)
        · refine m_vret rfl rfl rfl (Nat.le_of_ble_eq_true rfl) (Nat.le_of_ble_eq_true rfl) ?_
          unfold beNp
          first | (rw [if_pos (by omega)]; exact ⟨rfl, rfl⟩) | (rw [if_neg (by omega)]; exact ⟨rfl, rfl⟩)
        · refine m_aload_n rfl rfl rfl ?_
          refine m_gr (k := 0) rfl rfl (Nat.le_of_ble_eq_true rfl) rfl rfl (by first | decide | assumption | (simp only [cnt]; omega)) ?_
          refine m_iload_n rfl rfl rfl ?_
          refine m_aaln (n := (beBf mem).toNat) (q := (beBf mem).toNat) rfl rfl (by decide) (by omega) (by omega) (by omega) ?_
          refine m_gr (k := 3) rfl rfl (Nat.le_of_ble_eq_true rfl) rfl rfl (by first | decide | assumption | (simp only [cnt]; omega)) ?_
          refine m_iconst rfl rfl ?_
          refine m_dup2 rfl rfl rfl rfl ?_
          refine m_ialx (n := 4) (y := mem 22 (beBf mem).toNat (4)) rfl rfl (Nat.le_of_ble_eq_true rfl) rfl (by first | decide | assumption | (simp only [cnt]; omega)) (by omega) (by simp only [aln]; omega) (by first | rfl | (repeat (first | rw [ms_s] | rw [ms_t (by decide)] | rw [ms_k (by decide)]))) ?_
          refine m_iconst rfl rfl ?_
          refine m_iadd rfl rfl ?_
          refine m_iasn (n := 4) rfl rfl (Nat.le_of_ble_eq_true rfl) rfl (by first | decide | assumption | (simp only [cnt]; omega)) (by omega) (by simp only [aln]; omega) ?_
          refine m_vret rfl rfl rfl (Nat.le_of_ble_eq_true rfl) (Nat.le_of_ble_eq_true rfl) ?_
          unfold beNp
          first | (rw [if_pos (by omega)]; exact ⟨rfl, rfl⟩) | (rw [if_neg (by omega)]; exact ⟨rfl, rfl⟩)

