/-! the class: analysis -/
def anA (m : zkM) : Prop := (0 ≤ m 0 0 5 ∧ m 0 0 5 ≤ 5) ∧ (∀ i, i < 5 → ((0 ≤ m 5 i 4 ∧ m 5 i 4 ≤ 9) ∧ (0 ≤ m 5 i 5 ∧ m 5 i 5 ≤ 60) ∧ (0 ≤ m 5 i 6 ∧ m 5 i 6 ≤ 60) ∧ (0 ≤ m 5 i 8 ∧ m 5 i 8 ≤ 6) ∧ (0 ≤ m 5 i 9 ∧ m 5 i 9 ≤ 54)) ∧ ∀ k, k < 6 → (-1 ≤ m 19 i k ∧ m 19 i k ≤ 3) ∧ (0 ≤ m 20 i k ∧ m 20 i k ≤ 9)) ∧ (∀ k, k < 4 → 0 ≤ m 17 0 k ∧ m 17 0 k ≤ 9) ∧ (m 4 0 3 = 0 ∨ m 4 0 3 = 1) ∧ (0 ≤ m 4 0 4 ∧ m 4 0 4 ≤ 9) ∧ (0 ≤ m 4 0 5 ∧ m 4 0 5 ≤ 9) ∧ (0 ≤ m 4 0 6 ∧ m 4 0 6 ≤ 60)
def anBf (m : zkM) (n : Nat) (p : Int) (k : Nat) (s : Int) : Int := if m 19 n k ≠ -1 ∧ p ≤ m 17 0 (m 19 n k).toNat then max s (m 20 n k - 1) else s
def anBb (m : zkM) (n : Nat) (p : Int) : Int := lp (anBf m n p) (m 5 n 8).toNat 0
theorem anBf_b {m : zkM} (h : anA m) {n : Nat} (hn : n < 5) (p : Int) {j : Nat} (hj : j < (m 5 n 8).toNat) {s : Int} (hs : 0 ≤ s ∧ s ≤ 8) : 0 ≤ anBf m n p j s ∧ anBf m n p j s ≤ 8 := by
  obtain ⟨-, h2, -⟩ := h
  obtain ⟨h3, h4⟩ := h2 n hn
  have h5 := h4 j (by omega)
  unfold anBf
  split <;> omega
theorem anBb_b {m : zkM} (h : anA m) {n : Nat} (hn : n < 5) (p : Int) : 0 ≤ anBb m n p ∧ anBb m n p ≤ 8 :=
  lp_inv (fun _ s => 0 ≤ s ∧ s ≤ 8) (anBf m n p) (m 5 n 8).toNat 0 (by omega) (fun j s hj hs => anBf_b h hn p hj hs)
def anBo (m : zkM) (n : Nat) (i : Nat) (s : Int) : Int := if m 5 i 4 < m 5 n 4 then max s (anBb m i (m 5 n 4)) else s
def anBl (m : zkM) (n : Nat) : Int := lp (anBo m n) (m 0 0 5).toNat 0
theorem anBo_b {m : zkM} (h : anA m) (n : Nat) {j : Nat} (hj : j < (m 0 0 5).toNat) {s : Int} (hs : 0 ≤ s ∧ s ≤ 8) : 0 ≤ anBo m n j s ∧ anBo m n j s ≤ 8 := by
  have h1 := h.1
  have := anBb_b h (n := j) (by omega) (m 5 n 4)
  unfold anBo
  split <;> omega
theorem anBl_b {m : zkM} (h : anA m) (n : Nat) : 0 ≤ anBl m n ∧ anBl m n ≤ 8 :=
  lp_inv (fun _ s => 0 ≤ s ∧ s ≤ 8) (anBo m n) (m 0 0 5).toNat 0 (by omega) (fun j s hj hs => anBo_b h n hj hs)
set_option maxRecDepth 10000 in
theorem c_anBb {l : Launch} {G : zkG} {mem : zkM} (hl : l.stackTraces = false) {n : Nat} {p : Int} (hA : anA mem) (hn : n < 5) (hp : inR p) : zkCt l G i_An_blockingBy 1 0 0 [vr 0 0, vr 5 n, vi p] mem (zkR1 (vi (anBb mem n p)) mem) := by
  refine zkCt_of hl ok_An_blockingBy (by decide +kernel) rfl rfl (List.forall_mem_cons.mpr ⟨rfl, (List.forall_mem_cons.mpr ⟨rfl, (List.forall_mem_cons.mpr ⟨rfl, fun _ h => nomatch h⟩)⟩)⟩) (Nat.le_of_ble_eq_true rfl) ?_
  obtain ⟨g1, g2, g3, g4, g5, g6, g7⟩ := id hA
  obtain ⟨g8, g9⟩ := g2 n hn
  refine m_iconst rfl rfl ?_
  refine m_istore_n rfl rfl (Nat.le_of_ble_eq_true rfl) rfl ?_
  refine m_iconst rfl rfl ?_
  refine m_istore rfl rfl (Nat.le_of_ble_eq_true rfl) rfl ?_
  refine zk_loop (P := fun (j : Nat) (s : Int) => ∀ o5 : Option zkV, zkW l G i_An_blockingBy (zkKm G 1 0 0 (zkR1 (vi (anBb mem n p)) mem)) 0 0 5 [some (vr 0 0), some (vr 5 n), some (vi p), some (vi s), some (vi j), o5] [] mem) (I := fun _ s => 0 ≤ s ∧ s ≤ 8) (anBf mem n p) (mem 5 n 8).toNat 0 (by omega) (fun j s hj hs => anBf_b hA hn p hj hs) (fun j s hj hI hk o5 => ?_) (fun hI o5 => ?_) none
  · have k1 := g9 j (by omega)
    unfold anBf at hk
    refine m_iload rfl rfl rfl ?_
    refine m_aload_n rfl rfl rfl ?_
    refine m_gix (k := 8) (x := mem 5 n 8) rfl rfl (Nat.le_of_ble_eq_true rfl) rfl rfl (by first | decide | assumption | (simp only [cnt]; omega)) (by first | rfl | ((repeat (first | rw [ms_s] | rw [ms_t (by decide)] | rw [ms_k (by decide)])) <;> rfl)) ?_
    refine m_icmp_ge (tgt := 60) rfl rfl rfl (by omega) (by omega) (fun c11 => ?_) (fun c11 => ?_)
    · exfalso; omega
    · refine m_aload_n rfl rfl rfl ?_
      refine m_gr (k := 0) rfl rfl (Nat.le_of_ble_eq_true rfl) rfl rfl (by first | decide | assumption | (simp only [cnt]; omega)) ?_
      refine m_iload rfl rfl rfl ?_
      refine m_ialx (n := j) (y := mem 19 n (j)) rfl rfl (Nat.le_of_ble_eq_true rfl) rfl (by first | decide | assumption | (simp only [cnt]; omega)) (by omega) (by simp only [aln]; omega) (by first | rfl | ((repeat (first | rw [ms_s] | rw [ms_t (by decide)] | rw [ms_k (by decide)])) <;> rfl)) ?_
      refine m_istore rfl rfl (Nat.le_of_ble_eq_true rfl) rfl ?_
      refine m_iload rfl rfl rfl ?_
      refine m_iconst rfl rfl ?_
      refine m_icmp_eq (tgt := 54) rfl rfl rfl (by omega) (by omega) (fun c26 => ?_) (fun c26 => ?_)
      · refine m_iinc rfl rfl rfl (Nat.le_of_ble_eq_true rfl) rfl ?_
        refine m_goto (tgt := 5) rfl rfl rfl ?_
        first | (rw [if_pos (by omega)] at hk; exact hk _) | (rw [if_neg (by omega)] at hk; exact hk _)
      · have k2 := g3 (mem 19 n j).toNat (by omega)
        refine m_aload_n rfl rfl rfl ?_
        refine m_gr (k := 3) rfl rfl (Nat.le_of_ble_eq_true rfl) rfl rfl (by first | decide | assumption | (simp only [cnt]; omega)) ?_
        refine m_iload rfl rfl rfl ?_
        refine m_ialx (n := (mem 19 n j).toNat) (y := mem 17 _ ((mem 19 n j).toNat)) rfl rfl (Nat.le_of_ble_eq_true rfl) rfl (by first | decide | assumption | (simp only [cnt]; omega)) (by omega) (by simp only [aln]; omega) (by first | rfl | ((repeat (first | rw [ms_s] | rw [ms_t (by decide)] | rw [ms_k (by decide)])) <;> rfl)) ?_
        refine m_iload_n rfl rfl rfl ?_
        refine m_icmp_lt (tgt := 54) rfl rfl rfl (by omega) (by omega) (fun c37 => ?_) (fun c37 => ?_)
        · refine m_iinc rfl rfl rfl (Nat.le_of_ble_eq_true rfl) rfl ?_
          refine m_goto (tgt := 5) rfl rfl rfl ?_
          first | (rw [if_pos (by omega)] at hk; exact hk _) | (rw [if_neg (by omega)] at hk; exact hk _)
        · refine m_iload_n rfl rfl rfl ?_
          refine m_aload_n rfl rfl rfl ?_
          refine m_gr (k := 1) rfl rfl (Nat.le_of_ble_eq_true rfl) rfl rfl (by first | decide | assumption | (simp only [cnt]; omega)) ?_
          refine m_iload rfl rfl rfl ?_
          refine m_ialx (n := j) (y := mem 20 n (j)) rfl rfl (Nat.le_of_ble_eq_true rfl) rfl (by first | decide | assumption | (simp only [cnt]; omega)) (by omega) (by simp only [aln]; omega) (by first | rfl | ((repeat (first | rw [ms_s] | rw [ms_t (by decide)] | rw [ms_k (by decide)])) <;> rfl)) ?_
          refine m_iconst rfl rfl ?_
          refine m_isub rfl rfl ?_
          refine m_max rfl rfl (by decide +kernel) (by omega) (by omega) (Nat.le_of_ble_eq_true rfl) (Nat.le_of_ble_eq_true rfl) (Nat.le_of_ble_eq_true rfl) (Nat.le_of_ble_eq_true rfl) ?_
          refine m_istore_n rfl rfl (Nat.le_of_ble_eq_true rfl) rfl ?_
          refine m_iinc rfl rfl rfl (Nat.le_of_ble_eq_true rfl) rfl ?_
          refine m_goto (tgt := 5) rfl rfl rfl ?_
          first | (rw [if_pos (by omega)] at hk; exact hk _) | (rw [if_neg (by omega)] at hk; exact hk _)
  · refine m_iload rfl rfl rfl ?_
    refine m_aload_n rfl rfl rfl ?_
    refine m_gix (k := 8) (x := mem 5 n 8) rfl rfl (Nat.le_of_ble_eq_true rfl) rfl rfl (by first | decide | assumption | (simp only [cnt]; omega)) (by first | rfl | ((repeat (first | rw [ms_s] | rw [ms_t (by decide)] | rw [ms_k (by decide)])) <;> rfl)) ?_
    refine m_icmp_ge (tgt := 60) rfl rfl rfl (by omega) (by omega) (fun c11 => ?_) (fun c11 => ?_)
    · refine m_iload_n rfl rfl rfl ?_
      refine m_iret rfl rfl rfl (Nat.le_of_ble_eq_true rfl) (Nat.le_of_ble_eq_true rfl) ?_
      exact ⟨rfl, rfl⟩
    · exfalso; omega

set_option maxRecDepth 10000 in
theorem c_anBl {l : Launch} {G : zkG} {mem : zkM} (hl : l.stackTraces = false) {n : Nat} (hA : anA mem) (hn : n < 5) : zkCt l G i_An_blockingOf 2 0 0 [vr 0 0, vr 5 n] mem (zkR1 (vi (anBl mem n)) mem) := by
  refine zkCt_of hl ok_An_blockingOf (by decide +kernel) rfl rfl (List.forall_mem_cons.mpr ⟨rfl, (List.forall_mem_cons.mpr ⟨rfl, fun _ h => nomatch h⟩)⟩) (Nat.le_of_ble_eq_true rfl) ?_
  obtain ⟨g1, g2, g3, g4, g5, g6, g7⟩ := id hA
  obtain ⟨g8, g9⟩ := g2 n hn
  refine m_iconst rfl rfl ?_
  refine m_istore_n rfl rfl (Nat.le_of_ble_eq_true rfl) rfl ?_
  refine m_iconst rfl rfl ?_
  refine m_istore_n rfl rfl (Nat.le_of_ble_eq_true rfl) rfl ?_
  refine zk_loop (P := fun (j : Nat) (s : Int) => zkW l G i_An_blockingOf _ 0 0 4 [some (vr 0 0), some (vr 5 n), some (vi s), some (vi j)] [] mem) (I := fun _ s => 0 ≤ s ∧ s ≤ 8) (anBo mem n) (mem 0 0 5).toNat 0 (by omega) (fun j s hj hs => anBo_b hA n hj hs) (fun j s hj hI hk => ?_) (fun hI => ?_)
  · have k1 := (g2 j (by omega)).1
    have k2 := anBb_b hA (n := j) (by omega) (mem 5 n 4)
    unfold anBo at hk
    refine m_iload_n rfl rfl rfl ?_
    refine m_aload_n rfl rfl rfl ?_
    refine m_gix (k := 5) (x := mem 0 _ 5) rfl rfl (Nat.le_of_ble_eq_true rfl) rfl rfl (by first | decide | assumption | (simp only [cnt]; omega)) (by first | rfl | ((repeat (first | rw [ms_s] | rw [ms_t (by decide)] | rw [ms_k (by decide)])) <;> rfl)) ?_
    refine m_icmp_ge (tgt := 53) rfl rfl rfl (by omega) (by omega) (fun c9 => ?_) (fun c9 => ?_)
    · exfalso; omega
    · refine m_aload_n rfl rfl rfl ?_
      refine m_gr (k := 0) rfl rfl (Nat.le_of_ble_eq_true rfl) rfl rfl (by first | decide | assumption | (simp only [cnt]; omega)) ?_
      refine m_iload_n rfl rfl rfl ?_
      refine m_aaln (n := j) (q := j) rfl rfl (by decide) (by omega) (by omega) (by omega) ?_
      refine m_gix (k := 4) (x := mem 5 j 4) rfl rfl (Nat.le_of_ble_eq_true rfl) rfl rfl (by simp only [cnt]; omega) rfl ?_
      refine m_aload_n rfl rfl rfl ?_
      refine m_gix (k := 4) (x := mem 5 n 4) rfl rfl (Nat.le_of_ble_eq_true rfl) rfl rfl (by simp only [cnt]; omega) rfl ?_
      refine m_icmp_ge (tgt := 47) rfl rfl rfl (by omega) (by omega) (fun c25 => ?_) (fun c25 => ?_)
      · refine m_iinc rfl rfl rfl (Nat.le_of_ble_eq_true rfl) rfl ?_
        refine m_goto (tgt := 4) rfl rfl rfl ?_
        first | (rw [if_pos (by omega)] at hk; exact hk) | (rw [if_neg (by omega)] at hk; exact hk)
      · refine m_iload_n rfl rfl rfl ?_
        refine m_aload_n rfl rfl rfl ?_
        refine m_aload_n rfl rfl rfl ?_
        refine m_gr (k := 0) rfl rfl (Nat.le_of_ble_eq_true rfl) rfl rfl (by first | decide | assumption | (simp only [cnt]; omega)) ?_
        refine m_iload_n rfl rfl rfl ?_
        refine m_aaln (n := j) (q := j) rfl rfl (by decide) (by omega) (by omega) (by omega) ?_
        refine m_aload_n rfl rfl rfl ?_
        refine m_gix (k := 4) (x := mem 5 n 4) rfl rfl (Nat.le_of_ble_eq_true rfl) rfl rfl (by simp only [cnt]; omega) rfl ?_
        refine m_cs1 rfl rfl lk_8_24 (c_anBb (n := j) hl hA (by omega) (by omega)) rfl rfl (Nat.le_of_ble_eq_true rfl) (Nat.le_of_ble_eq_true rfl) (Nat.le_of_ble_eq_true rfl) (Nat.le_of_ble_eq_true rfl) (Nat.le_of_ble_eq_true rfl) ?_
        refine m_max rfl rfl (by decide +kernel) (by omega) (by omega) (Nat.le_of_ble_eq_true rfl) (Nat.le_of_ble_eq_true rfl) (Nat.le_of_ble_eq_true rfl) (Nat.le_of_ble_eq_true rfl) ?_
        refine m_istore_n rfl rfl (Nat.le_of_ble_eq_true rfl) rfl ?_
        refine m_iinc rfl rfl rfl (Nat.le_of_ble_eq_true rfl) rfl ?_
        refine m_goto (tgt := 4) rfl rfl rfl ?_
        first | (rw [if_pos (by omega)] at hk; exact hk) | (rw [if_neg (by omega)] at hk; exact hk)
  · refine m_iload_n rfl rfl rfl ?_
    refine m_aload_n rfl rfl rfl ?_
    refine m_gix (k := 5) (x := mem 0 _ 5) rfl rfl (Nat.le_of_ble_eq_true rfl) rfl rfl (by first | decide | assumption | (simp only [cnt]; omega)) (by first | rfl | ((repeat (first | rw [ms_s] | rw [ms_t (by decide)] | rw [ms_k (by decide)])) <;> rfl)) ?_
    refine m_icmp_ge (tgt := 53) rfl rfl rfl (by omega) (by omega) (fun c9 => ?_) (fun c9 => ?_)
    · refine m_iload_n rfl rfl rfl ?_
      refine m_iret rfl rfl rfl (Nat.le_of_ble_eq_true rfl) (Nat.le_of_ble_eq_true rfl) ?_
      exact ⟨rfl, rfl⟩
    · exfalso; omega

set_option maxRecDepth 10000 in
theorem c_anSa {l : Launch} {G : zkG} {mem : zkM} (hl : l.stackTraces = false) {n : Nat} (hA : anA mem) (hn : n < 5) : zkCt l G i_An_isServerAbove 0 0 0 [vr 0 0, vr 5 n] mem (zkR1 (vi (b2i (decide (mem 4 0 3 = 1 ∧ mem 5 n 4 < mem 4 0 4)))) mem) := by
  refine zkCt_of hl ok_An_isServerAbove (by decide +kernel) rfl rfl (List.forall_mem_cons.mpr ⟨rfl, (List.forall_mem_cons.mpr ⟨rfl, fun _ h => nomatch h⟩)⟩) (Nat.le_of_ble_eq_true rfl) ?_
  obtain ⟨g1, g2, g3, g4, g5, g6, g7⟩ := id hA
  obtain ⟨g8, g9⟩ := g2 n hn
  refine m_aload_n rfl rfl rfl ?_
  refine m_gr (k := 1) rfl rfl (Nat.le_of_ble_eq_true rfl) rfl rfl (by first | decide | assumption | (simp only [cnt]; omega)) ?_
  refine m_gix (k := 3) (x := mem 4 _ 3) rfl rfl (Nat.le_of_ble_eq_true rfl) rfl rfl (by first | decide | assumption | (simp only [cnt]; omega)) (by first | rfl | ((repeat (first | rw [ms_s] | rw [ms_t (by decide)] | rw [ms_k (by decide)])) <;> rfl)) ?_
  refine m_if_eq (tgt := 28) rfl rfl rfl (by omega) (fun c7 => ?_) (fun c7 => ?_)
  · refine m_iconst rfl rfl ?_
    refine m_z0 rfl rfl rfl (Nat.le_of_ble_eq_true rfl) (Nat.le_of_ble_eq_true rfl) ?_
    first | (rw [decide_eq_true (by omega)]; exact ⟨rfl, rfl⟩) | (rw [decide_eq_false (by omega)]; exact ⟨rfl, rfl⟩)
  · refine m_aload_n rfl rfl rfl ?_
    refine m_gr (k := 1) rfl rfl (Nat.le_of_ble_eq_true rfl) rfl rfl (by first | decide | assumption | (simp only [cnt]; omega)) ?_
    refine m_gix (k := 4) (x := mem 4 _ 4) rfl rfl (Nat.le_of_ble_eq_true rfl) rfl rfl (by first | decide | assumption | (simp only [cnt]; omega)) (by first | rfl | ((repeat (first | rw [ms_s] | rw [ms_t (by decide)] | rw [ms_k (by decide)])) <;> rfl)) ?_
    refine m_aload_n rfl rfl rfl ?_
    refine m_gix (k := 4) (x := mem 5 n 4) rfl rfl (Nat.le_of_ble_eq_true rfl) rfl rfl (by first | decide | assumption | (simp only [cnt]; omega)) (by first | rfl | ((repeat (first | rw [ms_s] | rw [ms_t (by decide)] | rw [ms_k (by decide)])) <;> rfl)) ?_
    refine m_icmp_le (tgt := 28) rfl rfl rfl (by omega) (by omega) (fun c21 => ?_) (fun c21 => ?_)
    · refine m_iconst rfl rfl ?_
      refine m_z0 rfl rfl rfl (Nat.le_of_ble_eq_true rfl) (Nat.le_of_ble_eq_true rfl) ?_
      first | (rw [decide_eq_true (by omega)]; exact ⟨rfl, rfl⟩) | (rw [decide_eq_false (by omega)]; exact ⟨rfl, rfl⟩)
    · refine m_iconst rfl rfl ?_
      refine m_goto (tgt := 29) rfl rfl rfl ?_
      refine m_z1 rfl rfl rfl (Nat.le_of_ble_eq_true rfl) (Nat.le_of_ble_eq_true rfl) ?_
      first | (rw [decide_eq_true (by omega)]; exact ⟨rfl, rfl⟩) | (rw [decide_eq_false (by omega)]; exact ⟨rfl, rfl⟩)

def anQ (a b : Int) : Int := if b < 1 then 0 else moQ a b
set_option maxRecDepth 10000 in
theorem c_anQ {l : Launch} {G : zkG} {mem : zkM} (hl : l.stackTraces = false) {a b : Int} (ha : 0 ≤ a ∧ a ≤ 100000) (hb : 0 ≤ b ∧ b ≤ 100000) : zkCt l G i_An_quotientUp 0 0 0 [vi a, vi b] mem (zkR1 (vi (anQ a b)) mem) := by
  refine zkCt_of hl ok_An_quotientUp (by decide +kernel) rfl rfl (List.forall_mem_cons.mpr ⟨rfl, (List.forall_mem_cons.mpr ⟨rfl, fun _ h => nomatch h⟩)⟩) (Nat.le_of_ble_eq_true rfl) ?_
  refine m_iload_n rfl rfl rfl ?_
  refine m_iconst rfl rfl ?_
  refine m_icmp_ge (tgt := 9) rfl rfl rfl (by omega) (by omega) (fun c2 => ?_) (fun c2 => ?_)
  · refine m_iload_n rfl rfl rfl ?_
    refine m_iload_n rfl rfl rfl ?_
    refine m_iadd rfl rfl ?_
    refine m_iconst rfl rfl ?_
    refine m_isub rfl rfl ?_
    refine m_iload_n rfl rfl rfl ?_
    refine m_idiv rfl rfl (by omega) (by omega) (by omega) (by omega) ?_
    refine m_iret rfl rfl rfl (Nat.le_of_ble_eq_true rfl) (Nat.le_of_ble_eq_true rfl) ?_
    unfold anQ
    first | (rw [if_pos (by omega)]; exact ⟨rfl, rfl⟩) | (rw [if_neg (by omega)]; exact ⟨rfl, rfl⟩)
  · refine m_iconst rfl rfl ?_
    refine m_goto (tgt := 16) rfl rfl rfl ?_
    refine m_iret rfl rfl rfl (Nat.le_of_ble_eq_true rfl) (Nat.le_of_ble_eq_true rfl) ?_
    unfold anQ
    first | (rw [if_pos (by omega)]; exact ⟨rfl, rfl⟩) | (rw [if_neg (by omega)]; exact ⟨rfl, rfl⟩)

theorem anQ_b {a b : Int} (ha : 0 ≤ a) (hb : 0 ≤ b) : 0 ≤ anQ a b ∧ anQ a b ≤ a + b := by
  unfold anQ
  split
  · omega
  · have := moQ_b (b := b) ha (by omega)
    omega
def anWf (m : zkM) (n : Nat) (u : Int) (i : Nat) (s : Int) : Int := if m 5 n 4 < m 5 i 4 then s + m 5 i 9 * anQ u (m 5 i 5) else s
def anWl (m : zkM) (n : Nat) (u : Int) : Int := lp (anWf m n u) (m 0 0 5).toNat 0
def anWk (m : zkM) (n : Nat) (u : Int) : Int := if m 4 0 3 = 1 ∧ m 5 n 4 < m 4 0 4 then anWl m n u + m 4 0 5 * anQ u (m 4 0 6) else anWl m n u
theorem anWf_b {m : zkM} (h : anA m) (n : Nat) {u : Int} (hu : 0 ≤ u ∧ u ≤ 1000) {j : Nat} (hj : j < (m 0 0 5).toNat) {s : Int} (hs : 0 ≤ s ∧ s ≤ 57240 * (j : Int)) : 0 ≤ anWf m n u j s ∧ anWf m n u j s ≤ 57240 * ((j + 1 : Nat) : Int) := by
  have h1 := h.1
  obtain ⟨h3, -⟩ := h.2.1 j (by omega)
  have h4 := anQ_b (b := m 5 j 5) hu.1 (by omega)
  have h5 := mul_b h3.2.2.2.2 (B := 1060) (b := anQ u (m 5 j 5)) (by omega)
  unfold anWf
  split <;> omega
theorem anWl_b {m : zkM} (h : anA m) (n : Nat) {u : Int} (hu : 0 ≤ u ∧ u ≤ 1000) : 0 ≤ anWl m n u ∧ anWl m n u ≤ 300000 := by
  have h1 := h.1
  have := lp_inv (fun j s => 0 ≤ s ∧ s ≤ 57240 * (j : Int)) (anWf m n u) (m 0 0 5).toNat 0 (by omega) (fun j s hj hs => anWf_b h n hu hj hs)
  unfold anWl
  omega
theorem anWk_b {m : zkM} (h : anA m) (n : Nat) {u : Int} (hu : 0 ≤ u ∧ u ≤ 1000) : 0 ≤ anWk m n u ∧ anWk m n u ≤ 400000 := by
  have h1 := anWl_b h n hu
  obtain ⟨-, -, -, -, -, h6, h7⟩ := h
  have h4 := anQ_b (b := m 4 0 6) hu.1 (by omega)
  have h5 := mul_b h6 (B := 1060) (b := anQ u (m 4 0 6)) (by omega)
  unfold anWk
  split <;> omega
set_option maxRecDepth 10000 in
theorem c_anWk {l : Launch} {G : zkG} {mem : zkM} (hl : l.stackTraces = false) {n : Nat} {u : Int} (hA : anA mem) (hn : n < 5) (hu : 0 ≤ u ∧ u ≤ 1000) : zkCt l G i_An_urgentWorkWithin 1 0 0 [vr 0 0, vr 5 n, vi u] mem (zkR1 (vi (anWk mem n u)) mem) := by
  refine zkCt_of hl ok_An_urgentWorkWithin (by decide +kernel) rfl rfl (List.forall_mem_cons.mpr ⟨rfl, (List.forall_mem_cons.mpr ⟨rfl, (List.forall_mem_cons.mpr ⟨rfl, fun _ h => nomatch h⟩)⟩)⟩) (Nat.le_of_ble_eq_true rfl) ?_
  obtain ⟨g1, g2, g3, g4, g5, g6, g7⟩ := id hA
  obtain ⟨g8, g9⟩ := g2 n hn
  refine m_iconst rfl rfl ?_
  refine m_istore_n rfl rfl (Nat.le_of_ble_eq_true rfl) rfl ?_
  refine m_iconst rfl rfl ?_
  refine m_istore rfl rfl (Nat.le_of_ble_eq_true rfl) rfl ?_
  refine zk_loop (P := fun (j : Nat) (s : Int) => ∀ o5 : Option zkV, zkW l G i_An_urgentWorkWithin (zkKm G 1 0 0 (zkR1 (vi (anWk mem n u)) mem)) 0 0 5 [some (vr 0 0), some (vr 5 n), some (vi u), some (vi s), some (vi j), o5] [] mem) (I := fun j s => 0 ≤ s ∧ s ≤ 57240 * (j : Int)) (anWf mem n u) (mem 0 0 5).toNat 0 (by omega) (fun j s hj hs => anWf_b hA n hu hj hs) (fun j s hj hI hk o5 => ?_) (fun hI o5 => ?_) none
  · have k1 := (g2 j (by omega)).1
    unfold anWf at hk
    refine m_iload rfl rfl rfl ?_
    refine m_aload_n rfl rfl rfl ?_
    refine m_gix (k := 5) (x := mem 0 _ 5) rfl rfl (Nat.le_of_ble_eq_true rfl) rfl rfl (by first | decide | assumption | (simp only [cnt]; omega)) (by first | rfl | ((repeat (first | rw [ms_s] | rw [ms_t (by decide)] | rw [ms_k (by decide)])) <;> rfl)) ?_
    refine m_icmp_ge (tgt := 59) rfl rfl rfl (by omega) (by omega) (fun c11 => ?_) (fun c11 => ?_)
    · exfalso; omega
    · refine m_aload_n rfl rfl rfl ?_
      refine m_gr (k := 0) rfl rfl (Nat.le_of_ble_eq_true rfl) rfl rfl (by first | decide | assumption | (simp only [cnt]; omega)) ?_
      refine m_iload rfl rfl rfl ?_
      refine m_aaln (n := j) (q := j) rfl rfl (by decide) (by omega) (by omega) (by omega) ?_
      refine m_astore rfl rfl (Nat.le_of_ble_eq_true rfl) rfl ?_
      refine m_aload rfl rfl rfl ?_
      refine m_gix (k := 4) (x := mem 5 j 4) rfl rfl (Nat.le_of_ble_eq_true rfl) rfl rfl (by simp only [cnt]; omega) rfl ?_
      refine m_aload_n rfl rfl rfl ?_
      refine m_gix (k := 4) (x := mem 5 n 4) rfl rfl (Nat.le_of_ble_eq_true rfl) rfl rfl (by simp only [cnt]; omega) rfl ?_
      refine m_icmp_le (tgt := 53) rfl rfl rfl (by omega) (by omega) (fun c32 => ?_) (fun c32 => ?_)
      · refine m_iinc rfl rfl rfl (Nat.le_of_ble_eq_true rfl) rfl ?_
        refine m_goto (tgt := 5) rfl rfl rfl ?_
        first | (rw [if_pos (by omega)] at hk; exact hk _) | (rw [if_neg (by omega)] at hk; exact hk _)
      · refine m_iload_n rfl rfl rfl ?_
        refine m_aload rfl rfl rfl ?_
        refine m_gix (k := 9) (x := mem 5 j 9) rfl rfl (Nat.le_of_ble_eq_true rfl) rfl rfl (by simp only [cnt]; omega) rfl ?_
        refine m_iload_n rfl rfl rfl ?_
        refine m_aload rfl rfl rfl ?_
        refine m_gix (k := 5) (x := mem 5 j 5) rfl rfl (Nat.le_of_ble_eq_true rfl) rfl rfl (by simp only [cnt]; omega) rfl ?_
        refine m_cs1 rfl rfl lk_8_62 (c_anQ hl (by omega) (by omega)) rfl rfl (Nat.le_of_ble_eq_true rfl) (Nat.le_of_ble_eq_true rfl) (Nat.le_of_ble_eq_true rfl) (Nat.le_of_ble_eq_true rfl) (Nat.le_of_ble_eq_true rfl) ?_
        refine m_imul rfl rfl ?_
        refine m_iadd rfl rfl ?_
        refine m_istore_n rfl rfl (Nat.le_of_ble_eq_true rfl) rfl ?_
        refine m_iinc rfl rfl rfl (Nat.le_of_ble_eq_true rfl) rfl ?_
        refine m_goto (tgt := 5) rfl rfl rfl ?_
        first | (rw [if_pos (by omega)] at hk; exact hk _) | (rw [if_neg (by omega)] at hk; exact hk _)
  · change zkW l G i_An_urgentWorkWithin _ 0 0 5 [some (vr 0 0), some (vr 5 n), some (vi u), some (vi (anWl mem n u)), some (vi ((mem 0 0 5).toNat : Int)), o5] [] mem
    refine m_iload rfl rfl rfl ?_
    refine m_aload_n rfl rfl rfl ?_
    refine m_gix (k := 5) (x := mem 0 _ 5) rfl rfl (Nat.le_of_ble_eq_true rfl) rfl rfl (by first | decide | assumption | (simp only [cnt]; omega)) (by first | rfl | ((repeat (first | rw [ms_s] | rw [ms_t (by decide)] | rw [ms_k (by decide)])) <;> rfl)) ?_
    refine m_icmp_ge (tgt := 59) rfl rfl rfl (by omega) (by omega) (fun c11 => ?_) (fun c11 => ?_)
    · refine m_aload_n rfl rfl rfl ?_
      refine m_aload_n rfl rfl rfl ?_
      refine m_cs1 rfl rfl lk_8_65 (c_anSa (n := n) hl hA hn) rfl rfl (Nat.le_of_ble_eq_true rfl) (Nat.le_of_ble_eq_true rfl) (Nat.le_of_ble_eq_true rfl) (Nat.le_of_ble_eq_true rfl) (Nat.le_of_ble_eq_true rfl) ?_
      refine m_if_eq_d (tgt := 89) rfl rfl rfl (fun c64 => ?_) (fun c64 => ?_)
      · refine m_iload_n rfl rfl rfl ?_
        refine m_iret rfl rfl rfl (Nat.le_of_ble_eq_true rfl) (Nat.le_of_ble_eq_true rfl) ?_
        unfold anWk
        first | (rw [if_pos (by omega)]; exact ⟨rfl, rfl⟩) | (rw [if_neg (by omega)]; exact ⟨rfl, rfl⟩)
      · refine m_iload_n rfl rfl rfl ?_
        refine m_aload_n rfl rfl rfl ?_
        refine m_gr (k := 1) rfl rfl (Nat.le_of_ble_eq_true rfl) rfl rfl (by first | decide | assumption | (simp only [cnt]; omega)) ?_
        refine m_gix (k := 5) (x := mem 4 _ 5) rfl rfl (Nat.le_of_ble_eq_true rfl) rfl rfl (by first | decide | assumption | (simp only [cnt]; omega)) (by first | rfl | ((repeat (first | rw [ms_s] | rw [ms_t (by decide)] | rw [ms_k (by decide)])) <;> rfl)) ?_
        refine m_iload_n rfl rfl rfl ?_
        refine m_aload_n rfl rfl rfl ?_
        refine m_gr (k := 1) rfl rfl (Nat.le_of_ble_eq_true rfl) rfl rfl (by first | decide | assumption | (simp only [cnt]; omega)) ?_
        refine m_gix (k := 6) (x := mem 4 _ 6) rfl rfl (Nat.le_of_ble_eq_true rfl) rfl rfl (by first | decide | assumption | (simp only [cnt]; omega)) (by first | rfl | ((repeat (first | rw [ms_s] | rw [ms_t (by decide)] | rw [ms_k (by decide)])) <;> rfl)) ?_
        refine m_cs1 rfl rfl lk_8_62 (c_anQ hl (by omega) (by omega)) rfl rfl (Nat.le_of_ble_eq_true rfl) (Nat.le_of_ble_eq_true rfl) (Nat.le_of_ble_eq_true rfl) (Nat.le_of_ble_eq_true rfl) (Nat.le_of_ble_eq_true rfl) ?_
        refine m_imul rfl rfl ?_
        refine m_iadd rfl rfl ?_
        refine m_istore_n rfl rfl (Nat.le_of_ble_eq_true rfl) rfl ?_
        refine m_iload_n rfl rfl rfl ?_
        refine m_iret rfl rfl rfl (Nat.le_of_ble_eq_true rfl) (Nat.le_of_ble_eq_true rfl) ?_
        unfold anWk
        first | (rw [if_pos (by omega)]; exact ⟨rfl, rfl⟩) | (rw [if_neg (by omega)]; exact ⟨rfl, rfl⟩)
    · exfalso; omega

def anLe (m : zkM) (n : Nat) : Int := anBl m n + m 5 n 9
def anBdf (m : zkM) (n : Nat) : Nat → Int → Int
  | 0, _ => -1
  | k + 1, r => if 1000 < r then -1 else if anLe m n + anWk m n r = r then r else anBdf m n k (anLe m n + anWk m n r)
theorem anBdf_s (m : zkM) (n k : Nat) (r : Int) : anBdf m n (k + 1) r = if 1000 < r then -1 else if anLe m n + anWk m n r = r then r else anBdf m n k (anLe m n + anWk m n r) := rfl
def anBd (m : zkM) (n : Nat) : Int := anBdf m n 1000 (anLe m n)
theorem anBdf_b {m : zkM} {n : Nat} (h : anA m) (hn : n < 5) : ∀ (k : Nat) (r : Int), 0 ≤ r → -1 ≤ anBdf m n k r ∧ anBdf m n k r ≤ 1000
  | 0, _, _ => by unfold anBdf; omega
  | k + 1, r, hr => by
    rw [anBdf_s]
    have h1 := anBl_b h n
    have h2 := (h.2.1 n hn).1.2.2.2.2
    split
    · omega
    · have h3 := anWk_b h n (u := r) (by omega)
      split
      · omega
      · exact anBdf_b h hn k _ (by unfold anLe; omega)
theorem anBd_b {m : zkM} {n : Nat} (h : anA m) (hn : n < 5) : -1 ≤ anBd m n ∧ anBd m n ≤ 1000 := by
  have h1 := anBl_b h n
  have h2 := (h.2.1 n hn).1.2.2.2.2
  exact anBdf_b h hn 1000 _ (by unfold anLe; omega)
set_option maxRecDepth 10000 in
theorem w_anBd {l : Launch} {G : zkG} {mem : zkM} (hl : l.stackTraces = false) {n : Nat} (hA : anA mem) (hn : n < 5) : ∀ (k : Nat) (r t : Int) (o5 : Option zkV), 0 ≤ t → t + k = 1000 → (0 ≤ r ∧ r ≤ 500000) → anBd mem n = anBdf mem n k r → zkW l G i_An_boundOf (zkKm G 3 0 0 (zkR1 (vi (anBd mem n)) mem)) 0 0 16 [some (vr 0 0), some (vr 5 n), some (vi (anLe mem n)), some (vi r), some (vi t), o5] [] mem := by
  have h1 := anBl_b hA n
  have h2 := (hA.2.1 n hn).1.2.2.2.2
  have eL : anLe mem n = anBl mem n + mem 5 n 9 := rfl
  intro k
  induction k with
  | zero =>
    intro r t o5 ht hk hr hq
    refine m_iload rfl rfl rfl ?_
    refine m_sipush rfl rfl (by decide) ?_
    refine m_icmp_ge (tgt := 58) rfl rfl rfl (by omega) (by omega) (fun c21 => ?_) (fun c21 => ?_)
    · refine m_iconst rfl rfl ?_
      refine m_iret rfl rfl rfl (Nat.le_of_ble_eq_true rfl) (Nat.le_of_ble_eq_true rfl) ?_
      rw [hq]
      exact ⟨rfl, rfl⟩
    · exfalso; omega
  | succ k ih =>
    intro r t o5 ht hk hr hq
    rw [anBdf_s mem n k r] at hq
    refine m_iload rfl rfl rfl ?_
    refine m_sipush rfl rfl (by decide) ?_
    refine m_icmp_ge (tgt := 58) rfl rfl rfl (by omega) (by omega) (fun c21 => ?_) (fun c21 => ?_)
    · exfalso; omega
    · refine m_iload_n rfl rfl rfl ?_
      refine m_sipush rfl rfl (by decide) ?_
      refine m_icmp_gt (tgt := 58) rfl rfl rfl (by omega) (by omega) (fun c28 => ?_) (fun c28 => ?_)
      · refine m_iconst rfl rfl ?_
        refine m_iret rfl rfl rfl (Nat.le_of_ble_eq_true rfl) (Nat.le_of_ble_eq_true rfl) ?_
        rw [if_pos (by omega)] at hq
        rw [hq]
        exact ⟨rfl, rfl⟩
      · have h3 := anWk_b hA n (u := r) (by omega)
        rw [if_neg (by omega)] at hq
        refine m_iload_n rfl rfl rfl ?_
        refine m_aload_n rfl rfl rfl ?_
        refine m_aload_n rfl rfl rfl ?_
        refine m_iload_n rfl rfl rfl ?_
        refine m_cs1 rfl rfl lk_8_56 (c_anWk (n := n) hl hA hn (by omega)) rfl rfl (Nat.le_of_ble_eq_true rfl) (Nat.le_of_ble_eq_true rfl) (Nat.le_of_ble_eq_true rfl) (Nat.le_of_ble_eq_true rfl) (Nat.le_of_ble_eq_true rfl) ?_
        refine m_iadd rfl rfl ?_
        refine m_istore rfl rfl (Nat.le_of_ble_eq_true rfl) rfl ?_
        refine m_iload rfl rfl rfl ?_
        refine m_iload_n rfl rfl rfl ?_
        refine m_icmp_ne (tgt := 49) rfl rfl rfl (by omega) (by omega) (fun c44 => ?_) (fun c44 => ?_)
        · refine m_iload rfl rfl rfl ?_
          refine m_istore_n rfl rfl (Nat.le_of_ble_eq_true rfl) rfl ?_
          refine m_iinc rfl rfl rfl (Nat.le_of_ble_eq_true rfl) rfl ?_
          refine m_goto (tgt := 16) rfl rfl rfl ?_
          rw [if_neg (by omega)] at hq
          exact ih _ _ _ (by omega) (by omega) (by omega) hq
        · refine m_iload_n rfl rfl rfl ?_
          refine m_iret rfl rfl rfl (Nat.le_of_ble_eq_true rfl) (Nat.le_of_ble_eq_true rfl) ?_
          rw [if_pos (by omega)] at hq
          rw [hq]
          exact ⟨rfl, rfl⟩

set_option maxRecDepth 10000 in
theorem c_anBd {l : Launch} {G : zkG} {mem : zkM} (hl : l.stackTraces = false) {n : Nat} (hA : anA mem) (hn : n < 5) : zkCt l G i_An_boundOf 3 0 0 [vr 0 0, vr 5 n] mem (zkR1 (vi (anBd mem n)) mem) := by
  refine zkCt_of hl ok_An_boundOf (by decide +kernel) rfl rfl (List.forall_mem_cons.mpr ⟨rfl, (List.forall_mem_cons.mpr ⟨rfl, fun _ h => nomatch h⟩)⟩) (Nat.le_of_ble_eq_true rfl) ?_
  obtain ⟨g1, g2, g3, g4, g5, g6, g7⟩ := id hA
  obtain ⟨g8, g9⟩ := g2 n hn
  have h1 := anBl_b hA n
  have eL : anLe mem n = anBl mem n + mem 5 n 9 := rfl
  refine m_aload_n rfl rfl rfl ?_
  refine m_aload_n rfl rfl rfl ?_
  refine m_cs1 rfl rfl lk_8_49 (c_anBl hl hA hn) rfl rfl (Nat.le_of_ble_eq_true rfl) (Nat.le_of_ble_eq_true rfl) (Nat.le_of_ble_eq_true rfl) (Nat.le_of_ble_eq_true rfl) (Nat.le_of_ble_eq_true rfl) ?_
  refine m_aload_n rfl rfl rfl ?_
  refine m_gix (k := 9) (x := mem 5 n 9) rfl rfl (Nat.le_of_ble_eq_true rfl) rfl rfl (by first | decide | assumption | (simp only [cnt]; omega)) (by first | rfl | ((repeat (first | rw [ms_s] | rw [ms_t (by decide)] | rw [ms_k (by decide)])) <;> rfl)) ?_
  refine m_iadd rfl rfl ?_
  refine m_istore_n rfl rfl (Nat.le_of_ble_eq_true rfl) rfl ?_
  refine m_iload_n rfl rfl rfl ?_
  refine m_istore_n rfl rfl (Nat.le_of_ble_eq_true rfl) rfl ?_
  refine m_iconst rfl rfl ?_
  refine m_istore rfl rfl (Nat.le_of_ble_eq_true rfl) rfl ?_
  exact w_anBd hl hA hn 1000 (anLe mem n) 0 none (by omega) (by omega) (by omega) rfl

set_option maxRecDepth 10000 in
theorem c_anIm {l : Launch} {G : zkG} {mem : zkM} (hl : l.stackTraces = false) {a b : Int} (ha : 0 ≤ a ∧ a ≤ 1000) (hb : 0 ≤ b ∧ b ≤ 1000) : zkCt l G i_An_isMultiple 0 0 0 [vi a, vi b] mem (zkR1 (vi (b2i (decide (0 < b ∧ a % b = 0)))) mem) := by
  refine zkCt_of hl ok_An_isMultiple (by decide +kernel) rfl rfl (List.forall_mem_cons.mpr ⟨rfl, (List.forall_mem_cons.mpr ⟨rfl, fun _ h => nomatch h⟩)⟩) (Nat.le_of_ble_eq_true rfl) ?_
  refine m_iload_n rfl rfl rfl ?_
  refine m_if_le (tgt := 14) rfl rfl rfl (by omega) (fun c1 => ?_) (fun c1 => ?_)
  · refine m_iconst rfl rfl ?_
    refine m_z0 rfl rfl rfl (Nat.le_of_ble_eq_true rfl) (Nat.le_of_ble_eq_true rfl) ?_
    first | (rw [decide_eq_true (by omega)]; exact ⟨rfl, rfl⟩) | (rw [decide_eq_false (by omega)]; exact ⟨rfl, rfl⟩)
  · refine m_iload_n rfl rfl rfl ?_
    refine m_iload_n rfl rfl rfl ?_
    refine m_irem rfl rfl (by omega) (by omega) (by omega) (by omega) ?_
    refine m_if_ne (tgt := 14) rfl rfl rfl (by have := Int.emod_nonneg a (show b ≠ 0 by omega); have := Int.emod_lt_of_pos a (show 0 < b by omega); omega) (fun c7 => ?_) (fun c7 => ?_)
    · refine m_iconst rfl rfl ?_
      refine m_z0 rfl rfl rfl (Nat.le_of_ble_eq_true rfl) (Nat.le_of_ble_eq_true rfl) ?_
      first | (rw [decide_eq_true (by omega)]; exact ⟨rfl, rfl⟩) | (rw [decide_eq_false (by omega)]; exact ⟨rfl, rfl⟩)
    · refine m_iconst rfl rfl ?_
      refine m_goto (tgt := 15) rfl rfl rfl ?_
      refine m_z1 rfl rfl rfl (Nat.le_of_ble_eq_true rfl) (Nat.le_of_ble_eq_true rfl) ?_
      first | (rw [decide_eq_true (by omega)]; exact ⟨rfl, rfl⟩) | (rw [decide_eq_false (by omega)]; exact ⟨rfl, rfl⟩)

def anCf (m : zkM) (n : Nat) (t : Int) (i : Nat) (s : Int) : Int := if m 5 n 4 < m 5 i 4 ∧ (0 < m 5 i 5 ∧ t % m 5 i 5 = 0) then s + m 5 i 9 else s
def anCl (m : zkM) (n : Nat) (t : Int) : Int := lp (anCf m n t) (m 0 0 5).toNat 0
def anCm (m : zkM) (n : Nat) (t : Int) : Int := if (m 4 0 3 = 1 ∧ m 5 n 4 < m 4 0 4) ∧ (0 < m 4 0 6 ∧ t % m 4 0 6 = 0) then anCl m n t + m 4 0 5 else anCl m n t
theorem anCf_b {m : zkM} (h : anA m) (n : Nat) (t : Int) {j : Nat} (hj : j < (m 0 0 5).toNat) {s : Int} (hs : 0 ≤ s ∧ s ≤ 54 * (j : Int)) : 0 ≤ anCf m n t j s ∧ anCf m n t j s ≤ 54 * ((j + 1 : Nat) : Int) := by
  have h1 := h.1
  obtain ⟨h3, -⟩ := h.2.1 j (by omega)
  unfold anCf
  split <;> omega
theorem anCm_b {m : zkM} (h : anA m) (n : Nat) (t : Int) : 0 ≤ anCm m n t ∧ anCm m n t ≤ 279 := by
  have h1 := h.1
  have h2 := lp_inv (fun j s => 0 ≤ s ∧ s ≤ 54 * (j : Int)) (anCf m n t) (m 0 0 5).toNat 0 (by omega) (fun j s hj hs => anCf_b h n t hj hs)
  obtain ⟨-, -, -, -, -, h6, h7⟩ := h
  unfold anCm anCl
  split <;> omega
set_option maxRecDepth 10000 in
theorem c_anCm {l : Launch} {G : zkG} {mem : zkM} (hl : l.stackTraces = false) {n : Nat} {t : Int} (hA : anA mem) (hn : n < 5) (ht : 0 ≤ t ∧ t ≤ 1000) : zkCt l G i_An_urgentWorkReleasedAt 1 0 0 [vr 0 0, vr 5 n, vi t] mem (zkR1 (vi (anCm mem n t)) mem) := by
  refine zkCt_of hl ok_An_urgentWorkReleasedAt (by decide +kernel) rfl rfl (List.forall_mem_cons.mpr ⟨rfl, (List.forall_mem_cons.mpr ⟨rfl, (List.forall_mem_cons.mpr ⟨rfl, fun _ h => nomatch h⟩)⟩)⟩) (Nat.le_of_ble_eq_true rfl) ?_
  obtain ⟨g1, g2, g3, g4, g5, g6, g7⟩ := id hA
  obtain ⟨g8, g9⟩ := g2 n hn
  refine m_iconst rfl rfl ?_
  refine m_istore_n rfl rfl (Nat.le_of_ble_eq_true rfl) rfl ?_
  refine m_iconst rfl rfl ?_
  refine m_istore rfl rfl (Nat.le_of_ble_eq_true rfl) rfl ?_
  refine zk_loop (P := fun (j : Nat) (s : Int) => ∀ o5 : Option zkV, zkW l G i_An_urgentWorkReleasedAt (zkKm G 1 0 0 (zkR1 (vi (anCm mem n t)) mem)) 0 0 5 [some (vr 0 0), some (vr 5 n), some (vi t), some (vi s), some (vi j), o5] [] mem) (I := fun _ _ => True) (anCf mem n t) (mem 0 0 5).toNat 0 trivial (fun _ _ _ _ => trivial) (fun j s hj hI hk o5 => ?_) (fun hI o5 => ?_) none
  · have k1 := (g2 j (by omega)).1
    unfold anCf at hk
    refine m_iload rfl rfl rfl ?_
    refine m_aload_n rfl rfl rfl ?_
    refine m_gix (k := 5) (x := mem 0 _ 5) rfl rfl (Nat.le_of_ble_eq_true rfl) rfl rfl (by first | decide | assumption | (simp only [cnt]; omega)) (by first | rfl | ((repeat (first | rw [ms_s] | rw [ms_t (by decide)] | rw [ms_k (by decide)])) <;> rfl)) ?_
    refine m_icmp_ge (tgt := 61) rfl rfl rfl (by omega) (by omega) (fun c11 => ?_) (fun c11 => ?_)
    · exfalso; omega
    · refine m_aload_n rfl rfl rfl ?_
      refine m_gr (k := 0) rfl rfl (Nat.le_of_ble_eq_true rfl) rfl rfl (by first | decide | assumption | (simp only [cnt]; omega)) ?_
      refine m_iload rfl rfl rfl ?_
      refine m_aaln (n := j) (q := j) rfl rfl (by decide) (by omega) (by omega) (by omega) ?_
      refine m_astore rfl rfl (Nat.le_of_ble_eq_true rfl) rfl ?_
      refine m_aload rfl rfl rfl ?_
      refine m_gix (k := 4) (x := mem 5 j 4) rfl rfl (Nat.le_of_ble_eq_true rfl) rfl rfl (by simp only [cnt]; omega) rfl ?_
      refine m_aload_n rfl rfl rfl ?_
      refine m_gix (k := 4) (x := mem 5 n 4) rfl rfl (Nat.le_of_ble_eq_true rfl) rfl rfl (by simp only [cnt]; omega) rfl ?_
      refine m_icmp_le (tgt := 55) rfl rfl rfl (by omega) (by omega) (fun c32 => ?_) (fun c32 => ?_)
      · refine m_iinc rfl rfl rfl (Nat.le_of_ble_eq_true rfl) rfl ?_
        refine m_goto (tgt := 5) rfl rfl rfl ?_
        first | (rw [if_pos (by omega)] at hk; exact hk _) | (rw [if_neg (by omega)] at hk; exact hk _)
      · refine m_iload_n rfl rfl rfl ?_
        refine m_aload rfl rfl rfl ?_
        refine m_gix (k := 5) (x := mem 5 j 5) rfl rfl (Nat.le_of_ble_eq_true rfl) rfl rfl (by simp only [cnt]; omega) rfl ?_
        refine m_cs1 rfl rfl lk_8_87 (c_anIm hl (by omega) (by omega)) rfl rfl (Nat.le_of_ble_eq_true rfl) (Nat.le_of_ble_eq_true rfl) (Nat.le_of_ble_eq_true rfl) (Nat.le_of_ble_eq_true rfl) (Nat.le_of_ble_eq_true rfl) ?_
        refine m_if_eq_d (tgt := 55) rfl rfl rfl (fun c44 => ?_) (fun c44 => ?_)
        · refine m_iinc rfl rfl rfl (Nat.le_of_ble_eq_true rfl) rfl ?_
          refine m_goto (tgt := 5) rfl rfl rfl ?_
          first | (rw [if_pos (by omega)] at hk; exact hk _) | (rw [if_neg (by omega)] at hk; exact hk _)
        · refine m_iload_n rfl rfl rfl ?_
          refine m_aload rfl rfl rfl ?_
          refine m_gix (k := 9) (x := mem 5 j 9) rfl rfl (Nat.le_of_ble_eq_true rfl) rfl rfl (by simp only [cnt]; omega) rfl ?_
          refine m_iadd rfl rfl ?_
          refine m_istore_n rfl rfl (Nat.le_of_ble_eq_true rfl) rfl ?_
          refine m_iinc rfl rfl rfl (Nat.le_of_ble_eq_true rfl) rfl ?_
          refine m_goto (tgt := 5) rfl rfl rfl ?_
          first | (rw [if_pos (by omega)] at hk; exact hk _) | (rw [if_neg (by omega)] at hk; exact hk _)
  · change zkW l G i_An_urgentWorkReleasedAt _ 0 0 5 [some (vr 0 0), some (vr 5 n), some (vi t), some (vi (anCl mem n t)), some (vi ((mem 0 0 5).toNat : Int)), o5] [] mem
    refine m_iload rfl rfl rfl ?_
    refine m_aload_n rfl rfl rfl ?_
    refine m_gix (k := 5) (x := mem 0 _ 5) rfl rfl (Nat.le_of_ble_eq_true rfl) rfl rfl (by first | decide | assumption | (simp only [cnt]; omega)) (by first | rfl | ((repeat (first | rw [ms_s] | rw [ms_t (by decide)] | rw [ms_k (by decide)])) <;> rfl)) ?_
    refine m_icmp_ge (tgt := 61) rfl rfl rfl (by omega) (by omega) (fun c11 => ?_) (fun c11 => ?_)
    · refine m_aload_n rfl rfl rfl ?_
      refine m_aload_n rfl rfl rfl ?_
      refine m_cs1 rfl rfl lk_8_65 (c_anSa (n := n) hl hA hn) rfl rfl (Nat.le_of_ble_eq_true rfl) (Nat.le_of_ble_eq_true rfl) (Nat.le_of_ble_eq_true rfl) (Nat.le_of_ble_eq_true rfl) (Nat.le_of_ble_eq_true rfl) ?_
      refine m_if_eq_d (tgt := 93) rfl rfl rfl (fun c66 => ?_) (fun c66 => ?_)
      · refine m_iload_n rfl rfl rfl ?_
        refine m_iret rfl rfl rfl (Nat.le_of_ble_eq_true rfl) (Nat.le_of_ble_eq_true rfl) ?_
        unfold anCm
        first | (rw [if_pos (by omega)]; exact ⟨rfl, rfl⟩) | (rw [if_neg (by omega)]; exact ⟨rfl, rfl⟩)
      · refine m_iload_n rfl rfl rfl ?_
        refine m_aload_n rfl rfl rfl ?_
        refine m_gr (k := 1) rfl rfl (Nat.le_of_ble_eq_true rfl) rfl rfl (by first | decide | assumption | (simp only [cnt]; omega)) ?_
        refine m_gix (k := 6) (x := mem 4 _ 6) rfl rfl (Nat.le_of_ble_eq_true rfl) rfl rfl (by first | decide | assumption | (simp only [cnt]; omega)) (by first | rfl | ((repeat (first | rw [ms_s] | rw [ms_t (by decide)] | rw [ms_k (by decide)])) <;> rfl)) ?_
        refine m_cs1 rfl rfl lk_8_87 (c_anIm hl (by omega) (by omega)) rfl rfl (Nat.le_of_ble_eq_true rfl) (Nat.le_of_ble_eq_true rfl) (Nat.le_of_ble_eq_true rfl) (Nat.le_of_ble_eq_true rfl) (Nat.le_of_ble_eq_true rfl) ?_
        refine m_if_eq_d (tgt := 93) rfl rfl rfl (fun c80 => ?_) (fun c80 => ?_)
        · refine m_iload_n rfl rfl rfl ?_
          refine m_iret rfl rfl rfl (Nat.le_of_ble_eq_true rfl) (Nat.le_of_ble_eq_true rfl) ?_
          unfold anCm
          first | (rw [if_pos (by omega)]; exact ⟨rfl, rfl⟩) | (rw [if_neg (by omega)]; exact ⟨rfl, rfl⟩)
        · refine m_iload_n rfl rfl rfl ?_
          refine m_aload_n rfl rfl rfl ?_
          refine m_gr (k := 1) rfl rfl (Nat.le_of_ble_eq_true rfl) rfl rfl (by first | decide | assumption | (simp only [cnt]; omega)) ?_
          refine m_gix (k := 5) (x := mem 4 _ 5) rfl rfl (Nat.le_of_ble_eq_true rfl) rfl rfl (by first | decide | assumption | (simp only [cnt]; omega)) (by first | rfl | ((repeat (first | rw [ms_s] | rw [ms_t (by decide)] | rw [ms_k (by decide)])) <;> rfl)) ?_
          refine m_iadd rfl rfl ?_
          refine m_istore_n rfl rfl (Nat.le_of_ble_eq_true rfl) rfl ?_
          refine m_iload_n rfl rfl rfl ?_
          refine m_iret rfl rfl rfl (Nat.le_of_ble_eq_true rfl) (Nat.le_of_ble_eq_true rfl) ?_
          unfold anCm
          first | (rw [if_pos (by omega)]; exact ⟨rfl, rfl⟩) | (rw [if_neg (by omega)]; exact ⟨rfl, rfl⟩)
    · exfalso; omega

def anWo (m : zkM) (i : Nat) (t o : Int) : Int := if anBl m i ≤ t ∧ 0 < o + anCm m i t then o + anCm m i t - 1 else o + anCm m i t
def anWw (m : zkM) (i : Nat) (t o w : Int) : Int := if anBl m i ≤ t ∧ ¬ 0 < o + anCm m i t then w - 1 else w
def anWtf (m : zkM) (i : Nat) : Nat → Int → Int → Int → Int
  | 0, _, _, _ => -1
  | k + 1, t, o, w => if anWw m i t o w = 0 then t + 1 else anWtf m i k (t + 1) (anWo m i t o) (anWw m i t o w)
theorem anWtf_s (m : zkM) (i k : Nat) (t o w : Int) : anWtf m i (k + 1) t o w = if anWw m i t o w = 0 then t + 1 else anWtf m i k (t + 1) (anWo m i t o) (anWw m i t o w) := rfl
def anWt (m : zkM) (i : Nat) : Int := anWtf m i 1000 0 0 (m 5 i 9)
theorem anWtf_b {m : zkM} {i : Nat} : ∀ (k : Nat) (t o w : Int), 0 ≤ t → t + k = 1000 → -1 ≤ anWtf m i k t o w ∧ anWtf m i k t o w ≤ 1000
  | 0, _, _, _, _, _ => by unfold anWtf; omega
  | k + 1, t, o, w, h1, h2 => by
    rw [anWtf_s]
    split
    · omega
    · exact anWtf_b k _ _ _ (by omega) (by omega)
set_option maxHeartbeats 1000000 in
set_option maxRecDepth 10000 in
theorem w_anWt {l : Launch} {G : zkG} {mem : zkM} (hl : l.stackTraces = false) {n : Nat} (hA : anA mem) (hn : n < 5) : ∀ (k : Nat) (t o w : Int), 0 ≤ t → t + k = 1000 → (0 ≤ o ∧ o ≤ 279 * t) → (-t ≤ w ∧ w ≤ 60) → anWt mem n = anWtf mem n k t o w → zkW l G i_An_witnessOf (zkKm G 3 0 0 (zkR1 (vi (anWt mem n)) mem)) 0 0 17 [some (vr 0 0), some (vr 5 n), some (vi (anBl mem n)), some (vi w), some (vi o), some (vi t)] [] mem := by
  have hbl := anBl_b hA n
  intro k
  induction k with
  | zero =>
    intro t o w h1 h2 h3 h4 hq
    refine m_iload rfl rfl rfl ?_
    refine m_sipush rfl rfl (by decide) ?_
    refine m_icmp_ge (tgt := 72) rfl rfl rfl (by omega) (by omega) (fun c22 => ?_) (fun c22 => ?_)
    · refine m_iconst rfl rfl ?_
      refine m_iret rfl rfl rfl (Nat.le_of_ble_eq_true rfl) (Nat.le_of_ble_eq_true rfl) ?_
      rw [hq]
      exact ⟨rfl, rfl⟩
    · exfalso; omega
  | succ k ih =>
    intro t o w h1 h2 h3 h4 hq
    have hcm := anCm_b hA n t
    rw [anWtf_s mem n k t o w] at hq
    refine m_iload rfl rfl rfl ?_
    refine m_sipush rfl rfl (by decide) ?_
    refine m_icmp_ge (tgt := 72) rfl rfl rfl (by omega) (by omega) (fun c22 => ?_) (fun c22 => ?_)
    · exfalso; omega
    · refine m_iload rfl rfl rfl ?_
      refine m_aload_n rfl rfl rfl ?_
      refine m_aload_n rfl rfl rfl ?_
      refine m_iload rfl rfl rfl ?_
      refine m_cs1 rfl rfl lk_8_84 (c_anCm (n := n) hl hA hn (by omega)) rfl rfl (Nat.le_of_ble_eq_true rfl) (Nat.le_of_ble_eq_true rfl) (Nat.le_of_ble_eq_true rfl) (Nat.le_of_ble_eq_true rfl) (Nat.le_of_ble_eq_true rfl) ?_
      refine m_iadd rfl rfl ?_
      refine m_istore rfl rfl (Nat.le_of_ble_eq_true rfl) rfl ?_
      refine m_iload rfl rfl rfl ?_
      refine m_iload_n rfl rfl rfl ?_
      refine m_icmp_lt (tgt := 57) rfl rfl rfl (by omega) (by omega) (fun c40 => ?_) (fun c40 => ?_)
      · refine m_iload_n rfl rfl rfl ?_
        refine m_if_ne (tgt := 66) rfl rfl rfl (by omega) (fun c58 => ?_) (fun c58 => ?_)
        · refine m_iinc rfl rfl rfl (Nat.le_of_ble_eq_true rfl) rfl ?_
          refine m_goto (tgt := 17) rfl rfl rfl ?_
          first | (exfalso; omega) | (have e1 : anWo mem n t o = o + anCm mem n t - 1 := if_pos (by omega); have e2 : anWw mem n t o w = w := if_neg (by omega); rw [e1, e2, if_neg (by omega)] at hq; exact ih _ _ _ (by omega) (by omega) (by omega) (by omega) hq) | (have e1 : anWo mem n t o = o + anCm mem n t := if_neg (by omega); have e2 : anWw mem n t o w = w - 1 := if_pos (by omega); rw [e1, e2, if_neg (by omega)] at hq; exact ih _ _ _ (by omega) (by omega) (by omega) (by omega) hq) | (have e1 : anWo mem n t o = o + anCm mem n t := if_neg (by omega); have e2 : anWw mem n t o w = w := if_neg (by omega); rw [e1, e2, if_neg (by omega)] at hq; exact ih _ _ _ (by omega) (by omega) (by omega) (by omega) hq)
        · refine m_iload rfl rfl rfl ?_
          refine m_iconst rfl rfl ?_
          refine m_iadd rfl rfl ?_
          refine m_iret rfl rfl rfl (Nat.le_of_ble_eq_true rfl) (Nat.le_of_ble_eq_true rfl) ?_
          first | (exfalso; omega) | (have e1 : anWo mem n t o = o + anCm mem n t - 1 := if_pos (by omega); have e2 : anWw mem n t o w = w := if_neg (by omega); rw [e1, e2, if_pos (by omega)] at hq; rw [hq]; exact ⟨rfl, rfl⟩) | (have e1 : anWo mem n t o = o + anCm mem n t := if_neg (by omega); have e2 : anWw mem n t o w = w - 1 := if_pos (by omega); rw [e1, e2, if_pos (by omega)] at hq; rw [hq]; exact ⟨rfl, rfl⟩) | (have e1 : anWo mem n t o = o + anCm mem n t := if_neg (by omega); have e2 : anWw mem n t o w = w := if_neg (by omega); rw [e1, e2, if_pos (by omega)] at hq; rw [hq]; exact ⟨rfl, rfl⟩)
      · refine m_iload rfl rfl rfl ?_
        refine m_if_le (tgt := 54) rfl rfl rfl (by omega) (fun c45 => ?_) (fun c45 => ?_)
        · refine m_iinc rfl rfl rfl (Nat.le_of_ble_eq_true rfl) rfl ?_
          refine m_iload_n rfl rfl rfl ?_
          refine m_if_ne (tgt := 66) rfl rfl rfl (by omega) (fun c58 => ?_) (fun c58 => ?_)
          · refine m_iinc rfl rfl rfl (Nat.le_of_ble_eq_true rfl) rfl ?_
            refine m_goto (tgt := 17) rfl rfl rfl ?_
            first | (exfalso; omega) | (have e1 : anWo mem n t o = o + anCm mem n t - 1 := if_pos (by omega); have e2 : anWw mem n t o w = w := if_neg (by omega); rw [e1, e2, if_neg (by omega)] at hq; exact ih _ _ _ (by omega) (by omega) (by omega) (by omega) hq) | (have e1 : anWo mem n t o = o + anCm mem n t := if_neg (by omega); have e2 : anWw mem n t o w = w - 1 := if_pos (by omega); rw [e1, e2, if_neg (by omega)] at hq; exact ih _ _ _ (by omega) (by omega) (by omega) (by omega) hq) | (have e1 : anWo mem n t o = o + anCm mem n t := if_neg (by omega); have e2 : anWw mem n t o w = w := if_neg (by omega); rw [e1, e2, if_neg (by omega)] at hq; exact ih _ _ _ (by omega) (by omega) (by omega) (by omega) hq)
          · refine m_iload rfl rfl rfl ?_
            refine m_iconst rfl rfl ?_
            refine m_iadd rfl rfl ?_
            refine m_iret rfl rfl rfl (Nat.le_of_ble_eq_true rfl) (Nat.le_of_ble_eq_true rfl) ?_
            first | (exfalso; omega) | (have e1 : anWo mem n t o = o + anCm mem n t - 1 := if_pos (by omega); have e2 : anWw mem n t o w = w := if_neg (by omega); rw [e1, e2, if_pos (by omega)] at hq; rw [hq]; exact ⟨rfl, rfl⟩) | (have e1 : anWo mem n t o = o + anCm mem n t := if_neg (by omega); have e2 : anWw mem n t o w = w - 1 := if_pos (by omega); rw [e1, e2, if_pos (by omega)] at hq; rw [hq]; exact ⟨rfl, rfl⟩) | (have e1 : anWo mem n t o = o + anCm mem n t := if_neg (by omega); have e2 : anWw mem n t o w = w := if_neg (by omega); rw [e1, e2, if_pos (by omega)] at hq; rw [hq]; exact ⟨rfl, rfl⟩)
        · refine m_iinc rfl rfl rfl (Nat.le_of_ble_eq_true rfl) rfl ?_
          refine m_goto (tgt := 57) rfl rfl rfl ?_
          refine m_iload_n rfl rfl rfl ?_
          refine m_if_ne (tgt := 66) rfl rfl rfl (by omega) (fun c58 => ?_) (fun c58 => ?_)
          · refine m_iinc rfl rfl rfl (Nat.le_of_ble_eq_true rfl) rfl ?_
            refine m_goto (tgt := 17) rfl rfl rfl ?_
            first | (exfalso; omega) | (have e1 : anWo mem n t o = o + anCm mem n t - 1 := if_pos (by omega); have e2 : anWw mem n t o w = w := if_neg (by omega); rw [e1, e2, if_neg (by omega)] at hq; exact ih _ _ _ (by omega) (by omega) (by omega) (by omega) hq) | (have e1 : anWo mem n t o = o + anCm mem n t := if_neg (by omega); have e2 : anWw mem n t o w = w - 1 := if_pos (by omega); rw [e1, e2, if_neg (by omega)] at hq; exact ih _ _ _ (by omega) (by omega) (by omega) (by omega) hq) | (have e1 : anWo mem n t o = o + anCm mem n t := if_neg (by omega); have e2 : anWw mem n t o w = w := if_neg (by omega); rw [e1, e2, if_neg (by omega)] at hq; exact ih _ _ _ (by omega) (by omega) (by omega) (by omega) hq)
          · refine m_iload rfl rfl rfl ?_
            refine m_iconst rfl rfl ?_
            refine m_iadd rfl rfl ?_
            refine m_iret rfl rfl rfl (Nat.le_of_ble_eq_true rfl) (Nat.le_of_ble_eq_true rfl) ?_
            first | (exfalso; omega) | (have e1 : anWo mem n t o = o + anCm mem n t - 1 := if_pos (by omega); have e2 : anWw mem n t o w = w := if_neg (by omega); rw [e1, e2, if_pos (by omega)] at hq; rw [hq]; exact ⟨rfl, rfl⟩) | (have e1 : anWo mem n t o = o + anCm mem n t := if_neg (by omega); have e2 : anWw mem n t o w = w - 1 := if_pos (by omega); rw [e1, e2, if_pos (by omega)] at hq; rw [hq]; exact ⟨rfl, rfl⟩) | (have e1 : anWo mem n t o = o + anCm mem n t := if_neg (by omega); have e2 : anWw mem n t o w = w := if_neg (by omega); rw [e1, e2, if_pos (by omega)] at hq; rw [hq]; exact ⟨rfl, rfl⟩)

set_option maxRecDepth 10000 in
theorem c_anWt {l : Launch} {G : zkG} {mem : zkM} (hl : l.stackTraces = false) {n : Nat} (hA : anA mem) (hn : n < 5) : zkCt l G i_An_witnessOf 3 0 0 [vr 0 0, vr 5 n] mem (zkR1 (vi (anWt mem n)) mem) := by
  refine zkCt_of hl ok_An_witnessOf (by decide +kernel) rfl rfl (List.forall_mem_cons.mpr ⟨rfl, (List.forall_mem_cons.mpr ⟨rfl, fun _ h => nomatch h⟩)⟩) (Nat.le_of_ble_eq_true rfl) ?_
  obtain ⟨g1, g2, g3, g4, g5, g6, g7⟩ := id hA
  obtain ⟨g8, g9⟩ := g2 n hn
  refine m_aload_n rfl rfl rfl ?_
  refine m_aload_n rfl rfl rfl ?_
  refine m_cs1 rfl rfl lk_8_49 (c_anBl hl hA hn) rfl rfl (Nat.le_of_ble_eq_true rfl) (Nat.le_of_ble_eq_true rfl) (Nat.le_of_ble_eq_true rfl) (Nat.le_of_ble_eq_true rfl) (Nat.le_of_ble_eq_true rfl) ?_
  refine m_istore_n rfl rfl (Nat.le_of_ble_eq_true rfl) rfl ?_
  refine m_aload_n rfl rfl rfl ?_
  refine m_gix (k := 9) (x := mem 5 n 9) rfl rfl (Nat.le_of_ble_eq_true rfl) rfl rfl (by first | decide | assumption | (simp only [cnt]; omega)) (by first | rfl | ((repeat (first | rw [ms_s] | rw [ms_t (by decide)] | rw [ms_k (by decide)])) <;> rfl)) ?_
  refine m_istore_n rfl rfl (Nat.le_of_ble_eq_true rfl) rfl ?_
  refine m_iconst rfl rfl ?_
  refine m_istore rfl rfl (Nat.le_of_ble_eq_true rfl) rfl ?_
  refine m_iconst rfl rfl ?_
  refine m_istore rfl rfl (Nat.le_of_ble_eq_true rfl) rfl ?_
  exact w_anWt hl hA hn 1000 0 0 (mem 5 n 9) (by omega) (by omega) (by omega) (by omega) rfl

def anMf (m : zkM) : Nat → Nat → Bool
  | 0, _ => true
  | r + 1, i => if 0 < m 5 i 8 ∧ ¬ (1 ≤ anBd m i ∧ anBd m i ≤ m 5 i 6) then false else anMf m r (i + 1)
theorem anMf_s (m : zkM) (r i : Nat) : anMf m (r + 1) i = if 0 < m 5 i 8 ∧ ¬ (1 ≤ anBd m i ∧ anBd m i ≤ m 5 i 6) then false else anMf m r (i + 1) := rfl
def anMd (m : zkM) : Bool := anMf m (m 0 0 5).toNat 0
set_option maxRecDepth 10000 in
theorem w_anMd {l : Launch} {G : zkG} {mem : zkM} (hl : l.stackTraces = false) (hA : anA mem) : ∀ (r i : Nat) (o2 : Option zkV), (i : Int) + r = mem 0 0 5 → anMd mem = anMf mem r i → zkW l G i_An_meetsDeadlines (zkKm G 4 0 0 (zkR1 (vi (b2i (anMd mem))) mem)) 0 0 2 [some (vr 0 0), some (vi i), o2] [] mem := by
  obtain ⟨g1, g2, g3, g4, g5, g6, g7⟩ := id hA
  intro r
  induction r with
  | zero =>
    intro i o2 h1 hq
    refine m_iload_n rfl rfl rfl ?_
    refine m_aload_n rfl rfl rfl ?_
    refine m_gix (k := 5) (x := mem 0 _ 5) rfl rfl (Nat.le_of_ble_eq_true rfl) rfl rfl (by first | decide | assumption | (simp only [cnt]; omega)) (by first | rfl | ((repeat (first | rw [ms_s] | rw [ms_t (by decide)] | rw [ms_k (by decide)])) <;> rfl)) ?_
    refine m_icmp_ge (tgt := 48) rfl rfl rfl (by omega) (by omega) (fun c7 => ?_) (fun c7 => ?_)
    · refine m_iconst rfl rfl ?_
      refine m_z1 rfl rfl rfl (Nat.le_of_ble_eq_true rfl) (Nat.le_of_ble_eq_true rfl) ?_
      rw [hq]
      exact ⟨rfl, rfl⟩
    · exfalso; omega
  | succ r ih =>
    intro i o2 h1 hq
    have k1 := (g2 i (by omega)).1
    have k2 := anBd_b hA (n := i) (by omega)
    rw [anMf_s mem r i] at hq
    refine m_iload_n rfl rfl rfl ?_
    refine m_aload_n rfl rfl rfl ?_
    refine m_gix (k := 5) (x := mem 0 _ 5) rfl rfl (Nat.le_of_ble_eq_true rfl) rfl rfl (by first | decide | assumption | (simp only [cnt]; omega)) (by first | rfl | ((repeat (first | rw [ms_s] | rw [ms_t (by decide)] | rw [ms_k (by decide)])) <;> rfl)) ?_
    refine m_icmp_ge (tgt := 48) rfl rfl rfl (by omega) (by omega) (fun c7 => ?_) (fun c7 => ?_)
    · exfalso; omega
    · refine m_aload_n rfl rfl rfl ?_
      refine m_gr (k := 0) rfl rfl (Nat.le_of_ble_eq_true rfl) rfl rfl (by first | decide | assumption | (simp only [cnt]; omega)) ?_
      refine m_iload_n rfl rfl rfl ?_
      refine m_aaln (n := i) (q := i) rfl rfl (by decide) (by omega) (by omega) (by omega) ?_
      refine m_astore_n rfl rfl (Nat.le_of_ble_eq_true rfl) rfl ?_
      refine m_aload_n rfl rfl rfl ?_
      refine m_gix (k := 8) (x := mem 5 i 8) rfl rfl (Nat.le_of_ble_eq_true rfl) rfl rfl (by first | decide | assumption | (simp only [cnt]; omega)) (by first | rfl | ((repeat (first | rw [ms_s] | rw [ms_t (by decide)] | rw [ms_k (by decide)])) <;> rfl)) ?_
      refine m_if_le (tgt := 42) rfl rfl rfl (by omega) (fun c21 => ?_) (fun c21 => ?_)
      · refine m_iinc rfl rfl rfl (Nat.le_of_ble_eq_true rfl) rfl ?_
        refine m_goto (tgt := 2) rfl rfl rfl ?_
        rw [if_neg (by omega)] at hq
        exact ih (i + 1) _ (by omega) hq
      · refine m_aload_n rfl rfl rfl ?_
        refine m_aload_n rfl rfl rfl ?_
        refine m_cs1 rfl rfl lk_8_91 (c_anBd (n := i) hl hA (by omega)) rfl rfl (Nat.le_of_ble_eq_true rfl) (Nat.le_of_ble_eq_true rfl) (Nat.le_of_ble_eq_true rfl) (Nat.le_of_ble_eq_true rfl) (Nat.le_of_ble_eq_true rfl) ?_
        refine m_iconst rfl rfl ?_
        refine m_aload_n rfl rfl rfl ?_
        refine m_gix (k := 6) (x := mem 5 i 6) rfl rfl (Nat.le_of_ble_eq_true rfl) rfl rfl (by first | decide | assumption | (simp only [cnt]; omega)) (by first | rfl | ((repeat (first | rw [ms_s] | rw [ms_t (by decide)] | rw [ms_k (by decide)])) <;> rfl)) ?_
        refine m_cs1 rfl rfl lk_8_97 (c_isWithin hl (by omega) (by omega) (by omega)) rfl rfl (Nat.le_of_ble_eq_true rfl) (Nat.le_of_ble_eq_true rfl) (Nat.le_of_ble_eq_true rfl) (Nat.le_of_ble_eq_true rfl) (Nat.le_of_ble_eq_true rfl) ?_
        refine m_if_ne_d (tgt := 42) rfl rfl rfl (fun c37 => ?_) (fun c37 => ?_)
        · refine m_iinc rfl rfl rfl (Nat.le_of_ble_eq_true rfl) rfl ?_
          refine m_goto (tgt := 2) rfl rfl rfl ?_
          rw [if_neg (by omega)] at hq
          exact ih (i + 1) _ (by omega) hq
        · refine m_iconst rfl rfl ?_
          refine m_z0 rfl rfl rfl (Nat.le_of_ble_eq_true rfl) (Nat.le_of_ble_eq_true rfl) ?_
          rw [if_pos (by omega)] at hq
          rw [hq]
          exact ⟨rfl, rfl⟩

set_option maxRecDepth 10000 in
theorem c_anMd {l : Launch} {G : zkG} {mem : zkM} (hl : l.stackTraces = false) (hA : anA mem) : zkCt l G i_An_meetsDeadlines 4 0 0 [vr 0 0] mem (zkR1 (vi (b2i (anMd mem))) mem) := by
  refine zkCt_of hl ok_An_meetsDeadlines (by decide +kernel) rfl rfl (List.forall_mem_cons.mpr ⟨rfl, fun _ h => nomatch h⟩) (Nat.le_of_ble_eq_true rfl) ?_
  have h5 := hA.1
  refine m_iconst rfl rfl ?_
  refine m_istore_n rfl rfl (Nat.le_of_ble_eq_true rfl) rfl ?_
  exact w_anMd hl hA (mem 0 0 5).toNat 0 none (by omega) rfl

