/-! the class: the reader -/
set_option maxRecDepth 10000 in
theorem c_rdFull {l : Launch} {G : zkG} {mem : zkM} (hl : l.stackTraces = false) (h2 : 0 ≤ mem 2 0 2 ∧ mem 2 0 2 ≤ 60) : zkCt l G i_Rd_isFull 0 0 0 [vr 2 0] mem (zkR1 (vi (b2i (decide (60 ≤ mem 2 0 2)))) mem) := by
  refine zkCt_of hl ok_Rd_isFull (by decide +kernel) rfl rfl (List.forall_mem_cons.mpr ⟨rfl, fun _ h => nomatch h⟩) (Nat.le_of_ble_eq_true rfl) ?_
  refine m_aload_n rfl rfl rfl ?_
  refine m_gix (k := 2) (x := mem 2 _ 2) rfl rfl (Nat.le_of_ble_eq_true rfl) rfl rfl (by first | decide | assumption | (simp only [cnt]; omega)) (by first | rfl | ((repeat (first | rw [ms_s] | rw [ms_t (by decide)] | rw [ms_k (by decide)])) <;> rfl)) ?_
  refine m_bipush rfl rfl (by decide) ?_
  refine m_icmp_lt (tgt := 13) rfl rfl rfl (by omega) (by omega) (fun c6 => ?_) (fun c6 => ?_)
  · refine m_iconst rfl rfl ?_
    refine m_z0 rfl rfl rfl (Nat.le_of_ble_eq_true rfl) (Nat.le_of_ble_eq_true rfl) ?_
    first | (rw [decide_eq_true (by omega)]; exact ⟨rfl, rfl⟩) | (rw [decide_eq_false (by omega)]; exact ⟨rfl, rfl⟩)
  · refine m_iconst rfl rfl ?_
    refine m_goto (tgt := 14) rfl rfl rfl ?_
    refine m_z1 rfl rfl rfl (Nat.le_of_ble_eq_true rfl) (Nat.le_of_ble_eq_true rfl) ?_
    first | (rw [decide_eq_true (by omega)]; exact ⟨rfl, rfl⟩) | (rw [decide_eq_false (by omega)]; exact ⟨rfl, rfl⟩)

def rdPut (m : zkM) (x : Int) : Int × zkM := if 60 ≤ m 2 0 2 then (m 2 0 2, m) else (m 2 0 2 + 1, mset (mset m 23 0 (m 2 0 2).toNat x) 2 0 2 (m 2 0 2 + 1))
set_option maxRecDepth 10000 in
theorem c_rdPut {l : Launch} {G : zkG} {mem : zkM} (hl : l.stackTraces = false) {x : Int} (h2 : 0 ≤ mem 2 0 2 ∧ mem 2 0 2 ≤ 60) (hx : 0 ≤ x ∧ x < 65536) : zkCt l G i_Rd_put 1 0 0 [vr 2 0, vi x] mem (zkR1 (vi (rdPut mem x).1) (rdPut mem x).2) := by
  refine zkCt_of hl ok_Rd_put (by decide +kernel) rfl rfl (List.forall_mem_cons.mpr ⟨rfl, (List.forall_mem_cons.mpr ⟨rfl, fun _ h => nomatch h⟩)⟩) (Nat.le_of_ble_eq_true rfl) ?_
  refine m_aload_n rfl rfl rfl ?_
  refine m_cv1 rfl rfl lk_2_23 (c_rdFull hl h2) rfl (by first | decide | assumption | (simp only [cnt]; omega)) (Nat.le_of_ble_eq_true rfl) rfl rfl (Nat.le_of_ble_eq_true rfl) (Nat.le_of_ble_eq_true rfl) (Nat.le_of_ble_eq_true rfl) (Nat.le_of_ble_eq_true rfl) (Nat.le_of_ble_eq_true rfl) ?_
  refine m_if_ne_d (tgt := 27) rfl rfl rfl (fun c4 => ?_) (fun c4 => ?_)
  · refine m_aload_n rfl rfl rfl ?_
    first | refine m_gix (k := 2) (x := mem 2 0 2) rfl rfl (Nat.le_of_ble_eq_true rfl) rfl rfl (by decide) rfl ?_ | refine m_gix (k := 2) (x := mem 2 0 2 + 1) rfl rfl (Nat.le_of_ble_eq_true rfl) rfl rfl (by decide) rfl ?_
    refine m_iret rfl rfl rfl (Nat.le_of_ble_eq_true rfl) (Nat.le_of_ble_eq_true rfl) ?_
    unfold rdPut
    first | (rw [if_pos (by omega)]; exact ⟨rfl, rfl⟩) | (rw [if_neg (by omega)]; exact ⟨rfl, rfl⟩)
  · refine m_aload_n rfl rfl rfl ?_
    refine m_gr (k := 0) rfl rfl (Nat.le_of_ble_eq_true rfl) rfl rfl (by first | decide | assumption | (simp only [cnt]; omega)) ?_
    refine m_aload_n rfl rfl rfl ?_
    refine m_gix (k := 2) (x := mem 2 _ 2) rfl rfl (Nat.le_of_ble_eq_true rfl) rfl rfl (by first | decide | assumption | (simp only [cnt]; omega)) (by first | rfl | ((repeat (first | rw [ms_s] | rw [ms_t (by decide)] | rw [ms_k (by decide)])) <;> rfl)) ?_
    refine m_iload_n rfl rfl rfl ?_
    refine m_casn (n := (mem 2 0 2).toNat) rfl rfl (Nat.le_of_ble_eq_true rfl) rfl (by first | decide | assumption | (simp only [cnt]; omega)) (by omega) (by simp only [aln]; omega) (by omega) (by omega) ?_
    refine m_aload_n rfl rfl rfl ?_
    refine m_dup rfl rfl rfl ?_
    refine m_gix (k := 2) (x := mem 2 _ 2) rfl rfl (Nat.le_of_ble_eq_true rfl) rfl rfl (by first | decide | assumption | (simp only [cnt]; omega)) (by first | rfl | ((repeat (first | rw [ms_s] | rw [ms_t (by decide)] | rw [ms_k (by decide)])) <;> rfl)) ?_
    refine m_iconst rfl rfl ?_
    refine m_iadd rfl rfl ?_
    refine m_pi (k := 2) rfl rfl (Nat.le_of_ble_eq_true rfl) rfl rfl rfl rfl (by first | decide | assumption | (simp only [cnt]; omega)) ?_
    refine m_aload_n rfl rfl rfl ?_
    first | refine m_gix (k := 2) (x := mem 2 0 2) rfl rfl (Nat.le_of_ble_eq_true rfl) rfl rfl (by decide) rfl ?_ | refine m_gix (k := 2) (x := mem 2 0 2 + 1) rfl rfl (Nat.le_of_ble_eq_true rfl) rfl rfl (by decide) rfl ?_
    refine m_iret rfl rfl rfl (Nat.le_of_ble_eq_true rfl) (Nat.le_of_ble_eq_true rfl) ?_
    unfold rdPut
    first | (rw [if_pos (by omega)]; exact ⟨rfl, rfl⟩) | (rw [if_neg (by omega)]; exact ⟨rfl, rfl⟩)

def rdNum (m : zkM) (x : Int) : Int := if 0 ≤ x ∧ x ≤ m 2 0 3 - 1 then m 24 0 x.toNat else 0
set_option maxRecDepth 10000 in
theorem c_rdNum {l : Launch} {G : zkG} {mem : zkM} (hl : l.stackTraces = false) {x : Int} (h3 : 0 ≤ mem 2 0 3 ∧ mem 2 0 3 ≤ 4) (hx : inR x) : zkCt l G i_Rd_number 1 0 0 [vr 2 0, vi x] mem (zkR1 (vi (rdNum mem x)) mem) := by
  refine zkCt_of hl ok_Rd_number (by decide +kernel) rfl rfl (List.forall_mem_cons.mpr ⟨rfl, (List.forall_mem_cons.mpr ⟨rfl, fun _ h => nomatch h⟩)⟩) (Nat.le_of_ble_eq_true rfl) ?_
  refine m_iload_n rfl rfl rfl ?_
  refine m_iconst rfl rfl ?_
  refine m_aload_n rfl rfl rfl ?_
  refine m_gix (k := 3) (x := mem 2 _ 3) rfl rfl (Nat.le_of_ble_eq_true rfl) rfl rfl (by first | decide | assumption | (simp only [cnt]; omega)) (by first | rfl | ((repeat (first | rw [ms_s] | rw [ms_t (by decide)] | rw [ms_k (by decide)])) <;> rfl)) ?_
  refine m_iconst rfl rfl ?_
  refine m_isub rfl rfl ?_
  refine m_cs1 rfl rfl lk_2_30 (c_isWithin hl (by omega) (by omega) (by omega)) rfl rfl (Nat.le_of_ble_eq_true rfl) (Nat.le_of_ble_eq_true rfl) (Nat.le_of_ble_eq_true rfl) (Nat.le_of_ble_eq_true rfl) (Nat.le_of_ble_eq_true rfl) ?_
  refine m_if_eq_d (tgt := 23) rfl rfl rfl (fun c11 => ?_) (fun c11 => ?_)
  · refine m_iconst rfl rfl ?_
    refine m_iret rfl rfl rfl (Nat.le_of_ble_eq_true rfl) (Nat.le_of_ble_eq_true rfl) ?_
    unfold rdNum
    first | (rw [if_pos (by omega)]; exact ⟨rfl, rfl⟩) | (rw [if_neg (by omega)]; exact ⟨rfl, rfl⟩)
  · refine m_aload_n rfl rfl rfl ?_
    refine m_gr (k := 1) rfl rfl (Nat.le_of_ble_eq_true rfl) rfl rfl (by first | decide | assumption | (simp only [cnt]; omega)) ?_
    refine m_iload_n rfl rfl rfl ?_
    refine m_ialx (n := x.toNat) (y := mem 24 _ (x.toNat)) rfl rfl (Nat.le_of_ble_eq_true rfl) rfl (by first | decide | assumption | (simp only [cnt]; omega)) (by omega) (by simp only [aln]; omega) (by first | rfl | ((repeat (first | rw [ms_s] | rw [ms_t (by decide)] | rw [ms_k (by decide)])) <;> rfl)) ?_
    refine m_goto (tgt := 24) rfl rfl rfl ?_
    refine m_iret rfl rfl rfl (Nat.le_of_ble_eq_true rfl) (Nat.le_of_ble_eq_true rfl) ?_
    unfold rdNum
    first | (rw [if_pos (by omega)]; exact ⟨rfl, rfl⟩) | (rw [if_neg (by omega)]; exact ⟨rfl, rfl⟩)

def rdA (m : zkM) : Prop := (0 ≤ m 2 0 2 ∧ m 2 0 2 ≤ 60) ∧ ∀ k, k < 60 → 0 ≤ m 23 0 k ∧ m 23 0 k ≤ 65535
def rdSg (m : zkM) (a c : Int) : Int := if a < m 2 0 2 ∧ m 23 0 a.toNat = c then a + 1 else a
set_option maxRecDepth 10000 in
theorem c_rdSg {l : Launch} {G : zkG} {mem : zkM} (hl : l.stackTraces = false) {a c : Int} (hR : rdA mem) (ha : 0 ≤ a ∧ a ≤ 60) (hc : inR c) : zkCt l G i_Rd_afterSign 0 0 0 [vr 2 0, vi a, vi c] mem (zkR1 (vi (rdSg mem a c)) mem) := by
  refine zkCt_of hl ok_Rd_afterSign (by decide +kernel) rfl rfl (List.forall_mem_cons.mpr ⟨rfl, (List.forall_mem_cons.mpr ⟨rfl, (List.forall_mem_cons.mpr ⟨rfl, fun _ h => nomatch h⟩)⟩)⟩) (Nat.le_of_ble_eq_true rfl) ?_
  obtain ⟨r1, r2⟩ := hR
  refine m_iload_n rfl rfl rfl ?_
  refine m_aload_n rfl rfl rfl ?_
  refine m_gix (k := 2) (x := mem 2 _ 2) rfl rfl (Nat.le_of_ble_eq_true rfl) rfl rfl (by first | decide | assumption | (simp only [cnt]; omega)) (by first | rfl | ((repeat (first | rw [ms_s] | rw [ms_t (by decide)] | rw [ms_k (by decide)])) <;> rfl)) ?_
  refine m_icmp_ge (tgt := 24) rfl rfl rfl (by omega) (by omega) (fun c5 => ?_) (fun c5 => ?_)
  · refine m_iload_n rfl rfl rfl ?_
    refine m_iret rfl rfl rfl (Nat.le_of_ble_eq_true rfl) (Nat.le_of_ble_eq_true rfl) ?_
    unfold rdSg
    first | (rw [if_pos (by omega)]; exact ⟨rfl, rfl⟩) | (rw [if_neg (by omega)]; exact ⟨rfl, rfl⟩)
  · have r3 := r2 a.toNat (by omega)
    refine m_aload_n rfl rfl rfl ?_
    refine m_gr (k := 0) rfl rfl (Nat.le_of_ble_eq_true rfl) rfl rfl (by first | decide | assumption | (simp only [cnt]; omega)) ?_
    refine m_iload_n rfl rfl rfl ?_
    refine m_calx (n := a.toNat) (y := mem 23 _ (a.toNat)) rfl rfl (Nat.le_of_ble_eq_true rfl) rfl (by first | decide | assumption | (simp only [cnt]; omega)) (by omega) (by simp only [aln]; omega) (by first | rfl | ((repeat (first | rw [ms_s] | rw [ms_t (by decide)] | rw [ms_k (by decide)])) <;> rfl)) ?_
    refine m_iload_n rfl rfl rfl ?_
    refine m_icmp_ne (tgt := 24) rfl rfl rfl (by omega) (by omega) (fun c15 => ?_) (fun c15 => ?_)
    · refine m_iload_n rfl rfl rfl ?_
      refine m_iret rfl rfl rfl (Nat.le_of_ble_eq_true rfl) (Nat.le_of_ble_eq_true rfl) ?_
      unfold rdSg
      first | (rw [if_pos (by omega)]; exact ⟨rfl, rfl⟩) | (rw [if_neg (by omega)]; exact ⟨rfl, rfl⟩)
    · refine m_iload_n rfl rfl rfl ?_
      refine m_iconst rfl rfl ?_
      refine m_iadd rfl rfl ?_
      refine m_goto (tgt := 25) rfl rfl rfl ?_
      refine m_iret rfl rfl rfl (Nat.le_of_ble_eq_true rfl) (Nat.le_of_ble_eq_true rfl) ?_
      unfold rdSg
      first | (rw [if_pos (by omega)]; exact ⟨rfl, rfl⟩) | (rw [if_neg (by omega)]; exact ⟨rfl, rfl⟩)

/-- a number's signs: remaining digits, place, value, digits so far -/
def rdDf (m : zkM) : Nat → Int → Int → Int → Int × Int
  | 0, e, v, _ => (e, v)
  | r + 1, e, v, k => if (e < m 2 0 2 ∧ 48 ≤ m 23 0 e.toNat ∧ m 23 0 e.toNat ≤ 57) ∧ ¬ (0 < k ∧ v = 0) then rdDf m r (e + 1) (v * 10 + (m 23 0 e.toNat - 48)) (k + 1) else (e, v)
theorem rdDf_s (m : zkM) (r : Nat) (e v k : Int) : rdDf m (r + 1) e v k = if (e < m 2 0 2 ∧ 48 ≤ m 23 0 e.toNat ∧ m 23 0 e.toNat ≤ 57) ∧ ¬ (0 < k ∧ v = 0) then rdDf m r (e + 1) (v * 10 + (m 23 0 e.toNat - 48)) (k + 1) else (e, v) := rfl
def rdNb (m : zkM) (a : Int) : Int × zkM := if a < (rdDf m 3 a 0 0).1 ∧ m 2 0 3 < 4 then ((rdDf m 3 a 0 0).1, mset (mset m 24 0 (m 2 0 3).toNat (rdDf m 3 a 0 0).2) 2 0 3 (m 2 0 3 + 1)) else ((rdDf m 3 a 0 0).1, m)
theorem rdDf_b {m : zkM} (h : rdA m) : ∀ (r : Nat) (e v k : Int), r + k = 3 → 0 ≤ k → (0 ≤ e ∧ e ≤ 60) → (0 ≤ v ∧ v ≤ 999) → (k = 0 → v = 0) → (k = 1 → v ≤ 9) → (k = 2 → v ≤ 99) → (e ≤ (rdDf m r e v k).1 ∧ (rdDf m r e v k).1 ≤ 60) ∧ (0 ≤ (rdDf m r e v k).2 ∧ (rdDf m r e v k).2 ≤ 999)
  | 0, e, v, k, _, _, _, _, _, _, _ => by unfold rdDf; dsimp only; omega
  | r + 1, e, v, k, h1, h2, h3, h4, h5, h6, h7 => by
    rw [rdDf_s]
    obtain ⟨g1, g2⟩ := id h
    split
    · have := rdDf_b h r (e + 1) (v * 10 + (m 23 0 e.toNat - 48)) (k + 1) (by omega) (by omega) (by omega) (by omega) (by omega) (by omega) (by omega)
      omega
    · dsimp only; omega
set_option maxRecDepth 10000 in
theorem w_rdNb {l : Launch} {G : zkG} {mem : zkM} {a : Int} (hl : l.stackTraces = false) (hR : rdA mem) (h3 : 0 ≤ mem 2 0 3 ∧ mem 2 0 3 ≤ 4) (ha : 0 ≤ a) : ∀ (r : Nat) (e v k : Int), r + k = 3 → 0 ≤ k → (a ≤ e ∧ e ≤ 60) → (0 ≤ v ∧ v ≤ 999) → (k = 0 → v = 0) → (k = 1 → v ≤ 9) → (k = 2 → v ≤ 99) → rdDf mem 3 a 0 0 = rdDf mem r e v k → zkW l G i_Rd_afterNumber (zkKm G 1 0 0 (zkR1 (vi (rdNb mem a).1) (rdNb mem a).2)) 0 0 7 [some (vr 2 0), some (vi a), some (vi e), some (vi v), some (vi k)] [] mem := by
  obtain ⟨g1, g2⟩ := id hR
  intro r
  induction r with
  | zero =>
    intro e v k h1 h2 h3b h4 h5 h6 h7 h8
    rw [show rdDf mem 0 e v k = (e, v) from rfl] at h8
    refine m_iload rfl rfl rfl ?_
    refine m_iconst rfl rfl ?_
    refine m_icmp_ge (tgt := 73) rfl rfl rfl (by omega) (by omega) (fun c10 => ?_) (fun c10 => ?_)
    · refine m_iload_n rfl rfl rfl ?_
      refine m_iload_n rfl rfl rfl ?_
      refine m_icmp_le (tgt := 106) rfl rfl rfl (by omega) (by omega) (fun c75 => ?_) (fun c75 => ?_)
      · refine m_iload_n rfl rfl rfl ?_
        refine m_iret rfl rfl rfl (Nat.le_of_ble_eq_true rfl) (Nat.le_of_ble_eq_true rfl) ?_
        unfold rdNb
        rw [h8]
        first | (rw [if_pos (by dsimp only; omega)]; exact ⟨rfl, rfl⟩) | (rw [if_neg (by dsimp only; omega)]; exact ⟨rfl, rfl⟩)
      · refine m_aload_n rfl rfl rfl ?_
        refine m_gix (k := 3) (x := mem 2 _ 3) rfl rfl (Nat.le_of_ble_eq_true rfl) rfl rfl (by first | decide | assumption | (simp only [cnt]; omega)) (by first | rfl | ((repeat (first | rw [ms_s] | rw [ms_t (by decide)] | rw [ms_k (by decide)])) <;> rfl)) ?_
        refine m_iconst rfl rfl ?_
        refine m_icmp_ge (tgt := 106) rfl rfl rfl (by omega) (by omega) (fun c83 => ?_) (fun c83 => ?_)
        · refine m_iload_n rfl rfl rfl ?_
          refine m_iret rfl rfl rfl (Nat.le_of_ble_eq_true rfl) (Nat.le_of_ble_eq_true rfl) ?_
          unfold rdNb
          rw [h8]
          first | (rw [if_pos (by dsimp only; omega)]; exact ⟨rfl, rfl⟩) | (rw [if_neg (by dsimp only; omega)]; exact ⟨rfl, rfl⟩)
        · refine m_aload_n rfl rfl rfl ?_
          refine m_gr (k := 1) rfl rfl (Nat.le_of_ble_eq_true rfl) rfl rfl (by first | decide | assumption | (simp only [cnt]; omega)) ?_
          refine m_aload_n rfl rfl rfl ?_
          refine m_gix (k := 3) (x := mem 2 _ 3) rfl rfl (Nat.le_of_ble_eq_true rfl) rfl rfl (by first | decide | assumption | (simp only [cnt]; omega)) (by first | rfl | ((repeat (first | rw [ms_s] | rw [ms_t (by decide)] | rw [ms_k (by decide)])) <;> rfl)) ?_
          refine m_iload_n rfl rfl rfl ?_
          refine m_iasn (n := (mem 2 0 3).toNat) rfl rfl (Nat.le_of_ble_eq_true rfl) rfl (by first | decide | assumption | (simp only [cnt]; omega)) (by omega) (by simp only [aln]; omega) ?_
          refine m_aload_n rfl rfl rfl ?_
          refine m_dup rfl rfl rfl ?_
          refine m_gix (k := 3) (x := mem 2 _ 3) rfl rfl (Nat.le_of_ble_eq_true rfl) rfl rfl (by first | decide | assumption | (simp only [cnt]; omega)) (by first | rfl | ((repeat (first | rw [ms_s] | rw [ms_t (by decide)] | rw [ms_k (by decide)])) <;> rfl)) ?_
          refine m_iconst rfl rfl ?_
          refine m_iadd rfl rfl ?_
          refine m_pi (k := 3) rfl rfl (Nat.le_of_ble_eq_true rfl) rfl rfl rfl rfl (by first | decide | assumption | (simp only [cnt]; omega)) ?_
          refine m_iload_n rfl rfl rfl ?_
          refine m_iret rfl rfl rfl (Nat.le_of_ble_eq_true rfl) (Nat.le_of_ble_eq_true rfl) ?_
          unfold rdNb
          rw [h8]
          first | (rw [if_pos (by dsimp only; omega)]; exact ⟨rfl, rfl⟩) | (rw [if_neg (by dsimp only; omega)]; exact ⟨rfl, rfl⟩)
    · exfalso; omega
  | succ r ih =>
    intro e v k h1 h2 h3b h4 h5 h6 h7 h8
    rw [rdDf_s mem r e v k] at h8
    refine m_iload rfl rfl rfl ?_
    refine m_iconst rfl rfl ?_
    refine m_icmp_ge (tgt := 73) rfl rfl rfl (by omega) (by omega) (fun c10 => ?_) (fun c10 => ?_)
    · exfalso; omega
    · refine m_iload_n rfl rfl rfl ?_
      refine m_aload_n rfl rfl rfl ?_
      refine m_gix (k := 2) (x := mem 2 _ 2) rfl rfl (Nat.le_of_ble_eq_true rfl) rfl rfl (by first | decide | assumption | (simp only [cnt]; omega)) (by first | rfl | ((repeat (first | rw [ms_s] | rw [ms_t (by decide)] | rw [ms_k (by decide)])) <;> rfl)) ?_
      refine m_icmp_ge (tgt := 73) rfl rfl rfl (by omega) (by omega) (fun c18 => ?_) (fun c18 => ?_)
      · rw [if_neg (by omega)] at h8
        refine m_iload_n rfl rfl rfl ?_
        refine m_iload_n rfl rfl rfl ?_
        refine m_icmp_le (tgt := 106) rfl rfl rfl (by omega) (by omega) (fun c75 => ?_) (fun c75 => ?_)
        · refine m_iload_n rfl rfl rfl ?_
          refine m_iret rfl rfl rfl (Nat.le_of_ble_eq_true rfl) (Nat.le_of_ble_eq_true rfl) ?_
          unfold rdNb
          rw [h8]
          first | (rw [if_pos (by dsimp only; omega)]; exact ⟨rfl, rfl⟩) | (rw [if_neg (by dsimp only; omega)]; exact ⟨rfl, rfl⟩)
        · refine m_aload_n rfl rfl rfl ?_
          refine m_gix (k := 3) (x := mem 2 _ 3) rfl rfl (Nat.le_of_ble_eq_true rfl) rfl rfl (by first | decide | assumption | (simp only [cnt]; omega)) (by first | rfl | ((repeat (first | rw [ms_s] | rw [ms_t (by decide)] | rw [ms_k (by decide)])) <;> rfl)) ?_
          refine m_iconst rfl rfl ?_
          refine m_icmp_ge (tgt := 106) rfl rfl rfl (by omega) (by omega) (fun c83 => ?_) (fun c83 => ?_)
          · refine m_iload_n rfl rfl rfl ?_
            refine m_iret rfl rfl rfl (Nat.le_of_ble_eq_true rfl) (Nat.le_of_ble_eq_true rfl) ?_
            unfold rdNb
            rw [h8]
            first | (rw [if_pos (by dsimp only; omega)]; exact ⟨rfl, rfl⟩) | (rw [if_neg (by dsimp only; omega)]; exact ⟨rfl, rfl⟩)
          · refine m_aload_n rfl rfl rfl ?_
            refine m_gr (k := 1) rfl rfl (Nat.le_of_ble_eq_true rfl) rfl rfl (by first | decide | assumption | (simp only [cnt]; omega)) ?_
            refine m_aload_n rfl rfl rfl ?_
            refine m_gix (k := 3) (x := mem 2 _ 3) rfl rfl (Nat.le_of_ble_eq_true rfl) rfl rfl (by first | decide | assumption | (simp only [cnt]; omega)) (by first | rfl | ((repeat (first | rw [ms_s] | rw [ms_t (by decide)] | rw [ms_k (by decide)])) <;> rfl)) ?_
            refine m_iload_n rfl rfl rfl ?_
            refine m_iasn (n := (mem 2 0 3).toNat) rfl rfl (Nat.le_of_ble_eq_true rfl) rfl (by first | decide | assumption | (simp only [cnt]; omega)) (by omega) (by simp only [aln]; omega) ?_
            refine m_aload_n rfl rfl rfl ?_
            refine m_dup rfl rfl rfl ?_
            refine m_gix (k := 3) (x := mem 2 _ 3) rfl rfl (Nat.le_of_ble_eq_true rfl) rfl rfl (by first | decide | assumption | (simp only [cnt]; omega)) (by first | rfl | ((repeat (first | rw [ms_s] | rw [ms_t (by decide)] | rw [ms_k (by decide)])) <;> rfl)) ?_
            refine m_iconst rfl rfl ?_
            refine m_iadd rfl rfl ?_
            refine m_pi (k := 3) rfl rfl (Nat.le_of_ble_eq_true rfl) rfl rfl rfl rfl (by first | decide | assumption | (simp only [cnt]; omega)) ?_
            refine m_iload_n rfl rfl rfl ?_
            refine m_iret rfl rfl rfl (Nat.le_of_ble_eq_true rfl) (Nat.le_of_ble_eq_true rfl) ?_
            unfold rdNb
            rw [h8]
            first | (rw [if_pos (by dsimp only; omega)]; exact ⟨rfl, rfl⟩) | (rw [if_neg (by dsimp only; omega)]; exact ⟨rfl, rfl⟩)
      · have g3 := g2 e.toNat (by omega)
        refine m_aload_n rfl rfl rfl ?_
        refine m_gr (k := 0) rfl rfl (Nat.le_of_ble_eq_true rfl) rfl rfl (by first | decide | assumption | (simp only [cnt]; omega)) ?_
        refine m_iload_n rfl rfl rfl ?_
        refine m_calx (n := e.toNat) (y := mem 23 _ (e.toNat)) rfl rfl (Nat.le_of_ble_eq_true rfl) rfl (by first | decide | assumption | (simp only [cnt]; omega)) (by omega) (by simp only [aln]; omega) (by first | rfl | ((repeat (first | rw [ms_s] | rw [ms_t (by decide)] | rw [ms_k (by decide)])) <;> rfl)) ?_
        refine m_bipush rfl rfl (by decide) ?_
        refine m_bipush rfl rfl (by decide) ?_
        refine m_cs1 rfl rfl lk_2_30 (c_isWithin hl (by omega) (by omega) (by omega)) rfl rfl (Nat.le_of_ble_eq_true rfl) (Nat.le_of_ble_eq_true rfl) (Nat.le_of_ble_eq_true rfl) (Nat.le_of_ble_eq_true rfl) (Nat.le_of_ble_eq_true rfl) ?_
        refine m_if_eq_d (tgt := 73) rfl rfl rfl (fun c34 => ?_) (fun c34 => ?_)
        · rw [if_neg (by omega)] at h8
          refine m_iload_n rfl rfl rfl ?_
          refine m_iload_n rfl rfl rfl ?_
          refine m_icmp_le (tgt := 106) rfl rfl rfl (by omega) (by omega) (fun c75 => ?_) (fun c75 => ?_)
          · refine m_iload_n rfl rfl rfl ?_
            refine m_iret rfl rfl rfl (Nat.le_of_ble_eq_true rfl) (Nat.le_of_ble_eq_true rfl) ?_
            unfold rdNb
            rw [h8]
            first | (rw [if_pos (by dsimp only; omega)]; exact ⟨rfl, rfl⟩) | (rw [if_neg (by dsimp only; omega)]; exact ⟨rfl, rfl⟩)
          · refine m_aload_n rfl rfl rfl ?_
            refine m_gix (k := 3) (x := mem 2 _ 3) rfl rfl (Nat.le_of_ble_eq_true rfl) rfl rfl (by first | decide | assumption | (simp only [cnt]; omega)) (by first | rfl | ((repeat (first | rw [ms_s] | rw [ms_t (by decide)] | rw [ms_k (by decide)])) <;> rfl)) ?_
            refine m_iconst rfl rfl ?_
            refine m_icmp_ge (tgt := 106) rfl rfl rfl (by omega) (by omega) (fun c83 => ?_) (fun c83 => ?_)
            · refine m_iload_n rfl rfl rfl ?_
              refine m_iret rfl rfl rfl (Nat.le_of_ble_eq_true rfl) (Nat.le_of_ble_eq_true rfl) ?_
              unfold rdNb
              rw [h8]
              first | (rw [if_pos (by dsimp only; omega)]; exact ⟨rfl, rfl⟩) | (rw [if_neg (by dsimp only; omega)]; exact ⟨rfl, rfl⟩)
            · refine m_aload_n rfl rfl rfl ?_
              refine m_gr (k := 1) rfl rfl (Nat.le_of_ble_eq_true rfl) rfl rfl (by first | decide | assumption | (simp only [cnt]; omega)) ?_
              refine m_aload_n rfl rfl rfl ?_
              refine m_gix (k := 3) (x := mem 2 _ 3) rfl rfl (Nat.le_of_ble_eq_true rfl) rfl rfl (by first | decide | assumption | (simp only [cnt]; omega)) (by first | rfl | ((repeat (first | rw [ms_s] | rw [ms_t (by decide)] | rw [ms_k (by decide)])) <;> rfl)) ?_
              refine m_iload_n rfl rfl rfl ?_
              refine m_iasn (n := (mem 2 0 3).toNat) rfl rfl (Nat.le_of_ble_eq_true rfl) rfl (by first | decide | assumption | (simp only [cnt]; omega)) (by omega) (by simp only [aln]; omega) ?_
              refine m_aload_n rfl rfl rfl ?_
              refine m_dup rfl rfl rfl ?_
              refine m_gix (k := 3) (x := mem 2 _ 3) rfl rfl (Nat.le_of_ble_eq_true rfl) rfl rfl (by first | decide | assumption | (simp only [cnt]; omega)) (by first | rfl | ((repeat (first | rw [ms_s] | rw [ms_t (by decide)] | rw [ms_k (by decide)])) <;> rfl)) ?_
              refine m_iconst rfl rfl ?_
              refine m_iadd rfl rfl ?_
              refine m_pi (k := 3) rfl rfl (Nat.le_of_ble_eq_true rfl) rfl rfl rfl rfl (by first | decide | assumption | (simp only [cnt]; omega)) ?_
              refine m_iload_n rfl rfl rfl ?_
              refine m_iret rfl rfl rfl (Nat.le_of_ble_eq_true rfl) (Nat.le_of_ble_eq_true rfl) ?_
              unfold rdNb
              rw [h8]
              first | (rw [if_pos (by dsimp only; omega)]; exact ⟨rfl, rfl⟩) | (rw [if_neg (by dsimp only; omega)]; exact ⟨rfl, rfl⟩)
        · refine m_iload rfl rfl rfl ?_
          refine m_if_le (tgt := 49) rfl rfl rfl (by omega) (fun c39 => ?_) (fun c39 => ?_)
          · refine m_iload_n rfl rfl rfl ?_
            refine m_bipush rfl rfl (by decide) ?_
            refine m_imul rfl rfl ?_
            refine m_aload_n rfl rfl rfl ?_
            refine m_gr (k := 0) rfl rfl (Nat.le_of_ble_eq_true rfl) rfl rfl (by first | decide | assumption | (simp only [cnt]; omega)) ?_
            refine m_iload_n rfl rfl rfl ?_
            refine m_calx (n := e.toNat) (y := mem 23 _ (e.toNat)) rfl rfl (Nat.le_of_ble_eq_true rfl) rfl (by first | decide | assumption | (simp only [cnt]; omega)) (by omega) (by simp only [aln]; omega) (by first | rfl | ((repeat (first | rw [ms_s] | rw [ms_t (by decide)] | rw [ms_k (by decide)])) <;> rfl)) ?_
            refine m_bipush rfl rfl (by decide) ?_
            refine m_isub rfl rfl ?_
            refine m_iadd rfl rfl ?_
            refine m_istore_n rfl rfl (Nat.le_of_ble_eq_true rfl) rfl ?_
            refine m_iinc rfl rfl rfl (Nat.le_of_ble_eq_true rfl) rfl ?_
            refine m_iinc rfl rfl rfl (Nat.le_of_ble_eq_true rfl) rfl ?_
            refine m_goto (tgt := 7) rfl rfl rfl ?_
            rw [if_pos (by omega)] at h8
            exact ih _ _ _ (by omega) (by omega) (by omega) (by omega) (by omega) (by omega) (by omega) h8
          · refine m_iload_n rfl rfl rfl ?_
            refine m_if_ne (tgt := 49) rfl rfl rfl (by omega) (fun c43 => ?_) (fun c43 => ?_)
            · refine m_iload_n rfl rfl rfl ?_
              refine m_bipush rfl rfl (by decide) ?_
              refine m_imul rfl rfl ?_
              refine m_aload_n rfl rfl rfl ?_
              refine m_gr (k := 0) rfl rfl (Nat.le_of_ble_eq_true rfl) rfl rfl (by first | decide | assumption | (simp only [cnt]; omega)) ?_
              refine m_iload_n rfl rfl rfl ?_
              refine m_calx (n := e.toNat) (y := mem 23 _ (e.toNat)) rfl rfl (Nat.le_of_ble_eq_true rfl) rfl (by first | decide | assumption | (simp only [cnt]; omega)) (by omega) (by simp only [aln]; omega) (by first | rfl | ((repeat (first | rw [ms_s] | rw [ms_t (by decide)] | rw [ms_k (by decide)])) <;> rfl)) ?_
              refine m_bipush rfl rfl (by decide) ?_
              refine m_isub rfl rfl ?_
              refine m_iadd rfl rfl ?_
              refine m_istore_n rfl rfl (Nat.le_of_ble_eq_true rfl) rfl ?_
              refine m_iinc rfl rfl rfl (Nat.le_of_ble_eq_true rfl) rfl ?_
              refine m_iinc rfl rfl rfl (Nat.le_of_ble_eq_true rfl) rfl ?_
              refine m_goto (tgt := 7) rfl rfl rfl ?_
              rw [if_pos (by omega)] at h8
              exact ih _ _ _ (by omega) (by omega) (by omega) (by omega) (by omega) (by omega) (by omega) h8
            · refine m_goto (tgt := 73) rfl rfl rfl ?_
              rw [if_neg (by omega)] at h8
              refine m_iload_n rfl rfl rfl ?_
              refine m_iload_n rfl rfl rfl ?_
              refine m_icmp_le (tgt := 106) rfl rfl rfl (by omega) (by omega) (fun c75 => ?_) (fun c75 => ?_)
              · refine m_iload_n rfl rfl rfl ?_
                refine m_iret rfl rfl rfl (Nat.le_of_ble_eq_true rfl) (Nat.le_of_ble_eq_true rfl) ?_
                unfold rdNb
                rw [h8]
                first | (rw [if_pos (by dsimp only; omega)]; exact ⟨rfl, rfl⟩) | (rw [if_neg (by dsimp only; omega)]; exact ⟨rfl, rfl⟩)
              · refine m_aload_n rfl rfl rfl ?_
                refine m_gix (k := 3) (x := mem 2 _ 3) rfl rfl (Nat.le_of_ble_eq_true rfl) rfl rfl (by first | decide | assumption | (simp only [cnt]; omega)) (by first | rfl | ((repeat (first | rw [ms_s] | rw [ms_t (by decide)] | rw [ms_k (by decide)])) <;> rfl)) ?_
                refine m_iconst rfl rfl ?_
                refine m_icmp_ge (tgt := 106) rfl rfl rfl (by omega) (by omega) (fun c83 => ?_) (fun c83 => ?_)
                · refine m_iload_n rfl rfl rfl ?_
                  refine m_iret rfl rfl rfl (Nat.le_of_ble_eq_true rfl) (Nat.le_of_ble_eq_true rfl) ?_
                  unfold rdNb
                  rw [h8]
                  first | (rw [if_pos (by dsimp only; omega)]; exact ⟨rfl, rfl⟩) | (rw [if_neg (by dsimp only; omega)]; exact ⟨rfl, rfl⟩)
                · refine m_aload_n rfl rfl rfl ?_
                  refine m_gr (k := 1) rfl rfl (Nat.le_of_ble_eq_true rfl) rfl rfl (by first | decide | assumption | (simp only [cnt]; omega)) ?_
                  refine m_aload_n rfl rfl rfl ?_
                  refine m_gix (k := 3) (x := mem 2 _ 3) rfl rfl (Nat.le_of_ble_eq_true rfl) rfl rfl (by first | decide | assumption | (simp only [cnt]; omega)) (by first | rfl | ((repeat (first | rw [ms_s] | rw [ms_t (by decide)] | rw [ms_k (by decide)])) <;> rfl)) ?_
                  refine m_iload_n rfl rfl rfl ?_
                  refine m_iasn (n := (mem 2 0 3).toNat) rfl rfl (Nat.le_of_ble_eq_true rfl) rfl (by first | decide | assumption | (simp only [cnt]; omega)) (by omega) (by simp only [aln]; omega) ?_
                  refine m_aload_n rfl rfl rfl ?_
                  refine m_dup rfl rfl rfl ?_
                  refine m_gix (k := 3) (x := mem 2 _ 3) rfl rfl (Nat.le_of_ble_eq_true rfl) rfl rfl (by first | decide | assumption | (simp only [cnt]; omega)) (by first | rfl | ((repeat (first | rw [ms_s] | rw [ms_t (by decide)] | rw [ms_k (by decide)])) <;> rfl)) ?_
                  refine m_iconst rfl rfl ?_
                  refine m_iadd rfl rfl ?_
                  refine m_pi (k := 3) rfl rfl (Nat.le_of_ble_eq_true rfl) rfl rfl rfl rfl (by first | decide | assumption | (simp only [cnt]; omega)) ?_
                  refine m_iload_n rfl rfl rfl ?_
                  refine m_iret rfl rfl rfl (Nat.le_of_ble_eq_true rfl) (Nat.le_of_ble_eq_true rfl) ?_
                  unfold rdNb
                  rw [h8]
                  first | (rw [if_pos (by dsimp only; omega)]; exact ⟨rfl, rfl⟩) | (rw [if_neg (by dsimp only; omega)]; exact ⟨rfl, rfl⟩)

set_option maxRecDepth 10000 in
theorem c_rdNb {l : Launch} {G : zkG} {mem : zkM} (hl : l.stackTraces = false) {a : Int} (hR : rdA mem) (h3 : 0 ≤ mem 2 0 3 ∧ mem 2 0 3 ≤ 4) (ha : 0 ≤ a ∧ a ≤ 60) : zkCt l G i_Rd_afterNumber 1 0 0 [vr 2 0, vi a] mem (zkR1 (vi (rdNb mem a).1) (rdNb mem a).2) := by
  refine zkCt_of hl ok_Rd_afterNumber (by decide +kernel) rfl rfl (List.forall_mem_cons.mpr ⟨rfl, (List.forall_mem_cons.mpr ⟨rfl, fun _ h => nomatch h⟩)⟩) (Nat.le_of_ble_eq_true rfl) ?_
  refine m_iload_n rfl rfl rfl ?_
  refine m_istore_n rfl rfl (Nat.le_of_ble_eq_true rfl) rfl ?_
  refine m_iconst rfl rfl ?_
  refine m_istore_n rfl rfl (Nat.le_of_ble_eq_true rfl) rfl ?_
  refine m_iconst rfl rfl ?_
  refine m_istore rfl rfl (Nat.le_of_ble_eq_true rfl) rfl ?_
  exact w_rdNb hl hR h3 ha.1 3 a 0 0 (by omega) (by omega) (by omega) (by omega) (by omega) (by omega) (by omega) rfl

/-! the face: what may be thrown -/
abbrev xIO : String := "java/lang/IndexOutOfBoundsException"
abbrev xIA : String := "java/lang/IllegalArgumentException"
abbrev xIS : String := "java/lang/IllegalStateException"
abbrev xUO : String := "java/lang/UnsupportedOperationException"
abbrev xAE : String := "java/lang/ArithmeticException"
def caAc (x : Int) : zkO := if x = -1 then Sum.inr xIO else if x = -2 then Sum.inr xIA else if x = -3 then Sum.inr xIS else if x = -4 then Sum.inr xUO else Sum.inl (some (vi x))
theorem caAc_l {x : Int} {v : Option zkV} (h : caAc x = Sum.inl v) : v = some (vi x) := by
  unfold caAc at h
  split at h
  · cases h
  · split at h
    · cases h
    · split at h
      · cases h
      · split at h
        · cases h
        · exact (Sum.inl.inj h).symm
def caFd (x : Int) : zkO := if x = -1 then Sum.inr zkNE else Sum.inl (some (vi x))
theorem caFd_l {x : Int} {v : Option zkV} (h : caFd x = Sum.inl v) : v = some (vi x) := by
  unfold caFd at h
  split at h
  · cases h
  · exact (Sum.inl.inj h).symm
def caRs (x : Int) : zkO := if 0 ≤ x ∧ x ≤ 3 then Sum.inl (some (vi x)) else Sum.inr xIO
theorem caRs_l {x : Int} {v : Option zkV} (h : caRs x = Sum.inl v) : v = some (vi x) ∧ (0 ≤ x ∧ x ≤ 3) := by
  unfold caRs at h
  split at h
  · next g => exact ⟨(Sum.inl.inj h).symm, g⟩
  · cases h
theorem caRs_r {x : Int} {E : String} (h : caRs x = Sum.inr E) : E = xIO ∧ ¬ (0 ≤ x ∧ x ≤ 3) := by
  unfold caRs at h
  split at h
  · cases h
  · next g => exact ⟨(Sum.inr.inj h).symm, g⟩
def caT (m : zkM) (x : Int) : zkO := if 0 ≤ x ∧ x ≤ m 0 0 5 - 1 then Sum.inl (some (vr 5 x.toNat)) else Sum.inr xIO
theorem caT_l {m : zkM} {x : Int} {v : Option zkV} (h : caT m x = Sum.inl v) : v = some (vr 5 x.toNat) ∧ (0 ≤ x ∧ x ≤ m 0 0 5 - 1) := by
  unfold caT at h
  split at h
  · next g => exact ⟨(Sum.inl.inj h).symm, g⟩
  · cases h
theorem caT_r {m : zkM} {x : Int} {E : String} (h : caT m x = Sum.inr E) : E = xIO ∧ ¬ (0 ≤ x ∧ x ≤ m 0 0 5 - 1) := by
  unfold caT at h
  split at h
  · cases h
  · next g => exact ⟨(Sum.inr.inj h).symm, g⟩
def caTS (m : zkM) (x : Int) : zkO := if ¬ (0 ≤ x ∧ x ≤ m 0 0 5 - 1) then Sum.inr xIO else if m 5 x.toNat 8 = 0 then Sum.inr xIS else Sum.inl (some (vr 5 x.toNat))
theorem caTS_l {m : zkM} {x : Int} {v : Option zkV} (h : caTS m x = Sum.inl v) : v = some (vr 5 x.toNat) ∧ (0 ≤ x ∧ x ≤ m 0 0 5 - 1) ∧ m 5 x.toNat 8 ≠ 0 := by
  unfold caTS at h
  split at h
  · cases h
  · split at h
    · cases h
    · next g1 g2 => exact ⟨(Sum.inl.inj h).symm, Decidable.not_not.mp g1, g2⟩
def caSv (m : zkM) : zkO := if m 4 0 3 = 0 then Sum.inr xIS else Sum.inl (some (vr 4 0))
theorem caSv_l {m : zkM} {v : Option zkV} (h : caSv m = Sum.inl v) : v = some (vr 4 0) ∧ m 4 0 3 ≠ 0 := by
  unfold caSv at h
  split at h
  · cases h
  · next g => exact ⟨(Sum.inl.inj h).symm, g⟩
theorem caSv_r {m : zkM} {E : String} (h : caSv m = Sum.inr E) : E = xIS ∧ m 4 0 3 = 0 := by
  unfold caSv at h
  split at h
  · next g => exact ⟨(Sum.inr.inj h).symm, g⟩
  · cases h
set_option maxRecDepth 10000 in
theorem c_caAc {l : Launch} {G : zkG} {mem : zkM} (hl : l.stackTraces = false) {x : Int} (hx : inR x) : zkCt l G i_Cw_accepted 6 1 6 [vi x] mem (zkRf (caAc x) mem) := by
  refine zkCt_of hl ok_Cw_accepted (by decide +kernel) rfl rfl (List.forall_mem_cons.mpr ⟨rfl, fun _ h => nomatch h⟩) (Nat.le_of_ble_eq_true rfl) ?_
  refine m_iload_n rfl rfl rfl ?_
  rcases (show x = (-4) ∨ x = (-3) ∨ x = (-2) ∨ x = (-1) ∨ (x < -4 ∨ -1 < x) by omega) with c1 | c1 | c1 | c1 | c1
  · refine m_swIn (off := 61) (tgt := 62) (len := 31) rfl rfl (by omega) (by omega) (by omega) (by rw [c1]; rfl) rfl ?_
    refine m_throwW rfl rfl rfl rfl rfl rfl rfl rfl rfl rfl rfl rfl (List.mem_of_getElem? (i := 3) rfl) (List.mem_of_getElem? (i := 3) rfl) (Nat.le_of_ble_eq_true rfl) (Nat.le_of_ble_eq_true rfl) (Nat.le_of_ble_eq_true rfl) (Nat.le_of_ble_eq_true rfl) ?_
    unfold caAc
    first | (rw [if_pos (by omega)]; exact ⟨rfl, rfl⟩) | (rw [if_neg (by omega), if_pos (by omega)]; exact ⟨rfl, rfl⟩) | (rw [if_neg (by omega), if_neg (by omega), if_pos (by omega)]; exact ⟨rfl, rfl⟩) | (rw [if_neg (by omega), if_neg (by omega), if_neg (by omega), if_pos (by omega)]; exact ⟨rfl, rfl⟩) | (rw [if_neg (by omega), if_neg (by omega), if_neg (by omega), if_neg (by omega)]; exact ⟨rfl, rfl⟩)
  · refine m_swIn (off := 51) (tgt := 52) (len := 31) rfl rfl (by omega) (by omega) (by omega) (by rw [c1]; rfl) rfl ?_
    refine m_throw rfl rfl rfl rfl rfl rfl rfl rfl rfl rfl rfl rfl (List.mem_of_getElem? (i := 2) rfl) (List.mem_of_getElem? (i := 2) rfl) (Nat.le_of_ble_eq_true rfl) (Nat.le_of_ble_eq_true rfl) (Nat.le_of_ble_eq_true rfl) (Nat.le_of_ble_eq_true rfl) ?_
    unfold caAc
    first | (rw [if_pos (by omega)]; exact ⟨rfl, rfl⟩) | (rw [if_neg (by omega), if_pos (by omega)]; exact ⟨rfl, rfl⟩) | (rw [if_neg (by omega), if_neg (by omega), if_pos (by omega)]; exact ⟨rfl, rfl⟩) | (rw [if_neg (by omega), if_neg (by omega), if_neg (by omega), if_pos (by omega)]; exact ⟨rfl, rfl⟩) | (rw [if_neg (by omega), if_neg (by omega), if_neg (by omega), if_neg (by omega)]; exact ⟨rfl, rfl⟩)
  · refine m_swIn (off := 41) (tgt := 42) (len := 31) rfl rfl (by omega) (by omega) (by omega) (by rw [c1]; rfl) rfl ?_
    refine m_throw rfl rfl rfl rfl rfl rfl rfl rfl rfl rfl rfl rfl (List.mem_of_getElem? (i := 1) rfl) (List.mem_of_getElem? (i := 1) rfl) (Nat.le_of_ble_eq_true rfl) (Nat.le_of_ble_eq_true rfl) (Nat.le_of_ble_eq_true rfl) (Nat.le_of_ble_eq_true rfl) ?_
    unfold caAc
    first | (rw [if_pos (by omega)]; exact ⟨rfl, rfl⟩) | (rw [if_neg (by omega), if_pos (by omega)]; exact ⟨rfl, rfl⟩) | (rw [if_neg (by omega), if_neg (by omega), if_pos (by omega)]; exact ⟨rfl, rfl⟩) | (rw [if_neg (by omega), if_neg (by omega), if_neg (by omega), if_pos (by omega)]; exact ⟨rfl, rfl⟩) | (rw [if_neg (by omega), if_neg (by omega), if_neg (by omega), if_neg (by omega)]; exact ⟨rfl, rfl⟩)
  · refine m_swIn (off := 31) (tgt := 32) (len := 31) rfl rfl (by omega) (by omega) (by omega) (by rw [c1]; rfl) rfl ?_
    refine m_throw rfl rfl rfl rfl rfl rfl rfl rfl rfl rfl rfl rfl (List.mem_of_getElem? (i := 0) rfl) (List.mem_of_getElem? (i := 0) rfl) (Nat.le_of_ble_eq_true rfl) (Nat.le_of_ble_eq_true rfl) (Nat.le_of_ble_eq_true rfl) (Nat.le_of_ble_eq_true rfl) ?_
    unfold caAc
    first | (rw [if_pos (by omega)]; exact ⟨rfl, rfl⟩) | (rw [if_neg (by omega), if_pos (by omega)]; exact ⟨rfl, rfl⟩) | (rw [if_neg (by omega), if_neg (by omega), if_pos (by omega)]; exact ⟨rfl, rfl⟩) | (rw [if_neg (by omega), if_neg (by omega), if_neg (by omega), if_pos (by omega)]; exact ⟨rfl, rfl⟩) | (rw [if_neg (by omega), if_neg (by omega), if_neg (by omega), if_neg (by omega)]; exact ⟨rfl, rfl⟩)
  · refine m_swOut (tgt := 73) (len := 31) rfl rfl (by omega) (by omega) rfl ?_
    refine m_iload_n rfl rfl rfl ?_
    refine m_iret rfl rfl rfl (Nat.le_of_ble_eq_true rfl) (Nat.le_of_ble_eq_true rfl) ?_
    unfold caAc
    first | (rw [if_pos (by omega)]; exact ⟨rfl, rfl⟩) | (rw [if_neg (by omega), if_pos (by omega)]; exact ⟨rfl, rfl⟩) | (rw [if_neg (by omega), if_neg (by omega), if_pos (by omega)]; exact ⟨rfl, rfl⟩) | (rw [if_neg (by omega), if_neg (by omega), if_neg (by omega), if_pos (by omega)]; exact ⟨rfl, rfl⟩) | (rw [if_neg (by omega), if_neg (by omega), if_neg (by omega), if_neg (by omega)]; exact ⟨rfl, rfl⟩)

set_option maxRecDepth 10000 in
theorem c_caFd {l : Launch} {G : zkG} {mem : zkM} (hl : l.stackTraces = false) {x : Int} (hx : inR x) : zkCt l G i_Cw_found 6 1 6 [vi x] mem (zkRf (caFd x) mem) := by
  refine zkCt_of hl ok_Cw_found (by decide +kernel) rfl rfl (List.forall_mem_cons.mpr ⟨rfl, fun _ h => nomatch h⟩) (Nat.le_of_ble_eq_true rfl) ?_
  refine m_iload_n rfl rfl rfl ?_
  refine m_iconst rfl rfl ?_
  refine m_icmp_ne (tgt := 16) rfl rfl rfl (by omega) (by omega) (fun c2 => ?_) (fun c2 => ?_)
  · refine m_iload_n rfl rfl rfl ?_
    refine m_iret rfl rfl rfl (Nat.le_of_ble_eq_true rfl) (Nat.le_of_ble_eq_true rfl) ?_
    unfold caFd
    first | (rw [if_pos (by omega)]; exact ⟨rfl, rfl⟩) | (rw [if_neg (by omega)]; exact ⟨rfl, rfl⟩)
  · refine m_throwNW rfl rfl rfl rfl rfl rfl rfl rfl rfl rfl rfl rfl (List.mem_of_getElem? (i := 12) rfl) (Nat.le_of_ble_eq_true rfl) (Nat.le_of_ble_eq_true rfl) (Nat.le_of_ble_eq_true rfl) (Nat.le_of_ble_eq_true rfl) ?_
    unfold caFd
    first | (rw [if_pos (by omega)]; exact ⟨rfl, rfl⟩) | (rw [if_neg (by omega)]; exact ⟨rfl, rfl⟩)

set_option maxRecDepth 10000 in
theorem c_caRs {l : Launch} {G : zkG} {mem : zkM} (hl : l.stackTraces = false) {x : Int} (hx : inR x) : zkCt l G i_Cw_checkedResource 6 1 6 [vi x] mem (zkRf (caRs x) mem) := by
  refine zkCt_of hl ok_Cw_checkedResource (by decide +kernel) rfl rfl (List.forall_mem_cons.mpr ⟨rfl, fun _ h => nomatch h⟩) (Nat.le_of_ble_eq_true rfl) ?_
  refine m_iload_n rfl rfl rfl ?_
  refine m_iconst rfl rfl ?_
  refine m_iconst rfl rfl ?_
  refine m_cs1 rfl rfl lk_6_56 (c_isWithin hl (by omega) (by omega) (by omega)) rfl rfl (Nat.le_of_ble_eq_true rfl) (Nat.le_of_ble_eq_true rfl) (Nat.le_of_ble_eq_true rfl) (Nat.le_of_ble_eq_true rfl) (Nat.le_of_ble_eq_true rfl) ?_
  refine m_if_ne_d (tgt := 20) rfl rfl rfl (fun c6 => ?_) (fun c6 => ?_)
  · refine m_iload_n rfl rfl rfl ?_
    refine m_iret rfl rfl rfl (Nat.le_of_ble_eq_true rfl) (Nat.le_of_ble_eq_true rfl) ?_
    unfold caRs
    first | (rw [if_pos (by omega)]; exact ⟨rfl, rfl⟩) | (rw [if_neg (by omega)]; exact ⟨rfl, rfl⟩)
  · refine m_throwW rfl rfl rfl rfl rfl rfl rfl rfl rfl rfl rfl rfl (List.mem_of_getElem? (i := 0) rfl) (List.mem_of_getElem? (i := 10) rfl) (Nat.le_of_ble_eq_true rfl) (Nat.le_of_ble_eq_true rfl) (Nat.le_of_ble_eq_true rfl) (Nat.le_of_ble_eq_true rfl) ?_
    unfold caRs
    first | (rw [if_pos (by omega)]; exact ⟨rfl, rfl⟩) | (rw [if_neg (by omega)]; exact ⟨rfl, rfl⟩)

set_option maxRecDepth 10000 in
theorem c_caT {l : Launch} {G : zkG} {mem : zkM} (hl : l.stackTraces = false) {x : Int} (h5 : 0 ≤ mem 0 0 5 ∧ mem 0 0 5 ≤ 5) (hx : inR x) : zkCt l G i_Cw_taskAt 6 1 6 [vr 6 0, vi x] mem (zkRf (caT mem x) mem) := by
  refine zkCt_of hl ok_Cw_taskAt (by decide +kernel) rfl rfl (List.forall_mem_cons.mpr ⟨rfl, (List.forall_mem_cons.mpr ⟨rfl, fun _ h => nomatch h⟩)⟩) (Nat.le_of_ble_eq_true rfl) ?_
  refine m_aload_n rfl rfl rfl ?_
  refine m_gr (k := 0) rfl rfl (Nat.le_of_ble_eq_true rfl) rfl rfl (by first | decide | assumption | (simp only [cnt]; omega)) ?_
  refine m_iload_n rfl rfl rfl ?_
  refine m_cv1 rfl rfl lk_6_264 (c_beHas hl (by omega) (by omega)) rfl (by first | decide | assumption | (simp only [cnt]; omega)) (Nat.le_of_ble_eq_true rfl) rfl rfl (Nat.le_of_ble_eq_true rfl) (Nat.le_of_ble_eq_true rfl) (Nat.le_of_ble_eq_true rfl) (Nat.le_of_ble_eq_true rfl) (Nat.le_of_ble_eq_true rfl) ?_
  refine m_if_ne_d (tgt := 21) rfl rfl rfl (fun c8 => ?_) (fun c8 => ?_)
  · refine m_aload_n rfl rfl rfl ?_
    refine m_gr (k := 0) rfl rfl (Nat.le_of_ble_eq_true rfl) rfl rfl (by first | decide | assumption | (simp only [cnt]; omega)) ?_
    refine m_gr (k := 0) rfl rfl (Nat.le_of_ble_eq_true rfl) rfl rfl (by first | decide | assumption | (simp only [cnt]; omega)) ?_
    refine m_iload_n rfl rfl rfl ?_
    refine m_aaln (n := x.toNat) (q := x.toNat) rfl rfl (by decide) (by omega) (by omega) (by omega) ?_
    refine m_aret rfl rfl rfl (Nat.le_of_ble_eq_true rfl) (Nat.le_of_ble_eq_true rfl) ?_
    unfold caT
    first | (rw [if_pos (by omega)]; exact ⟨rfl, rfl⟩) | (rw [if_neg (by omega)]; exact ⟨rfl, rfl⟩)
  · refine m_throw rfl rfl rfl rfl rfl rfl rfl rfl rfl rfl rfl rfl (List.mem_of_getElem? (i := 0) rfl) (List.mem_of_getElem? (i := 0) rfl) (Nat.le_of_ble_eq_true rfl) (Nat.le_of_ble_eq_true rfl) (Nat.le_of_ble_eq_true rfl) (Nat.le_of_ble_eq_true rfl) ?_
    unfold caT
    first | (rw [if_pos (by omega)]; exact ⟨rfl, rfl⟩) | (rw [if_neg (by omega)]; exact ⟨rfl, rfl⟩)

set_option maxRecDepth 10000 in
theorem c_caTS {l : Launch} {G : zkG} {mem : zkM} (hl : l.stackTraces = false) {x : Int} (h5 : 0 ≤ mem 0 0 5 ∧ mem 0 0 5 ≤ 5) (hx : inR x) (h8 : ∀ i, i < 5 → inR (mem 5 i 8)) : zkCt l G i_Cw_taskWithSegments 7 2 12 [vr 6 0, vi x] mem (zkRf (caTS mem x) mem) := by
  refine zkCt_of hl ok_Cw_taskWithSegments (by decide +kernel) rfl rfl (List.forall_mem_cons.mpr ⟨rfl, (List.forall_mem_cons.mpr ⟨rfl, fun _ h => nomatch h⟩)⟩) (Nat.le_of_ble_eq_true rfl) ?_
  refine m_aload_n rfl rfl rfl ?_
  refine m_iload_n rfl rfl rfl ?_
  refine m_cvf rfl rfl lk_6_101 (c_caT hl (by omega) (by omega)) rfl (by first | decide | assumption | (simp only [cnt]; omega)) (Nat.le_of_ble_eq_true rfl) rfl rfl (Nat.le_of_ble_eq_true rfl) (Nat.le_of_ble_eq_true rfl) (Nat.le_of_ble_eq_true rfl) (Nat.le_of_ble_eq_true rfl) (Nat.le_of_ble_eq_true rfl) (fun v2 c2 => ?_) (fun E2 c2 => ?_)
  · obtain ⟨rfl, g2⟩ := caT_l c2
    have a8 := h8 x.toNat (by omega)
    refine m_astore_n rfl rfl (Nat.le_of_ble_eq_true rfl) rfl ?_
    refine m_aload_n rfl rfl rfl ?_
    refine m_gix (k := 8) (x := mem 5 x.toNat 8) rfl rfl (Nat.le_of_ble_eq_true rfl) rfl rfl (by first | decide | assumption | (simp only [cnt]; omega)) (by first | rfl | ((repeat (first | rw [ms_s] | rw [ms_t (by decide)] | rw [ms_k (by decide)])) <;> rfl)) ?_
    refine m_if_ne (tgt := 24) rfl rfl rfl (by omega) (fun c10 => ?_) (fun c10 => ?_)
    · refine m_aload_n rfl rfl rfl ?_
      refine m_aret rfl rfl rfl (Nat.le_of_ble_eq_true rfl) (Nat.le_of_ble_eq_true rfl) ?_
      unfold caTS
      first | (rw [if_pos (by omega)]; exact ⟨rfl, rfl⟩) | (rw [if_neg (by omega), if_pos (by omega)]; exact ⟨rfl, rfl⟩) | (rw [if_neg (by omega), if_neg (by omega)]; exact ⟨rfl, rfl⟩)
    · refine m_throwW rfl rfl rfl rfl rfl rfl rfl rfl rfl rfl rfl rfl (List.mem_of_getElem? (i := 2) rfl) (List.mem_of_getElem? (i := 11) rfl) (Nat.le_of_ble_eq_true rfl) (Nat.le_of_ble_eq_true rfl) (Nat.le_of_ble_eq_true rfl) (Nat.le_of_ble_eq_true rfl) ?_
      unfold caTS
      first | (rw [if_pos (by omega)]; exact ⟨rfl, rfl⟩) | (rw [if_neg (by omega), if_pos (by omega)]; exact ⟨rfl, rfl⟩) | (rw [if_neg (by omega), if_neg (by omega)]; exact ⟨rfl, rfl⟩)
  · obtain ⟨rfl, g2⟩ := caT_r c2
    exact x_out rfl (Nat.le_of_ble_eq_true rfl) (Nat.le_of_ble_eq_true rfl) ⟨(by unfold caTS; rw [if_pos (by omega)]), rfl⟩

set_option maxRecDepth 10000 in
theorem c_caSv {l : Launch} {G : zkG} {mem : zkM} (hl : l.stackTraces = false) (h3 : inR (mem 4 0 3)) : zkCt l G i_Cw_presentServer 6 1 6 [vr 6 0] mem (zkRf (caSv mem) mem) := by
  refine zkCt_of hl ok_Cw_presentServer (by decide +kernel) rfl rfl (List.forall_mem_cons.mpr ⟨rfl, fun _ h => nomatch h⟩) (Nat.le_of_ble_eq_true rfl) ?_
  refine m_aload_n rfl rfl rfl ?_
  refine m_gr (k := 0) rfl rfl (Nat.le_of_ble_eq_true rfl) rfl rfl (by first | decide | assumption | (simp only [cnt]; omega)) ?_
  refine m_gr (k := 1) rfl rfl (Nat.le_of_ble_eq_true rfl) rfl rfl (by first | decide | assumption | (simp only [cnt]; omega)) ?_
  refine m_gix (k := 3) (x := mem 4 _ 3) rfl rfl (Nat.le_of_ble_eq_true rfl) rfl rfl (by first | decide | assumption | (simp only [cnt]; omega)) (by first | rfl | ((repeat (first | rw [ms_s] | rw [ms_t (by decide)] | rw [ms_k (by decide)])) <;> rfl)) ?_
  refine m_if_ne (tgt := 24) rfl rfl rfl (by omega) (fun c10 => ?_) (fun c10 => ?_)
  · refine m_aload_n rfl rfl rfl ?_
    refine m_gr (k := 0) rfl rfl (Nat.le_of_ble_eq_true rfl) rfl rfl (by first | decide | assumption | (simp only [cnt]; omega)) ?_
    refine m_gr (k := 1) rfl rfl (Nat.le_of_ble_eq_true rfl) rfl rfl (by first | decide | assumption | (simp only [cnt]; omega)) ?_
    refine m_aret rfl rfl rfl (Nat.le_of_ble_eq_true rfl) (Nat.le_of_ble_eq_true rfl) ?_
    unfold caSv
    first | (rw [if_pos (by omega)]; exact ⟨rfl, rfl⟩) | (rw [if_neg (by omega)]; exact ⟨rfl, rfl⟩)
  · refine m_throwW rfl rfl rfl rfl rfl rfl rfl rfl rfl rfl rfl rfl (List.mem_of_getElem? (i := 2) rfl) (List.mem_of_getElem? (i := 19) rfl) (Nat.le_of_ble_eq_true rfl) (Nat.le_of_ble_eq_true rfl) (Nat.le_of_ble_eq_true rfl) (Nat.le_of_ble_eq_true rfl) ?_
    unfold caSv
    first | (rw [if_pos (by omega)]; exact ⟨rfl, rfl⟩) | (rw [if_neg (by omega)]; exact ⟨rfl, rfl⟩)

