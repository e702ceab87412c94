/-! the class: loads -/
def anSh (a b : Int) : UInt64 := if b < 1 then FP.dconst0 else dDiv a b
set_option maxRecDepth 10000 in
theorem c_anSh {l : Launch} {G : zkG} {mem : zkM} (hl : l.stackTraces = false) {a b : Int} (hb : inR b) (hN : ¬ b < 1 → vf_n64 (dDiv a b)) : zkCt l G i_An_share 0 0 0 [vi a, vi b] mem (zkR1 (vd (anSh a b)) mem) := by
  refine zkCt_of hl ok_An_share (by decide +kernel) rfl rfl (List.forall_mem_cons.mpr ⟨rfl, (List.forall_mem_cons.mpr ⟨rfl, fun _ h => nomatch h⟩)⟩) (Nat.le_of_ble_eq_true rfl) ?_
  refine m_iload_n rfl rfl rfl ?_
  refine m_iconst rfl rfl ?_
  refine m_icmp_ge (tgt := 9) rfl rfl rfl (by omega) (by omega) (fun c2 => ?_) (fun c2 => ?_)
  · refine m_iload_n rfl rfl rfl ?_
    refine m_i2d rfl rfl ?_
    refine m_iload_n rfl rfl rfl ?_
    refine m_i2d rfl rfl ?_
    refine m_ddiv rfl rfl (hN (by omega)) ?_
    refine m_dret rfl rfl rfl (Nat.le_of_ble_eq_true rfl) (Nat.le_of_ble_eq_true rfl) ?_
    unfold anSh
    first | (rw [if_pos (by omega)]; exact ⟨rfl, rfl⟩) | (rw [if_neg (by omega)]; exact ⟨rfl, rfl⟩)
  · refine m_dconst0 rfl rfl ?_
    refine m_goto (tgt := 14) rfl rfl rfl ?_
    refine m_dret rfl rfl rfl (Nat.le_of_ble_eq_true rfl) (Nat.le_of_ble_eq_true rfl) ?_
    unfold anSh
    first | (rw [if_pos (by omega)]; exact ⟨rfl, rfl⟩) | (rw [if_neg (by omega)]; exact ⟨rfl, rfl⟩)

def anLf (m : zkM) (k : Nat) (s : UInt64) : UInt64 := FP.dadd s (anSh (m 5 k 9) (m 5 k 5))
def anL0 (m : zkM) : UInt64 := lp (anLf m) (m 0 0 5).toNat FP.dconst0
def anLd (m : zkM) : UInt64 := if m 4 0 3 = 1 then FP.dadd (anL0 m) (anSh (m 4 0 5) (m 4 0 6)) else anL0 m
def anLok (m : zkM) : Prop := (∀ j, j < (m 0 0 5).toNat → (¬ m 5 j 5 < 1 → vf_n64 (dDiv (m 5 j 9) (m 5 j 5))) ∧ vf_n64 (anLf m j (lp (anLf m) j FP.dconst0))) ∧ (m 4 0 3 = 1 → (¬ m 4 0 6 < 1 → vf_n64 (dDiv (m 4 0 5) (m 4 0 6))) ∧ vf_n64 (FP.dadd (anL0 m) (anSh (m 4 0 5) (m 4 0 6))))
def anHf (m : zkM) (k : Nat) (s : UInt64) : UInt64 := FP.dmul s (FP.dadd (anSh (m 5 k 9) (m 5 k 5)) FP.dconst1)
def anH0 (m : zkM) : UInt64 := lp (anHf m) (m 0 0 5).toNat FP.dconst1
def anHy (m : zkM) : UInt64 := if m 4 0 3 = 1 then FP.dmul (anH0 m) (FP.dadd (anSh (m 4 0 5) (m 4 0 6)) FP.dconst1) else anH0 m
def anHok (m : zkM) : Prop := (∀ j, j < (m 0 0 5).toNat → (¬ m 5 j 5 < 1 → vf_n64 (dDiv (m 5 j 9) (m 5 j 5))) ∧ vf_n64 (FP.dadd (anSh (m 5 j 9) (m 5 j 5)) FP.dconst1) ∧ vf_n64 (anHf m j (lp (anHf m) j FP.dconst1))) ∧ (m 4 0 3 = 1 → (¬ m 4 0 6 < 1 → vf_n64 (dDiv (m 4 0 5) (m 4 0 6))) ∧ vf_n64 (FP.dadd (anSh (m 4 0 5) (m 4 0 6)) FP.dconst1) ∧ vf_n64 (FP.dmul (anH0 m) (FP.dadd (anSh (m 4 0 5) (m 4 0 6)) FP.dconst1)))
set_option maxRecDepth 10000 in
theorem c_anLd {l : Launch} {G : zkG} {mem : zkM} (hl : l.stackTraces = false) (hA : anA mem) (hN : anLok mem) : zkCt l G i_An_loadOf 1 0 0 [vr 0 0] mem (zkR1 (vd (anLd mem)) mem) := by
  refine zkCt_of hl ok_An_loadOf (by decide +kernel) rfl rfl (List.forall_mem_cons.mpr ⟨rfl, fun _ h => nomatch h⟩) (Nat.le_of_ble_eq_true rfl) ?_
  obtain ⟨g1, g2, g3, g4, g5, g6, g7⟩ := id hA
  refine m_dconst0 rfl rfl ?_
  refine m_dstore_n rfl rfl (Nat.le_of_ble_eq_true rfl) rfl ?_
  refine m_iconst rfl rfl ?_
  refine m_istore_n rfl rfl (Nat.le_of_ble_eq_true rfl) rfl ?_
  refine zk_loop (P := fun (j : Nat) (s : UInt64) => zkW l G i_An_loadOf _ 0 0 4 [some (vr 0 0), some (vd s), none, some (vi j)] [] mem) (I := fun j s => s = lp (anLf mem) j FP.dconst0) (anLf mem) (mem 0 0 5).toNat FP.dconst0 rfl (fun j s hj hs => by rw [hs]; rfl) (fun j s hj hq hk => ?_) (fun _ => ?_)
  · have k1 := (g2 j (by omega)).1
    refine m_iload_n rfl rfl rfl ?_
    refine m_aload_n rfl rfl rfl ?_
    refine m_gix (k := 5) (x := mem 0 _ 5) rfl rfl (Nat.le_of_ble_eq_true rfl) rfl rfl (by first | decide | assumption | (simp only [cnt]; omega)) (by first | rfl | ((repeat (first | rw [ms_s] | rw [ms_t (by decide)] | rw [ms_k (by decide)])) <;> rfl)) ?_
    refine m_icmp_ge (tgt := 42) rfl rfl rfl (by omega) (by omega) (fun c9 => ?_) (fun c9 => ?_)
    · exfalso; omega
    · refine m_dload_n rfl rfl rfl ?_
      refine m_aload_n rfl rfl rfl ?_
      refine m_gr (k := 0) rfl rfl (Nat.le_of_ble_eq_true rfl) rfl rfl (by first | decide | assumption | (simp only [cnt]; omega)) ?_
      refine m_iload_n rfl rfl rfl ?_
      refine m_aaln (n := j) (q := j) rfl rfl (by decide) (by omega) (by omega) (by omega) ?_
      refine m_gix (k := 9) (x := mem 5 j 9) rfl rfl (Nat.le_of_ble_eq_true rfl) rfl rfl (by first | decide | assumption | (simp only [cnt]; omega)) (by first | rfl | ((repeat (first | rw [ms_s] | rw [ms_t (by decide)] | rw [ms_k (by decide)])) <;> rfl)) ?_
      refine m_aload_n rfl rfl rfl ?_
      refine m_gr (k := 0) rfl rfl (Nat.le_of_ble_eq_true rfl) rfl rfl (by first | decide | assumption | (simp only [cnt]; omega)) ?_
      refine m_iload_n rfl rfl rfl ?_
      refine m_aaln (n := j) (q := j) rfl rfl (by decide) (by omega) (by omega) (by omega) ?_
      refine m_gix (k := 5) (x := mem 5 j 5) rfl rfl (Nat.le_of_ble_eq_true rfl) rfl rfl (by first | decide | assumption | (simp only [cnt]; omega)) (by first | rfl | ((repeat (first | rw [ms_s] | rw [ms_t (by decide)] | rw [ms_k (by decide)])) <;> rfl)) ?_
      refine m_cs1 rfl rfl lk_8_101 (c_anSh hl (by omega) (hN.1 j hj).1) rfl rfl (Nat.le_of_ble_eq_true rfl) (Nat.le_of_ble_eq_true rfl) (Nat.le_of_ble_eq_true rfl) (Nat.le_of_ble_eq_true rfl) (Nat.le_of_ble_eq_true rfl) ?_
      refine m_dadd rfl rfl (by rw [hq]; exact (hN.1 j hj).2) ?_
      refine m_dstore_n rfl rfl (Nat.le_of_ble_eq_true rfl) rfl ?_
      refine m_iinc rfl rfl rfl (Nat.le_of_ble_eq_true rfl) rfl ?_
      refine m_goto (tgt := 4) rfl rfl rfl ?_
      exact hk
  · refine m_iload_n rfl rfl rfl ?_
    refine m_aload_n rfl rfl rfl ?_
    refine m_gix (k := 5) (x := mem 0 _ 5) rfl rfl (Nat.le_of_ble_eq_true rfl) rfl rfl (by first | decide | assumption | (simp only [cnt]; omega)) (by first | rfl | ((repeat (first | rw [ms_s] | rw [ms_t (by decide)] | rw [ms_k (by decide)])) <;> rfl)) ?_
    refine m_icmp_ge (tgt := 42) rfl rfl rfl (by omega) (by omega) (fun c9 => ?_) (fun c9 => ?_)
    · refine m_aload_n rfl rfl rfl ?_
      refine m_gr (k := 1) rfl rfl (Nat.le_of_ble_eq_true rfl) rfl rfl (by first | decide | assumption | (simp only [cnt]; omega)) ?_
      refine m_gix (k := 3) (x := mem 4 _ 3) rfl rfl (Nat.le_of_ble_eq_true rfl) rfl rfl (by first | decide | assumption | (simp only [cnt]; omega)) (by first | rfl | ((repeat (first | rw [ms_s] | rw [ms_t (by decide)] | rw [ms_k (by decide)])) <;> rfl)) ?_
      refine m_if_eq (tgt := 72) rfl rfl rfl (by omega) (fun c49 => ?_) (fun c49 => ?_)
      · refine m_dload_n rfl rfl rfl ?_
        refine m_dret rfl rfl rfl (Nat.le_of_ble_eq_true rfl) (Nat.le_of_ble_eq_true rfl) ?_
        unfold anLd
        first | (rw [if_pos (by omega)]; exact ⟨rfl, rfl⟩) | (rw [if_neg (by omega)]; exact ⟨rfl, rfl⟩)
      · refine m_dload_n rfl rfl rfl ?_
        refine m_aload_n rfl rfl rfl ?_
        refine m_gr (k := 1) rfl rfl (Nat.le_of_ble_eq_true rfl) rfl rfl (by first | decide | assumption | (simp only [cnt]; omega)) ?_
        refine m_gix (k := 5) (x := mem 4 _ 5) rfl rfl (Nat.le_of_ble_eq_true rfl) rfl rfl (by first | decide | assumption | (simp only [cnt]; omega)) (by first | rfl | ((repeat (first | rw [ms_s] | rw [ms_t (by decide)] | rw [ms_k (by decide)])) <;> rfl)) ?_
        refine m_aload_n rfl rfl rfl ?_
        refine m_gr (k := 1) rfl rfl (Nat.le_of_ble_eq_true rfl) rfl rfl (by first | decide | assumption | (simp only [cnt]; omega)) ?_
        refine m_gix (k := 6) (x := mem 4 _ 6) rfl rfl (Nat.le_of_ble_eq_true rfl) rfl rfl (by first | decide | assumption | (simp only [cnt]; omega)) (by first | rfl | ((repeat (first | rw [ms_s] | rw [ms_t (by decide)] | rw [ms_k (by decide)])) <;> rfl)) ?_
        refine m_cs1 rfl rfl lk_8_101 (c_anSh hl (by omega) (hN.2 (by omega)).1) rfl rfl (Nat.le_of_ble_eq_true rfl) (Nat.le_of_ble_eq_true rfl) (Nat.le_of_ble_eq_true rfl) (Nat.le_of_ble_eq_true rfl) (Nat.le_of_ble_eq_true rfl) ?_
        refine m_dadd rfl rfl (hN.2 (by omega)).2 ?_
        refine m_dstore_n rfl rfl (Nat.le_of_ble_eq_true rfl) rfl ?_
        refine m_dload_n rfl rfl rfl ?_
        refine m_dret rfl rfl rfl (Nat.le_of_ble_eq_true rfl) (Nat.le_of_ble_eq_true rfl) ?_
        unfold anLd
        first | (rw [if_pos (by omega)]; exact ⟨rfl, rfl⟩) | (rw [if_neg (by omega)]; exact ⟨rfl, rfl⟩)
    · exfalso; omega

set_option maxRecDepth 10000 in
theorem c_anHy {l : Launch} {G : zkG} {mem : zkM} (hl : l.stackTraces = false) (hA : anA mem) (hN : anHok mem) : zkCt l G i_An_hyperbolicLoadOf 1 0 0 [vr 0 0] mem (zkR1 (vd (anHy mem)) mem) := by
  refine zkCt_of hl ok_An_hyperbolicLoadOf (by decide +kernel) rfl rfl (List.forall_mem_cons.mpr ⟨rfl, fun _ h => nomatch h⟩) (Nat.le_of_ble_eq_true rfl) ?_
  obtain ⟨g1, g2, g3, g4, g5, g6, g7⟩ := id hA
  refine m_dconst1 rfl rfl ?_
  refine m_dstore_n rfl rfl (Nat.le_of_ble_eq_true rfl) rfl ?_
  refine m_iconst rfl rfl ?_
  refine m_istore_n rfl rfl (Nat.le_of_ble_eq_true rfl) rfl ?_
  refine zk_loop (P := fun (j : Nat) (s : UInt64) => zkW l G i_An_hyperbolicLoadOf _ 0 0 4 [some (vr 0 0), some (vd s), none, some (vi j)] [] mem) (I := fun j s => s = lp (anHf mem) j FP.dconst1) (anHf mem) (mem 0 0 5).toNat FP.dconst1 rfl (fun j s hj hs => by rw [hs]; rfl) (fun j s hj hq hk => ?_) (fun _ => ?_)
  · have k1 := (g2 j (by omega)).1
    refine m_iload_n rfl rfl rfl ?_
    refine m_aload_n rfl rfl rfl ?_
    refine m_gix (k := 5) (x := mem 0 _ 5) rfl rfl (Nat.le_of_ble_eq_true rfl) rfl rfl (by first | decide | assumption | (simp only [cnt]; omega)) (by first | rfl | ((repeat (first | rw [ms_s] | rw [ms_t (by decide)] | rw [ms_k (by decide)])) <;> rfl)) ?_
    refine m_icmp_ge (tgt := 44) rfl rfl rfl (by omega) (by omega) (fun c9 => ?_) (fun c9 => ?_)
    · exfalso; omega
    · refine m_dload_n rfl rfl rfl ?_
      refine m_aload_n rfl rfl rfl ?_
      refine m_gr (k := 0) rfl rfl (Nat.le_of_ble_eq_true rfl) rfl rfl (by first | decide | assumption | (simp only [cnt]; omega)) ?_
      refine m_iload_n rfl rfl rfl ?_
      refine m_aaln (n := j) (q := j) rfl rfl (by decide) (by omega) (by omega) (by omega) ?_
      refine m_gix (k := 9) (x := mem 5 j 9) rfl rfl (Nat.le_of_ble_eq_true rfl) rfl rfl (by first | decide | assumption | (simp only [cnt]; omega)) (by first | rfl | ((repeat (first | rw [ms_s] | rw [ms_t (by decide)] | rw [ms_k (by decide)])) <;> rfl)) ?_
      refine m_aload_n rfl rfl rfl ?_
      refine m_gr (k := 0) rfl rfl (Nat.le_of_ble_eq_true rfl) rfl rfl (by first | decide | assumption | (simp only [cnt]; omega)) ?_
      refine m_iload_n rfl rfl rfl ?_
      refine m_aaln (n := j) (q := j) rfl rfl (by decide) (by omega) (by omega) (by omega) ?_
      refine m_gix (k := 5) (x := mem 5 j 5) rfl rfl (Nat.le_of_ble_eq_true rfl) rfl rfl (by first | decide | assumption | (simp only [cnt]; omega)) (by first | rfl | ((repeat (first | rw [ms_s] | rw [ms_t (by decide)] | rw [ms_k (by decide)])) <;> rfl)) ?_
      refine m_cs1 rfl rfl lk_8_101 (c_anSh hl (by omega) (hN.1 j hj).1) rfl rfl (Nat.le_of_ble_eq_true rfl) (Nat.le_of_ble_eq_true rfl) (Nat.le_of_ble_eq_true rfl) (Nat.le_of_ble_eq_true rfl) (Nat.le_of_ble_eq_true rfl) ?_
      refine m_dconst1 rfl rfl ?_
      refine m_dadd rfl rfl (hN.1 j hj).2.1 ?_
      refine m_dmul rfl rfl (by rw [hq]; exact (hN.1 j hj).2.2) ?_
      refine m_dstore_n rfl rfl (Nat.le_of_ble_eq_true rfl) rfl ?_
      refine m_iinc rfl rfl rfl (Nat.le_of_ble_eq_true rfl) rfl ?_
      refine m_goto (tgt := 4) rfl rfl rfl ?_
      exact hk
  · refine m_iload_n rfl rfl rfl ?_
    refine m_aload_n rfl rfl rfl ?_
    refine m_gix (k := 5) (x := mem 0 _ 5) rfl rfl (Nat.le_of_ble_eq_true rfl) rfl rfl (by first | decide | assumption | (simp only [cnt]; omega)) (by first | rfl | ((repeat (first | rw [ms_s] | rw [ms_t (by decide)] | rw [ms_k (by decide)])) <;> rfl)) ?_
    refine m_icmp_ge (tgt := 44) rfl rfl rfl (by omega) (by omega) (fun c9 => ?_) (fun c9 => ?_)
    · refine m_aload_n rfl rfl rfl ?_
      refine m_gr (k := 1) rfl rfl (Nat.le_of_ble_eq_true rfl) rfl rfl (by first | decide | assumption | (simp only [cnt]; omega)) ?_
      refine m_gix (k := 3) (x := mem 4 _ 3) rfl rfl (Nat.le_of_ble_eq_true rfl) rfl rfl (by first | decide | assumption | (simp only [cnt]; omega)) (by first | rfl | ((repeat (first | rw [ms_s] | rw [ms_t (by decide)] | rw [ms_k (by decide)])) <;> rfl)) ?_
      refine m_if_eq (tgt := 76) rfl rfl rfl (by omega) (fun c51 => ?_) (fun c51 => ?_)
      · refine m_dload_n rfl rfl rfl ?_
        refine m_dret rfl rfl rfl (Nat.le_of_ble_eq_true rfl) (Nat.le_of_ble_eq_true rfl) ?_
        unfold anHy
        first | (rw [if_pos (by omega)]; exact ⟨rfl, rfl⟩) | (rw [if_neg (by omega)]; exact ⟨rfl, rfl⟩)
      · refine m_dload_n rfl rfl rfl ?_
        refine m_aload_n rfl rfl rfl ?_
        refine m_gr (k := 1) rfl rfl (Nat.le_of_ble_eq_true rfl) rfl rfl (by first | decide | assumption | (simp only [cnt]; omega)) ?_
        refine m_gix (k := 5) (x := mem 4 _ 5) rfl rfl (Nat.le_of_ble_eq_true rfl) rfl rfl (by first | decide | assumption | (simp only [cnt]; omega)) (by first | rfl | ((repeat (first | rw [ms_s] | rw [ms_t (by decide)] | rw [ms_k (by decide)])) <;> rfl)) ?_
        refine m_aload_n rfl rfl rfl ?_
        refine m_gr (k := 1) rfl rfl (Nat.le_of_ble_eq_true rfl) rfl rfl (by first | decide | assumption | (simp only [cnt]; omega)) ?_
        refine m_gix (k := 6) (x := mem 4 _ 6) rfl rfl (Nat.le_of_ble_eq_true rfl) rfl rfl (by first | decide | assumption | (simp only [cnt]; omega)) (by first | rfl | ((repeat (first | rw [ms_s] | rw [ms_t (by decide)] | rw [ms_k (by decide)])) <;> rfl)) ?_
        refine m_cs1 rfl rfl lk_8_101 (c_anSh hl (by omega) (hN.2 (by omega)).1) rfl rfl (Nat.le_of_ble_eq_true rfl) (Nat.le_of_ble_eq_true rfl) (Nat.le_of_ble_eq_true rfl) (Nat.le_of_ble_eq_true rfl) (Nat.le_of_ble_eq_true rfl) ?_
        refine m_dconst1 rfl rfl ?_
        refine m_dadd rfl rfl (hN.2 (by omega)).2.1 ?_
        refine m_dmul rfl rfl (hN.2 (by omega)).2.2 ?_
        refine m_dstore_n rfl rfl (Nat.le_of_ble_eq_true rfl) rfl ?_
        refine m_dload_n rfl rfl rfl ?_
        refine m_dret rfl rfl rfl (Nat.le_of_ble_eq_true rfl) (Nat.le_of_ble_eq_true rfl) ?_
        unfold anHy
        first | (rw [if_pos (by omega)]; exact ⟨rfl, rfl⟩) | (rw [if_neg (by omega)]; exact ⟨rfl, rfl⟩)
    · exfalso; omega

