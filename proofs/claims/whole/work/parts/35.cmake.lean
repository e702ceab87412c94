/-! the class: a unit is made -/
theorem seRp_f {t' i' : Nat} (h : t' ≠ 4 ∧ t' ≠ 11 ∧ t' ≠ 12) (m : zkM) (t : Int) (k' : Nat) : seRp m t t' i' k' = m t' i' k' := by
  unfold seRp
  rw [ms_f (by omega)]
  refine lp_inv (fun (_ : Nat) (s : zkM × Int) => s.1 t' i' k' = m t' i' k') _ _ _ rfl (fun j s _ hI => ?_)
  unfold seRf
  split
  · dsimp only; rw [ms_f (by omega)]; exact hI
  · dsimp only; rw [ms_f (by omega), ms_f (by omega)]; exact hI
theorem seRu_f {t' i' : Nat} (h : t' ≠ 4) (m : zkM) (t : Int) (k' : Nat) : seRu m t t' i' k' = m t' i' k' := by
  unfold seRu
  split
  · rw [ms_t h, ms_t h, ms_t h, ms_t h, ms_t h]
  · rw [ms_t h, ms_t h]
theorem rqSv_f {t' i' : Nat} (h : t' ≠ 15 ∧ t' ≠ 16) (m : zkM) (r e : Int) (k' : Nat) : rqSv m r e t' i' k' = m t' i' k' := by
  unfold rqSv
  split
  · rfl
  · split
    · rw [ms_t h.2, ms_t h.1]
    · rw [ms_t h.1]
theorem seEn_f {t' i' : Nat} (h : t' ≠ 4 ∧ t' ≠ 11 ∧ t' ≠ 12) (m : zkM) (e w : Int) (k' : Nat) : seEn m e w t' i' k' = m t' i' k' := by
  unfold seEn
  split
  · rfl
  · split
    · rw [ms_f (by omega), ms_f (by omega), ms_f (by omega), ms_f (by omega)]
    · rw [ms_f (by omega)]
theorem beNp_f {t' i' : Nat} (h : t' ≠ 22) (m : zkM) (c : Int) (k' : Nat) : beNp m c t' i' k' = m t' i' k' := by
  unfold beNp
  split
  · rw [ms_t h]
  · rfl
def beR (t : Int) (i : Nat) (s : zkM) : zkM := taRl s i t
def beM (t po : Int) (i : Nat) (s : zkM) : zkM := taMs s i t po
def beU1 (m : zkM) : zkM := seRp m (m 0 0 7)
def beU2 (m : zkM) : zkM := lp (beR (m 0 0 7)) (m 0 0 5).toNat (beU1 m)
def beU3 (m : zkM) : zkM := lp (beM (m 0 0 7) (m 0 0 6)) (m 0 0 5).toNat (beU2 m)
theorem beR_f {t' i' : Nat} (h : t' ≠ 1 ∧ t' ≠ 5 ∧ t' ≠ 19 ∧ t' ≠ 20 ∧ t' ≠ 21 ∧ t' ≠ 22) (t : Int) (n : Nat) (m : zkM) (k' : Nat) : lp (beR t) n m t' i' k' = m t' i' k' := by
  refine lp_inv (fun (_ : Nat) (s : zkM) => s t' i' k' = m t' i' k') _ _ _ rfl (fun j s _ hI => ?_)
  unfold beR
  rw [taRl_f (Or.inl h)]
  exact hI
theorem beM_f {t' i' : Nat} (h : t' ≠ 1 ∧ t' ≠ 5 ∧ t' ≠ 19 ∧ t' ≠ 20 ∧ t' ≠ 21 ∧ t' ≠ 22) (t po : Int) (n : Nat) (m : zkM) (k' : Nat) : lp (beM t po) n m t' i' k' = m t' i' k' := by
  refine lp_inv (fun (_ : Nat) (s : zkM) => s t' i' k' = m t' i' k') _ _ _ rfl (fun j s _ hI => ?_)
  unfold beM
  rw [taMs_f (Or.inl h)]
  exact hI
theorem beU1_0 (m : zkM) (i k : Nat) : beU1 m 0 i k = m 0 i k := seRp_f (by decide) _ _ _
theorem beU2_0 (m : zkM) (i k : Nat) : beU2 m 0 i k = m 0 i k := by unfold beU2; rw [beR_f (by decide), beU1_0]
theorem beU3_0 (m : zkM) (i k : Nat) : beU3 m 0 i k = m 0 i k := by unfold beU3; rw [beM_f (by decide), beU2_0]
def beW (m : zkM) (t : Int) : Int := if rqNx m t = -1 then 0 else 1
def beRy (m : zkM) (t : Int) : Int := b2i (decide (m 4 0 3 = 1 ∧ beW m t = 1 ∧ 0 < m 4 0 7))
def beCh (m : zkM) : Int := beMu (beU3 m) (beRy (beU3 m) (m 0 0 7))
def beU4 (m : zkM) : zkM := mset (mset (beNp (beU3 m) (beCh m)) 18 0 (m 0 0 7).toNat (beCh m)) 0 0 7 (m 0 0 7 + 1)
def beU5 (m : zkM) : Bool × zkM := if beCh m = 9 then (false, rqSv (seRu (beU4 m) (m 0 0 7)) (rqNx (beU3 m) (m 0 0 7)) (m 0 0 7 + 1)) else if 0 ≤ beCh m ∧ beCh m ≤ m 0 0 5 - 1 then taRu (beU4 m) (beCh m).toNat (m 0 0 7 + 1) else (false, beU4 m)
def beMk (m : zkM) : Int × zkM := (b2i (beU5 m).1, seEn (beU5 m).2 (m 0 0 7 + 1) (beW (beU5 m).2 (m 0 0 7)))
theorem beU4_5 (m : zkM) : beU4 m 0 0 5 = m 0 0 5 := by
  show beNp (beU3 m) (beCh m) 0 0 5 = m 0 0 5
  rw [beNp_f (by decide), beU3_0]
theorem beU5_7 (m : zkM) : (beU5 m).2 0 0 7 = m 0 0 7 + 1 := by
  have h4 : beU4 m 0 0 7 = m 0 0 7 + 1 := rfl
  unfold beU5
  split
  · dsimp only; rw [rqSv_f (by decide), seRu_f (by decide)]; exact h4
  · split
    · rw [taRu_f (Or.inl (by decide))]; exact h4
    · exact h4
theorem beMk_7 (m : zkM) : (beMk m).2 0 0 7 = m 0 0 7 + 1 := by
  unfold beMk
  dsimp only
  rw [seEn_f (by decide), beU5_7]
def rqP (m : zkM) : Prop := (0 ≤ m 3 0 4 ∧ m 3 0 4 ≤ 12) ∧ (∀ k, k < 12 → inR (m 13 0 k)) ∧ (∀ k, k < 12 → 0 ≤ m 15 0 k ∧ m 15 0 k ≤ 1000)
def seP (m : zkM) : Prop := (m 4 0 3 = 0 ∨ m 4 0 3 = 1) ∧ (m 4 0 8 = 0 ∨ m 4 0 8 = 1) ∧ inR (m 4 0 7)
def taRlP (m : zkM) (n : Nat) : Prop := joB m n ∧ inR (m 5 n 8) ∧ inR (m 5 n 10) ∧ (m 5 n 11 = 0 ∨ m 5 n 11 = 1)
def taMsP (m : zkM) (n : Nat) : Prop := joB m n ∧ (0 ≤ m 5 n 6 ∧ m 5 n 6 ≤ 100)
def taRuP (m : zkM) (n : Nat) : Prop := joB m n ∧ (0 ≤ m 5 n 12 ∧ m 5 n 12 ≤ 6) ∧ (0 ≤ m 5 n 8 ∧ m 5 n 8 ≤ 6) ∧ (0 ≤ m 5 n 13 ∧ m 5 n 13 ≤ 1000) ∧ (∀ k, k < 6 → inR (m 20 n k)) ∧ (∀ k, k < 400 → -1 ≤ m 21 n k ∧ m 21 n k ≤ 1000) ∧ inR (m 22 n 5)
/-- the memories of a unit are in their bounds (shown from the invariant, at the end) -/
def beOk (m : zkM) : Prop := (0 ≤ m 0 0 5 ∧ m 0 0 5 ≤ 5) ∧ (0 ≤ m 0 0 7 ∧ m 0 0 7 < 400) ∧ inR (m 0 0 6) ∧ (0 ≤ m 4 0 2 ∧ m 4 0 2 ≤ 9) ∧ (∀ k, k < 9 → inR (m 11 0 k)) ∧
  (∀ j : Nat, (j : Int) < m 0 0 5 → taRlP (lp (beR (m 0 0 7)) j (beU1 m)) j) ∧ (∀ j : Nat, (j : Int) < m 0 0 5 → taMsP (lp (beM (m 0 0 7) (m 0 0 6)) j (beU2 m)) j) ∧
  (beP (beU3 m) ∧ rqP (beU3 m) ∧ seP (beU3 m) ∧ (∀ k, k < 400 → inR (beU3 m 18 0 k))) ∧
  (seP (beU4 m) ∧ rqP (beU4 m) ∧ (0 ≤ beCh m ∧ beCh m ≤ m 0 0 5 - 1 → taRuP (beU4 m) (beCh m).toNat)) ∧
  (rqP (beU5 m).2 ∧ seP (beU5 m).2 ∧ (0 ≤ (beU5 m).2 4 0 2 ∧ (beU5 m).2 4 0 2 ≤ 9) ∧ (0 ≤ (beU5 m).2 4 0 9 ∧ (beU5 m).2 4 0 9 ≤ 1000) ∧ (0 ≤ (beU5 m).2 4 0 6 ∧ (beU5 m).2 4 0 6 ≤ 1000))
set_option maxRecDepth 10000 in
theorem w_beMk {l : Launch} {G : zkG} {mem : zkM} (hl : l.stackTraces = false) (hO : beOk mem) : zkW l G i_Be_makeUnit (zkKm G 4 0 0 (zkR1 (vi (beMk mem).1) (beMk mem).2)) 0 0 174 [some (vr 0 0), some (vi (mem 0 0 7)), some (vi (rqNx (beU3 mem) (mem 0 0 7))), some (vi (beCh mem)), some (vi (b2i (beU5 mem).1))] [] (beU5 mem).2 := by
  obtain ⟨o1, o2, o3, o4, o5, o6, o7, o8, o9, ⟨⟨r1, r2, r3⟩, ⟨s1, s2, s3⟩, q1, q2, q3⟩⟩ := hO
  have e7 := beU5_7 mem
  have hn := rqNx_b r1 (mem 0 0 7)
  have hbw : beW (beU5 mem).2 (mem 0 0 7) = 0 ∨ beW (beU5 mem).2 (mem 0 0 7) = 1 := by unfold beW; split <;> omega
  refine m_aload_n rfl rfl rfl ?_
  refine m_gr (k := 1) rfl rfl (Nat.le_of_ble_eq_true rfl) rfl rfl (by first | decide | assumption | (simp only [cnt]; omega)) ?_
  refine m_aload_n rfl rfl rfl ?_
  refine m_gix (k := 7) (x := mem 0 0 7 + 1) rfl rfl (Nat.le_of_ble_eq_true rfl) rfl rfl (by decide) e7 ?_
  refine m_aload_n rfl rfl rfl ?_
  refine m_gr (k := 2) rfl rfl (Nat.le_of_ble_eq_true rfl) rfl rfl (by first | decide | assumption | (simp only [cnt]; omega)) ?_
  refine m_iload_n rfl rfl rfl ?_
  refine m_cv1 rfl rfl lk_0_121 (c_rqNext hl r1 (by omega) r2 (fun k hk => by have := r3 k hk; omega)) rfl (by first | decide | assumption | (simp only [cnt]; omega)) (Nat.le_of_ble_eq_true rfl) rfl rfl (Nat.le_of_ble_eq_true rfl) (Nat.le_of_ble_eq_true rfl) (Nat.le_of_ble_eq_true rfl) (Nat.le_of_ble_eq_true rfl) (Nat.le_of_ble_eq_true rfl) ?_
  refine m_iconst rfl rfl ?_
  refine m_icmp_eq (tgt := 198) rfl rfl rfl (by omega) (by omega) (fun c191 => ?_) (fun c191 => ?_)
  · refine m_iconst rfl rfl ?_
    first | (rw [show vi 1 = vi (beW (beU5 mem).2 (mem 0 0 7)) by unfold beW; rw [if_neg (by omega)]]) | (rw [show vi 0 = vi (beW (beU5 mem).2 (mem 0 0 7)) by unfold beW; rw [if_pos (by omega)]])
    refine m_cv0 rfl rfl lk_0_144 (c_seEnd hl q1 s1 s2 hbw s3 (by omega) q2 q3) rfl (by first | decide | assumption | (simp only [cnt]; omega)) (Nat.le_of_ble_eq_true rfl) rfl rfl (Nat.le_of_ble_eq_true rfl) (Nat.le_of_ble_eq_true rfl) (Nat.le_of_ble_eq_true rfl) (Nat.le_of_ble_eq_true rfl) (Nat.le_of_ble_eq_true rfl) ?_
    refine m_iload rfl rfl rfl ?_
    refine m_if_eq_b (tgt := 211) rfl rfl rfl (fun c204 => ?_) (fun c204 => ?_)
    · refine m_iconst rfl rfl ?_
      refine m_iret rfl rfl rfl (Nat.le_of_ble_eq_true rfl) (Nat.le_of_ble_eq_true rfl) ?_
      refine ⟨?_, rfl⟩
      unfold beMk
      dsimp only
      rw [c204]
      rfl
    · refine m_iconst rfl rfl ?_
      refine m_goto (tgt := 212) rfl rfl rfl ?_
      refine m_iret rfl rfl rfl (Nat.le_of_ble_eq_true rfl) (Nat.le_of_ble_eq_true rfl) ?_
      refine ⟨?_, rfl⟩
      unfold beMk
      dsimp only
      rw [c204]
      rfl
  · refine m_iconst rfl rfl ?_
    refine m_goto (tgt := 199) rfl rfl rfl ?_
    first | (rw [show vi 1 = vi (beW (beU5 mem).2 (mem 0 0 7)) by unfold beW; rw [if_neg (by omega)]]) | (rw [show vi 0 = vi (beW (beU5 mem).2 (mem 0 0 7)) by unfold beW; rw [if_pos (by omega)]])
    refine m_cv0 rfl rfl lk_0_144 (c_seEnd hl q1 s1 s2 hbw s3 (by omega) q2 q3) rfl (by first | decide | assumption | (simp only [cnt]; omega)) (Nat.le_of_ble_eq_true rfl) rfl rfl (Nat.le_of_ble_eq_true rfl) (Nat.le_of_ble_eq_true rfl) (Nat.le_of_ble_eq_true rfl) (Nat.le_of_ble_eq_true rfl) (Nat.le_of_ble_eq_true rfl) ?_
    refine m_iload rfl rfl rfl ?_
    refine m_if_eq_b (tgt := 211) rfl rfl rfl (fun c204 => ?_) (fun c204 => ?_)
    · refine m_iconst rfl rfl ?_
      refine m_iret rfl rfl rfl (Nat.le_of_ble_eq_true rfl) (Nat.le_of_ble_eq_true rfl) ?_
      refine ⟨?_, rfl⟩
      unfold beMk
      dsimp only
      rw [c204]
      rfl
    · refine m_iconst rfl rfl ?_
      refine m_goto (tgt := 212) rfl rfl rfl ?_
      refine m_iret rfl rfl rfl (Nat.le_of_ble_eq_true rfl) (Nat.le_of_ble_eq_true rfl) ?_
      refine ⟨?_, rfl⟩
      unfold beMk
      dsimp only
      rw [c204]
      rfl

set_option maxRecDepth 10000 in
theorem c_beMk {l : Launch} {G : zkG} {mem : zkM} (hl : l.stackTraces = false) (hO : beOk mem) : zkCt l G i_Be_makeUnit 4 0 0 [vr 0 0] mem (zkR1 (vi (beMk mem).1) (beMk mem).2) := by
  refine zkCt_of hl ok_Be_makeUnit (by decide +kernel) rfl rfl (List.forall_mem_cons.mpr ⟨rfl, fun _ h => nomatch h⟩) (Nat.le_of_ble_eq_true rfl) ?_
  obtain ⟨o1, o2, o3, o4, o5, o6, o7, ⟨p0, ⟨r1, r2, r3⟩, ⟨s1, s2, s3⟩, h18⟩, o9, o10⟩ := id hO
  refine m_aload_n rfl rfl rfl ?_
  refine m_gix (k := 7) (x := mem 0 _ 7) rfl rfl (Nat.le_of_ble_eq_true rfl) rfl rfl (by first | decide | assumption | (simp only [cnt]; omega)) (by first | rfl | (repeat (first | rw [ms_s] | rw [ms_t (by decide)] | rw [ms_k (by decide)]))) ?_
  refine m_istore_n rfl rfl (Nat.le_of_ble_eq_true rfl) rfl ?_
  refine m_aload_n rfl rfl rfl ?_
  refine m_gr (k := 1) rfl rfl (Nat.le_of_ble_eq_true rfl) rfl rfl (by first | decide | assumption | (simp only [cnt]; omega)) ?_
  refine m_iload_n rfl rfl rfl ?_
  refine m_cv0 rfl rfl lk_0_111 (show zkCt l G i_Se_replenishAt _ 0 0 _ _ (zkR0 (beU1 mem)) from c_seRep hl o4 (by omega) o5) rfl (by first | decide | assumption | (simp only [cnt]; omega)) (Nat.le_of_ble_eq_true rfl) rfl rfl (Nat.le_of_ble_eq_true rfl) (Nat.le_of_ble_eq_true rfl) (Nat.le_of_ble_eq_true rfl) (Nat.le_of_ble_eq_true rfl) (Nat.le_of_ble_eq_true rfl) ?_
  refine m_iconst rfl rfl ?_
  refine m_istore_n rfl rfl (Nat.le_of_ble_eq_true rfl) rfl ?_
  refine zk_loop (P := fun (j : Nat) (s : zkM) => zkW l G i_Be_makeUnit (zkKm G 4 0 0 (zkR1 (vi (beMk mem).1) (beMk mem).2)) 0 0 15 [some (vr 0 0), some (vi (mem 0 0 7)), some (vi j), none, none] [] s) (I := fun j s => s = lp (beR (mem 0 0 7)) j (beU1 mem)) (beR (mem 0 0 7)) (mem 0 0 5).toNat (beU1 mem) rfl (fun j s _ hI => by rw [hI]; rfl) (fun j s hj hI hk => ?_) (fun _ => ?_)
  · have e5 : s 0 0 5 = mem 0 0 5 := by rw [hI, beR_f (by decide), beU1_0]
    have hp := o6 j (by omega)
    rw [← hI] at hp
    refine m_iload_n rfl rfl rfl ?_
    refine m_aload_n rfl rfl rfl ?_
    refine m_gix (k := 5) (x := s 0 _ 5) rfl rfl (Nat.le_of_ble_eq_true rfl) rfl rfl (by first | decide | assumption | (simp only [cnt]; omega)) (by first | rfl | (repeat (first | rw [ms_s] | rw [ms_t (by decide)] | rw [ms_k (by decide)]))) ?_
    refine m_icmp_ge (tgt := 39) rfl rfl rfl (by omega) (by omega) (fun c20 => ?_) (fun c20 => ?_)
    · exfalso; omega
    · refine m_aload_n rfl rfl rfl ?_
      refine m_gr (k := 0) rfl rfl (Nat.le_of_ble_eq_true rfl) rfl rfl (by first | decide | assumption | (simp only [cnt]; omega)) ?_
      refine m_iload_n rfl rfl rfl ?_
      refine m_aaln (n := j) (q := j) rfl rfl (by decide) (by omega) (by omega) (by omega) ?_
      refine m_iload_n rfl rfl rfl ?_
      refine m_cv0 rfl rfl lk_0_115 (c_taRelease (n := j) hl (by omega) hp.1 (by omega) hp.2.1 hp.2.2.1 hp.2.2.2) rfl (by first | decide | assumption | (simp only [cnt]; omega)) (Nat.le_of_ble_eq_true rfl) rfl rfl (Nat.le_of_ble_eq_true rfl) (Nat.le_of_ble_eq_true rfl) (Nat.le_of_ble_eq_true rfl) (Nat.le_of_ble_eq_true rfl) (Nat.le_of_ble_eq_true rfl) ?_
      refine m_iinc rfl rfl rfl (Nat.le_of_ble_eq_true rfl) rfl ?_
      refine m_goto (tgt := 15) rfl rfl rfl ?_
      exact hk
  · change zkW l G i_Be_makeUnit _ 0 0 15 _ [] (beU2 mem)
    have e5 := beU2_0 mem 0 5
    refine m_iload_n rfl rfl rfl ?_
    refine m_aload_n rfl rfl rfl ?_
    refine m_gix (k := 5) (x := (beU2 mem) 0 _ 5) rfl rfl (Nat.le_of_ble_eq_true rfl) rfl rfl (by first | decide | assumption | (simp only [cnt]; omega)) (by first | rfl | (repeat (first | rw [ms_s] | rw [ms_t (by decide)] | rw [ms_k (by decide)]))) ?_
    refine m_icmp_ge (tgt := 39) rfl rfl rfl (by omega) (by omega) (fun c20 => ?_) (fun c20 => ?_)
    · refine m_iconst rfl rfl ?_
      refine m_istore_n rfl rfl (Nat.le_of_ble_eq_true rfl) rfl ?_
      refine zk_loop (P := fun (j : Nat) (s : zkM) => zkW l G i_Be_makeUnit (zkKm G 4 0 0 (zkR1 (vi (beMk mem).1) (beMk mem).2)) 0 0 41 [some (vr 0 0), some (vi (mem 0 0 7)), some (vi j), none, none] [] s) (I := fun j s => s = lp (beM (mem 0 0 7) (mem 0 0 6)) j (beU2 mem)) (beM (mem 0 0 7) (mem 0 0 6)) (mem 0 0 5).toNat (beU2 mem) rfl (fun j s _ hI => by rw [hI]; rfl) (fun j s hj hI hk => ?_) (fun _ => ?_)
      · have e5 : s 0 0 5 = mem 0 0 5 := by rw [hI, beM_f (by decide), beU2_0]
        have e6 : s 0 0 6 = mem 0 0 6 := by rw [hI, beM_f (by decide), beU2_0]
        have hp := o7 j (by omega)
        rw [← hI] at hp
        refine m_iload_n rfl rfl rfl ?_
        refine m_aload_n rfl rfl rfl ?_
        refine m_gix (k := 5) (x := s 0 _ 5) rfl rfl (Nat.le_of_ble_eq_true rfl) rfl rfl (by first | decide | assumption | (simp only [cnt]; omega)) (by first | rfl | (repeat (first | rw [ms_s] | rw [ms_t (by decide)] | rw [ms_k (by decide)]))) ?_
        refine m_icmp_ge (tgt := 69) rfl rfl rfl (by omega) (by omega) (fun c46 => ?_) (fun c46 => ?_)
        · exfalso; omega
        · refine m_aload_n rfl rfl rfl ?_
          refine m_gr (k := 0) rfl rfl (Nat.le_of_ble_eq_true rfl) rfl rfl (by first | decide | assumption | (simp only [cnt]; omega)) ?_
          refine m_iload_n rfl rfl rfl ?_
          refine m_aaln (n := j) (q := j) rfl rfl (by decide) (by omega) (by omega) (by omega) ?_
          refine m_iload_n rfl rfl rfl ?_
          refine m_aload_n rfl rfl rfl ?_
          refine m_gix (k := 6) (x := mem 0 0 6) rfl rfl (Nat.le_of_ble_eq_true rfl) rfl rfl (by decide) e6 ?_
          refine m_cv0 rfl rfl lk_0_118 (c_taMiss (n := j) hl (by omega) hp.1 (by omega) hp.2 o3) rfl (by first | decide | assumption | (simp only [cnt]; omega)) (Nat.le_of_ble_eq_true rfl) rfl rfl (Nat.le_of_ble_eq_true rfl) (Nat.le_of_ble_eq_true rfl) (Nat.le_of_ble_eq_true rfl) (Nat.le_of_ble_eq_true rfl) (Nat.le_of_ble_eq_true rfl) ?_
          refine m_iinc rfl rfl rfl (Nat.le_of_ble_eq_true rfl) rfl ?_
          refine m_goto (tgt := 41) rfl rfl rfl ?_
          exact hk
      · change zkW l G i_Be_makeUnit _ 0 0 41 _ [] (beU3 mem)
        have e5 := beU3_0 mem 0 5
        have e7 := beU3_0 mem 0 7
        have b5 := beU4_5 mem
        have hc := beMu_b (m := beU3 mem) (by omega) (beRy (beU3 mem) (mem 0 0 7))
        change -1 ≤ beCh mem ∧ beCh mem ≤ 9 at hc
        have hn := rqNx_b r1 (mem 0 0 7)
        have hbw : beW (beU3 mem) (mem 0 0 7) = 0 ∨ beW (beU3 mem) (mem 0 0 7) = 1 := by unfold beW; split <;> omega
        have hry : beRy (beU3 mem) (mem 0 0 7) = 0 ∨ beRy (beU3 mem) (mem 0 0 7) = 1 := by unfold beRy; cases decide (beU3 mem 4 0 3 = 1 ∧ beW (beU3 mem) (mem 0 0 7) = 1 ∧ 0 < beU3 mem 4 0 7) <;> simp [b2i]
        have key := w_beMk (l := l) (G := G) hl hO
        have f7 : seRu (beU4 mem) (mem 0 0 7) 0 0 7 = mem 0 0 7 + 1 := seRu_f (by decide) _ _ _
        refine m_iload_n rfl rfl rfl ?_
        refine m_aload_n rfl rfl rfl ?_
        refine m_gix (k := 5) (x := (beU3 mem) 0 _ 5) rfl rfl (Nat.le_of_ble_eq_true rfl) rfl rfl (by first | decide | assumption | (simp only [cnt]; omega)) (by first | rfl | (repeat (first | rw [ms_s] | rw [ms_t (by decide)] | rw [ms_k (by decide)]))) ?_
        refine m_icmp_ge (tgt := 69) rfl rfl rfl (by omega) (by omega) (fun c46 => ?_) (fun c46 => ?_)
        · refine m_aload_n rfl rfl rfl ?_
          refine m_gr (k := 2) rfl rfl (Nat.le_of_ble_eq_true rfl) rfl rfl (by first | decide | assumption | (simp only [cnt]; omega)) ?_
          refine m_iload_n rfl rfl rfl ?_
          refine m_cv1 rfl rfl lk_0_121 (c_rqNext hl r1 (by omega) r2 (fun k hk => by have := r3 k hk; omega)) rfl (by first | decide | assumption | (simp only [cnt]; omega)) (Nat.le_of_ble_eq_true rfl) rfl rfl (Nat.le_of_ble_eq_true rfl) (Nat.le_of_ble_eq_true rfl) (Nat.le_of_ble_eq_true rfl) (Nat.le_of_ble_eq_true rfl) (Nat.le_of_ble_eq_true rfl) ?_
          refine m_istore_n rfl rfl (Nat.le_of_ble_eq_true rfl) rfl ?_
          refine m_aload_n rfl rfl rfl ?_
          refine m_aload_n rfl rfl rfl ?_
          refine m_gr (k := 1) rfl rfl (Nat.le_of_ble_eq_true rfl) rfl rfl (by first | decide | assumption | (simp only [cnt]; omega)) ?_
          refine m_iload_n rfl rfl rfl ?_
          refine m_iconst rfl rfl ?_
          refine m_icmp_eq (tgt := 92) rfl rfl rfl (by omega) (by omega) (fun c85 => ?_) (fun c85 => ?_)
          · refine m_iconst rfl rfl ?_
            first | (rw [show vi 1 = vi (beW (beU3 mem) (mem 0 0 7)) by unfold beW; rw [if_neg (by omega)]]) | (rw [show vi 0 = vi (beW (beU3 mem) (mem 0 0 7)) by unfold beW; rw [if_pos (by omega)]])
            refine m_cv1 rfl rfl lk_0_125 (show zkCt l G i_Se_isReady _ 0 0 _ _ (zkR1 (vi (beRy (beU3 mem) (mem 0 0 7))) _) from c_seReady hl s1 hbw s3) rfl (by first | decide | assumption | (simp only [cnt]; omega)) (Nat.le_of_ble_eq_true rfl) rfl rfl (Nat.le_of_ble_eq_true rfl) (Nat.le_of_ble_eq_true rfl) (Nat.le_of_ble_eq_true rfl) (Nat.le_of_ble_eq_true rfl) (Nat.le_of_ble_eq_true rfl) ?_
            refine m_cv1 rfl rfl lk_0_129 (show zkCt l G i_Be_mostUrgent _ 0 0 _ _ (zkR1 (vi (beCh mem)) _) from c_beMu hl p0 hry) rfl (by first | decide | assumption | (simp only [cnt]; omega)) (Nat.le_of_ble_eq_true rfl) rfl rfl (Nat.le_of_ble_eq_true rfl) (Nat.le_of_ble_eq_true rfl) (Nat.le_of_ble_eq_true rfl) (Nat.le_of_ble_eq_true rfl) (Nat.le_of_ble_eq_true rfl) ?_
            refine m_istore_n rfl rfl (Nat.le_of_ble_eq_true rfl) rfl ?_
            refine m_aload_n rfl rfl rfl ?_
            refine m_iload_n rfl rfl rfl ?_
            refine m_cv0 rfl rfl lk_0_133 (c_beNp hl (by omega) (by omega) (by omega) h18 (fun i hi => by obtain ⟨x1, x2, x3, x4, x5⟩ := p0.2.1 i hi; exact ⟨by omega, x3⟩)) rfl (by first | decide | assumption | (simp only [cnt]; omega)) (Nat.le_of_ble_eq_true rfl) rfl rfl (Nat.le_of_ble_eq_true rfl) (Nat.le_of_ble_eq_true rfl) (Nat.le_of_ble_eq_true rfl) (Nat.le_of_ble_eq_true rfl) (Nat.le_of_ble_eq_true rfl) ?_
            refine m_aload_n rfl rfl rfl ?_
            refine m_gr (k := 4) rfl rfl (Nat.le_of_ble_eq_true rfl) rfl rfl (by first | decide | assumption | (simp only [cnt]; omega)) ?_
            refine m_iload_n rfl rfl rfl ?_
            refine m_iload_n rfl rfl rfl ?_
            refine m_iasn (n := (mem 0 0 7).toNat) rfl rfl (Nat.le_of_ble_eq_true rfl) rfl (by first | decide | assumption | (simp only [cnt]; omega)) (by omega) (by simp only [aln]; omega) ?_
            refine m_aload_n rfl rfl rfl ?_
            refine m_iload_n rfl rfl rfl ?_
            refine m_iconst rfl rfl ?_
            refine m_iadd rfl rfl ?_
            refine m_pi (k := 7) rfl rfl (Nat.le_of_ble_eq_true rfl) rfl rfl rfl rfl (by first | decide | assumption | (simp only [cnt]; omega)) ?_
            show zkW l G i_Be_makeUnit _ 0 0 119 _ _ (beU4 mem)
            refine m_iconst rfl rfl ?_
            refine m_istore rfl rfl (Nat.le_of_ble_eq_true rfl) rfl ?_
            refine m_iload_n rfl rfl rfl ?_
            refine m_bipush rfl rfl (by decide) ?_
            refine m_icmp_ne (tgt := 151) rfl rfl rfl (by omega) (by omega) (fun c125 => ?_) (fun c125 => ?_)
            · refine m_aload_n rfl rfl rfl ?_
              refine m_iload_n rfl rfl rfl ?_
              refine m_cv1 rfl rfl lk_0_82 (show zkCt l G i_Be_hasTask _ 0 0 _ _ (zkR1 (vi (b2i (decide (0 ≤ beCh mem ∧ beCh mem ≤ beU4 mem 0 0 5 - 1)))) _) from c_beHas hl (by omega) (by omega)) rfl (by first | decide | assumption | (simp only [cnt]; omega)) (Nat.le_of_ble_eq_true rfl) rfl rfl (Nat.le_of_ble_eq_true rfl) (Nat.le_of_ble_eq_true rfl) (Nat.le_of_ble_eq_true rfl) (Nat.le_of_ble_eq_true rfl) (Nat.le_of_ble_eq_true rfl) ?_
              refine m_if_eq_d (tgt := 174) rfl rfl rfl (fun c156 => ?_) (fun c156 => ?_)
              · first
                  | (rw [show beU5 mem = (false, rqSv (seRu (beU4 mem) (mem 0 0 7)) (rqNx (beU3 mem) (mem 0 0 7)) (mem 0 0 7 + 1)) by unfold beU5; rw [if_pos (by omega)]] at key; exact key)
                  | (rw [show beU5 mem = taRu (beU4 mem) (beCh mem).toNat (mem 0 0 7 + 1) by unfold beU5; rw [if_neg (by omega), if_pos (by omega)]] at key; exact key)
                  | (rw [show beU5 mem = (false, beU4 mem) by unfold beU5; rw [if_neg (by omega), if_neg (by omega)]] at key; exact key)
              · refine m_aload_n rfl rfl rfl ?_
                refine m_gr (k := 0) rfl rfl (Nat.le_of_ble_eq_true rfl) rfl rfl (by first | decide | assumption | (simp only [cnt]; omega)) ?_
                refine m_iload_n rfl rfl rfl ?_
                refine m_aaln (n := (beCh mem).toNat) (q := (beCh mem).toNat) rfl rfl (by decide) (by omega) (by omega) (by omega) ?_
                refine m_aload_n rfl rfl rfl ?_
                refine m_gix (k := 7) (x := mem 0 0 7 + 1) rfl rfl (Nat.le_of_ble_eq_true rfl) rfl rfl (by first | decide | assumption | (simp only [cnt]; omega)) (by first | rfl | (repeat (first | rw [ms_s] | rw [ms_t (by decide)] | rw [ms_k (by decide)]))) ?_
                refine m_cv1 rfl rfl lk_0_142 (c_taRun (n := (beCh mem).toNat) hl (by omega) (o9.2.2 (by omega)).1 (by omega) (o9.2.2 (by omega)).2.1 (o9.2.2 (by omega)).2.2.1 (o9.2.2 (by omega)).2.2.2.1 (o9.2.2 (by omega)).2.2.2.2.1 (o9.2.2 (by omega)).2.2.2.2.2.1 (o9.2.2 (by omega)).2.2.2.2.2.2) rfl (by first | decide | assumption | (simp only [cnt]; omega)) (Nat.le_of_ble_eq_true rfl) rfl rfl (Nat.le_of_ble_eq_true rfl) (Nat.le_of_ble_eq_true rfl) (Nat.le_of_ble_eq_true rfl) (Nat.le_of_ble_eq_true rfl) (Nat.le_of_ble_eq_true rfl) ?_
                refine m_istore rfl rfl (Nat.le_of_ble_eq_true rfl) rfl ?_
                first
                  | (rw [show beU5 mem = (false, rqSv (seRu (beU4 mem) (mem 0 0 7)) (rqNx (beU3 mem) (mem 0 0 7)) (mem 0 0 7 + 1)) by unfold beU5; rw [if_pos (by omega)]] at key; exact key)
                  | (rw [show beU5 mem = taRu (beU4 mem) (beCh mem).toNat (mem 0 0 7 + 1) by unfold beU5; rw [if_neg (by omega), if_pos (by omega)]] at key; exact key)
                  | (rw [show beU5 mem = (false, beU4 mem) by unfold beU5; rw [if_neg (by omega), if_neg (by omega)]] at key; exact key)
            · refine m_aload_n rfl rfl rfl ?_
              refine m_gr (k := 1) rfl rfl (Nat.le_of_ble_eq_true rfl) rfl rfl (by first | decide | assumption | (simp only [cnt]; omega)) ?_
              refine m_iload_n rfl rfl rfl ?_
              refine m_cv0 rfl rfl lk_0_136 (c_seRun hl (show beU4 mem 4 0 8 = 0 ∨ beU4 mem 4 0 8 = 1 from o9.1.2.1)) rfl (by first | decide | assumption | (simp only [cnt]; omega)) (Nat.le_of_ble_eq_true rfl) rfl rfl (Nat.le_of_ble_eq_true rfl) (Nat.le_of_ble_eq_true rfl) (Nat.le_of_ble_eq_true rfl) (Nat.le_of_ble_eq_true rfl) (Nat.le_of_ble_eq_true rfl) ?_
              refine m_aload_n rfl rfl rfl ?_
              refine m_gr (k := 2) rfl rfl (Nat.le_of_ble_eq_true rfl) rfl rfl (by first | decide | assumption | (simp only [cnt]; omega)) ?_
              refine m_iload_n rfl rfl rfl ?_
              refine m_aload_n rfl rfl rfl ?_
              refine m_gix (k := 7) (x := mem 0 0 7 + 1) rfl rfl (Nat.le_of_ble_eq_true rfl) rfl rfl (by decide) f7 ?_
              refine m_cv0 rfl rfl lk_0_139 (c_rqServe hl (by rw [seRu_f (by decide)]; exact o9.2.1.1) (by omega) (fun k hk => by rw [seRu_f (by decide)]; exact o9.2.1.2.2 k hk)) rfl (by first | decide | assumption | (simp only [cnt]; omega)) (Nat.le_of_ble_eq_true rfl) rfl rfl (Nat.le_of_ble_eq_true rfl) (Nat.le_of_ble_eq_true rfl) (Nat.le_of_ble_eq_true rfl) (Nat.le_of_ble_eq_true rfl) (Nat.le_of_ble_eq_true rfl) ?_
              refine m_goto (tgt := 174) rfl rfl rfl ?_
              first
                | (rw [show beU5 mem = (false, rqSv (seRu (beU4 mem) (mem 0 0 7)) (rqNx (beU3 mem) (mem 0 0 7)) (mem 0 0 7 + 1)) by unfold beU5; rw [if_pos (by omega)]] at key; exact key)
                | (rw [show beU5 mem = taRu (beU4 mem) (beCh mem).toNat (mem 0 0 7 + 1) by unfold beU5; rw [if_neg (by omega), if_pos (by omega)]] at key; exact key)
                | (rw [show beU5 mem = (false, beU4 mem) by unfold beU5; rw [if_neg (by omega), if_neg (by omega)]] at key; exact key)
          · refine m_iconst rfl rfl ?_
            refine m_goto (tgt := 93) rfl rfl rfl ?_
            first | (rw [show vi 1 = vi (beW (beU3 mem) (mem 0 0 7)) by unfold beW; rw [if_neg (by omega)]]) | (rw [show vi 0 = vi (beW (beU3 mem) (mem 0 0 7)) by unfold beW; rw [if_pos (by omega)]])
            refine m_cv1 rfl rfl lk_0_125 (show zkCt l G i_Se_isReady _ 0 0 _ _ (zkR1 (vi (beRy (beU3 mem) (mem 0 0 7))) _) from c_seReady hl s1 hbw s3) rfl (by first | decide | assumption | (simp only [cnt]; omega)) (Nat.le_of_ble_eq_true rfl) rfl rfl (Nat.le_of_ble_eq_true rfl) (Nat.le_of_ble_eq_true rfl) (Nat.le_of_ble_eq_true rfl) (Nat.le_of_ble_eq_true rfl) (Nat.le_of_ble_eq_true rfl) ?_
            refine m_cv1 rfl rfl lk_0_129 (show zkCt l G i_Be_mostUrgent _ 0 0 _ _ (zkR1 (vi (beCh mem)) _) from c_beMu hl p0 hry) rfl (by first | decide | assumption | (simp only [cnt]; omega)) (Nat.le_of_ble_eq_true rfl) rfl rfl (Nat.le_of_ble_eq_true rfl) (Nat.le_of_ble_eq_true rfl) (Nat.le_of_ble_eq_true rfl) (Nat.le_of_ble_eq_true rfl) (Nat.le_of_ble_eq_true rfl) ?_
            refine m_istore_n rfl rfl (Nat.le_of_ble_eq_true rfl) rfl ?_
            refine m_aload_n rfl rfl rfl ?_
            refine m_iload_n rfl rfl rfl ?_
            refine m_cv0 rfl rfl lk_0_133 (c_beNp hl (by omega) (by omega) (by omega) h18 (fun i hi => by obtain ⟨x1, x2, x3, x4, x5⟩ := p0.2.1 i hi; exact ⟨by omega, x3⟩)) rfl (by first | decide | assumption | (simp only [cnt]; omega)) (Nat.le_of_ble_eq_true rfl) rfl rfl (Nat.le_of_ble_eq_true rfl) (Nat.le_of_ble_eq_true rfl) (Nat.le_of_ble_eq_true rfl) (Nat.le_of_ble_eq_true rfl) (Nat.le_of_ble_eq_true rfl) ?_
            refine m_aload_n rfl rfl rfl ?_
            refine m_gr (k := 4) rfl rfl (Nat.le_of_ble_eq_true rfl) rfl rfl (by first | decide | assumption | (simp only [cnt]; omega)) ?_
            refine m_iload_n rfl rfl rfl ?_
            refine m_iload_n rfl rfl rfl ?_
            refine m_iasn (n := (mem 0 0 7).toNat) rfl rfl (Nat.le_of_ble_eq_true rfl) rfl (by first | decide | assumption | (simp only [cnt]; omega)) (by omega) (by simp only [aln]; omega) ?_
            refine m_aload_n rfl rfl rfl ?_
            refine m_iload_n rfl rfl rfl ?_
            refine m_iconst rfl rfl ?_
            refine m_iadd rfl rfl ?_
            refine m_pi (k := 7) rfl rfl (Nat.le_of_ble_eq_true rfl) rfl rfl rfl rfl (by first | decide | assumption | (simp only [cnt]; omega)) ?_
            show zkW l G i_Be_makeUnit _ 0 0 119 _ _ (beU4 mem)
            refine m_iconst rfl rfl ?_
            refine m_istore rfl rfl (Nat.le_of_ble_eq_true rfl) rfl ?_
            refine m_iload_n rfl rfl rfl ?_
            refine m_bipush rfl rfl (by decide) ?_
            refine m_icmp_ne (tgt := 151) rfl rfl rfl (by omega) (by omega) (fun c125 => ?_) (fun c125 => ?_)
            · refine m_aload_n rfl rfl rfl ?_
              refine m_iload_n rfl rfl rfl ?_
              refine m_cv1 rfl rfl lk_0_82 (show zkCt l G i_Be_hasTask _ 0 0 _ _ (zkR1 (vi (b2i (decide (0 ≤ beCh mem ∧ beCh mem ≤ beU4 mem 0 0 5 - 1)))) _) from c_beHas hl (by omega) (by omega)) rfl (by first | decide | assumption | (simp only [cnt]; omega)) (Nat.le_of_ble_eq_true rfl) rfl rfl (Nat.le_of_ble_eq_true rfl) (Nat.le_of_ble_eq_true rfl) (Nat.le_of_ble_eq_true rfl) (Nat.le_of_ble_eq_true rfl) (Nat.le_of_ble_eq_true rfl) ?_
              refine m_if_eq_d (tgt := 174) rfl rfl rfl (fun c156 => ?_) (fun c156 => ?_)
              · first
                  | (rw [show beU5 mem = (false, rqSv (seRu (beU4 mem) (mem 0 0 7)) (rqNx (beU3 mem) (mem 0 0 7)) (mem 0 0 7 + 1)) by unfold beU5; rw [if_pos (by omega)]] at key; exact key)
                  | (rw [show beU5 mem = taRu (beU4 mem) (beCh mem).toNat (mem 0 0 7 + 1) by unfold beU5; rw [if_neg (by omega), if_pos (by omega)]] at key; exact key)
                  | (rw [show beU5 mem = (false, beU4 mem) by unfold beU5; rw [if_neg (by omega), if_neg (by omega)]] at key; exact key)
              · refine m_aload_n rfl rfl rfl ?_
                refine m_gr (k := 0) rfl rfl (Nat.le_of_ble_eq_true rfl) rfl rfl (by first | decide | assumption | (simp only [cnt]; omega)) ?_
                refine m_iload_n rfl rfl rfl ?_
                refine m_aaln (n := (beCh mem).toNat) (q := (beCh mem).toNat) rfl rfl (by decide) (by omega) (by omega) (by omega) ?_
                refine m_aload_n rfl rfl rfl ?_
                refine m_gix (k := 7) (x := mem 0 0 7 + 1) rfl rfl (Nat.le_of_ble_eq_true rfl) rfl rfl (by first | decide | assumption | (simp only [cnt]; omega)) (by first | rfl | (repeat (first | rw [ms_s] | rw [ms_t (by decide)] | rw [ms_k (by decide)]))) ?_
                refine m_cv1 rfl rfl lk_0_142 (c_taRun (n := (beCh mem).toNat) hl (by omega) (o9.2.2 (by omega)).1 (by omega) (o9.2.2 (by omega)).2.1 (o9.2.2 (by omega)).2.2.1 (o9.2.2 (by omega)).2.2.2.1 (o9.2.2 (by omega)).2.2.2.2.1 (o9.2.2 (by omega)).2.2.2.2.2.1 (o9.2.2 (by omega)).2.2.2.2.2.2) rfl (by first | decide | assumption | (simp only [cnt]; omega)) (Nat.le_of_ble_eq_true rfl) rfl rfl (Nat.le_of_ble_eq_true rfl) (Nat.le_of_ble_eq_true rfl) (Nat.le_of_ble_eq_true rfl) (Nat.le_of_ble_eq_true rfl) (Nat.le_of_ble_eq_true rfl) ?_
                refine m_istore rfl rfl (Nat.le_of_ble_eq_true rfl) rfl ?_
                first
                  | (rw [show beU5 mem = (false, rqSv (seRu (beU4 mem) (mem 0 0 7)) (rqNx (beU3 mem) (mem 0 0 7)) (mem 0 0 7 + 1)) by unfold beU5; rw [if_pos (by omega)]] at key; exact key)
                  | (rw [show beU5 mem = taRu (beU4 mem) (beCh mem).toNat (mem 0 0 7 + 1) by unfold beU5; rw [if_neg (by omega), if_pos (by omega)]] at key; exact key)
                  | (rw [show beU5 mem = (false, beU4 mem) by unfold beU5; rw [if_neg (by omega), if_neg (by omega)]] at key; exact key)
            · refine m_aload_n rfl rfl rfl ?_
              refine m_gr (k := 1) rfl rfl (Nat.le_of_ble_eq_true rfl) rfl rfl (by first | decide | assumption | (simp only [cnt]; omega)) ?_
              refine m_iload_n rfl rfl rfl ?_
              refine m_cv0 rfl rfl lk_0_136 (c_seRun hl (show beU4 mem 4 0 8 = 0 ∨ beU4 mem 4 0 8 = 1 from o9.1.2.1)) rfl (by first | decide | assumption | (simp only [cnt]; omega)) (Nat.le_of_ble_eq_true rfl) rfl rfl (Nat.le_of_ble_eq_true rfl) (Nat.le_of_ble_eq_true rfl) (Nat.le_of_ble_eq_true rfl) (Nat.le_of_ble_eq_true rfl) (Nat.le_of_ble_eq_true rfl) ?_
              refine m_aload_n rfl rfl rfl ?_
              refine m_gr (k := 2) rfl rfl (Nat.le_of_ble_eq_true rfl) rfl rfl (by first | decide | assumption | (simp only [cnt]; omega)) ?_
              refine m_iload_n rfl rfl rfl ?_
              refine m_aload_n rfl rfl rfl ?_
              refine m_gix (k := 7) (x := mem 0 0 7 + 1) rfl rfl (Nat.le_of_ble_eq_true rfl) rfl rfl (by decide) f7 ?_
              refine m_cv0 rfl rfl lk_0_139 (c_rqServe hl (by rw [seRu_f (by decide)]; exact o9.2.1.1) (by omega) (fun k hk => by rw [seRu_f (by decide)]; exact o9.2.1.2.2 k hk)) rfl (by first | decide | assumption | (simp only [cnt]; omega)) (Nat.le_of_ble_eq_true rfl) rfl rfl (Nat.le_of_ble_eq_true rfl) (Nat.le_of_ble_eq_true rfl) (Nat.le_of_ble_eq_true rfl) (Nat.le_of_ble_eq_true rfl) (Nat.le_of_ble_eq_true rfl) ?_
              refine m_goto (tgt := 174) rfl rfl rfl ?_
              first
                | (rw [show beU5 mem = (false, rqSv (seRu (beU4 mem) (mem 0 0 7)) (rqNx (beU3 mem) (mem 0 0 7)) (mem 0 0 7 + 1)) by unfold beU5; rw [if_pos (by omega)]] at key; exact key)
                | (rw [show beU5 mem = taRu (beU4 mem) (beCh mem).toNat (mem 0 0 7 + 1) by unfold beU5; rw [if_neg (by omega), if_pos (by omega)]] at key; exact key)
                | (rw [show beU5 mem = (false, beU4 mem) by unfold beU5; rw [if_neg (by omega), if_neg (by omega)]] at key; exact key)
        · exfalso; omega
    · exfalso; omega

def beMs (j : Nat) (s : Int × zkM) : Int × zkM := (s.1 + (beMk s.2).1, (beMk s.2).2)
def beMks (m : zkM) (u : Int) : Int × zkM := lp beMs u.toNat (0, m)
theorem beMs_7 (m : zkM) (n : Nat) : (lp beMs n (0, m)).2 0 0 7 = m 0 0 7 + n := by
  refine lp_inv (fun (j : Nat) (s : Int × zkM) => s.2 0 0 7 = m 0 0 7 + j) beMs n (0, m) (by dsimp only; omega) (fun j s _ hI => ?_)
  unfold beMs
  dsimp only
  rw [beMk_7]
  omega
set_option maxRecDepth 10000 in
theorem c_beMks {l : Launch} {G : zkG} {mem : zkM} (hl : l.stackTraces = false) {u : Int} (h7 : 0 ≤ mem 0 0 7 ∧ mem 0 0 7 + u ≤ 400) (hu : 1 ≤ u ∧ u ≤ 100) (hO : ∀ j : Nat, (j : Int) < u → beOk (lp beMs j (0, mem)).2) : zkCt l G i_Be_makeUnits 5 0 0 [vr 0 0, vi u] mem (zkR1 (vi (beMks mem u).1) (beMks mem u).2) := by
  refine zkCt_of hl ok_Be_makeUnits (by decide +kernel) rfl rfl (List.forall_mem_cons.mpr ⟨rfl, (List.forall_mem_cons.mpr ⟨rfl, fun _ h => nomatch h⟩)⟩) (Nat.le_of_ble_eq_true rfl) ?_
  refine m_iconst rfl rfl ?_
  refine m_istore_n rfl rfl (Nat.le_of_ble_eq_true rfl) rfl ?_
  refine m_iconst rfl rfl ?_
  refine m_istore_n rfl rfl (Nat.le_of_ble_eq_true rfl) rfl ?_
  refine zk_loop (P := fun (j : Nat) (s : Int × zkM) => zkW l G i_Be_makeUnits _ 0 0 4 [some (vr 0 0), some (vi u), some (vi s.1), some (vi j)] [] s.2) (I := fun j s => s = lp beMs j (0, mem)) beMs u.toNat (0, mem) rfl (fun j s _ hI => by rw [hI]; rfl) (fun j s hj hI hk => ?_) (fun _ => ?_)
  · have e7 := beMs_7 mem j
    rw [← hI] at e7
    have hp := hO j (by omega)
    rw [← hI] at hp
    refine m_iload_n rfl rfl rfl ?_
    refine m_iload_n rfl rfl rfl ?_
    refine m_icmp_ge (tgt := 32) rfl rfl rfl (by omega) (by omega) (fun c6 => ?_) (fun c6 => ?_)
    · exfalso; omega
    · refine m_aload_n rfl rfl rfl ?_
      refine m_gix (k := 7) (x := s.2 0 _ 7) rfl rfl (Nat.le_of_ble_eq_true rfl) rfl rfl (by first | decide | assumption | (simp only [cnt]; omega)) (by first | rfl | (repeat (first | rw [ms_s] | rw [ms_t (by decide)] | rw [ms_k (by decide)]))) ?_
      refine m_sipush rfl rfl (by decide) ?_
      refine m_icmp_ge (tgt := 32) rfl rfl rfl (by omega) (by omega) (fun c16 => ?_) (fun c16 => ?_)
      · exfalso; omega
      · refine m_iload_n rfl rfl rfl ?_
        refine m_aload_n rfl rfl rfl ?_
        refine m_cv1 rfl rfl lk_0_108 (c_beMk hl hp) rfl (by first | decide | assumption | (simp only [cnt]; omega)) (Nat.le_of_ble_eq_true rfl) rfl rfl (Nat.le_of_ble_eq_true rfl) (Nat.le_of_ble_eq_true rfl) (Nat.le_of_ble_eq_true rfl) (Nat.le_of_ble_eq_true rfl) (Nat.le_of_ble_eq_true rfl) ?_
        refine m_iadd rfl rfl ?_
        refine m_istore_n rfl rfl (Nat.le_of_ble_eq_true rfl) rfl ?_
        refine m_iinc rfl rfl rfl (Nat.le_of_ble_eq_true rfl) rfl ?_
        refine m_goto (tgt := 4) rfl rfl rfl ?_
        exact hk
  · refine m_iload_n rfl rfl rfl ?_
    refine m_iload_n rfl rfl rfl ?_
    refine m_icmp_ge (tgt := 32) rfl rfl rfl (by omega) (by omega) (fun c6 => ?_) (fun c6 => ?_)
    · refine m_iload_n rfl rfl rfl ?_
      refine m_iret rfl rfl rfl (Nat.le_of_ble_eq_true rfl) (Nat.le_of_ble_eq_true rfl) ?_
      exact ⟨rfl, rfl⟩
    · exfalso; omega

