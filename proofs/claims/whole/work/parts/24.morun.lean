/-! the reference: a unit -/
def moV1 (m : zkM) : zkM := if m 7 0 20 = 0 then mset (mset (mset m 7 0 20 1) 7 0 21 (m 7 0 11)) 7 0 22 0 else m
def moV2 (m : zkM) : zkM := mset (mset (moV1 m) 7 0 19 (m 7 0 19 - 1)) 7 0 22 (moV1 m 7 0 22 + 1)
def moV3 (m : zkM) (r : Nat) : zkM := mset (moV2 m) 41 0 r (m 41 0 r - 1)
def moServe (m : zkM) (r : Nat) : zkM := mset (moV3 m r) 42 0 r (if m 41 0 r - 1 = 0 then m 7 0 11 + 1 else -1)
set_option maxRecDepth 10000 in
theorem c_morunServer {l : Launch} {G : zkG} {mem : zkM} (hl : l.stackTraces = false) (hQ : moQ0 mem) (hc : 0 ≤ mem 7 0 11 ∧ mem 7 0 11 ≤ 400) (hb : inR (mem 7 0 20)) (hq : 0 ≤ moFq mem (mem 7 0 11 + 1)) (hlf : ∀ r, r < 12 → 0 ≤ mem 41 0 r ∧ mem 41 0 r ≤ 100) : zkCt l G i_Mo_runServer 1 0 0 [vr 7 0] mem (zkR0 (moServe mem (moFq mem (mem 7 0 11 + 1)).toNat)) := by
  refine zkCt_of hl ok_Mo_runServer (by decide +kernel) rfl rfl (List.forall_mem_cons.mpr ⟨rfl, fun _ h => nomatch h⟩) (Nat.le_of_ble_eq_true rfl) ?_
  have hfq := moFq_b mem (mem 7 0 11 + 1)
  have hq9 := hQ.1
  have hlf2 := hlf (moFq mem (mem 7 0 11 + 1)).toNat (by omega)
  refine m_aload_n rfl rfl rfl ?_
  refine m_gix (k := 20) (x := mem 7 _ 20) rfl rfl (Nat.le_of_ble_eq_true rfl) rfl rfl (by first | decide | assumption | (simp only [cnt]; omega)) rfl ?_
  refine m_if_ne (tgt := 25) rfl rfl rfl (by omega) (fun c4 => ?_) (fun c4 => ?_)
  · refine m_aload_n rfl rfl rfl ?_
    refine m_dup rfl rfl rfl ?_
    refine m_gix (k := 19) (x := mem 7 _ 19) rfl rfl (Nat.le_of_ble_eq_true rfl) rfl rfl (by first | decide | assumption | (simp only [cnt]; omega)) rfl ?_
    refine m_iconst rfl rfl ?_
    refine m_isub rfl rfl ?_
    refine m_pi (k := 19) rfl rfl (Nat.le_of_ble_eq_true rfl) rfl rfl rfl rfl (by first | decide | assumption | (simp only [cnt]; omega)) ?_
    refine m_aload_n rfl rfl rfl ?_
    refine m_dup rfl rfl rfl ?_
    refine m_gix (k := 22) (x := mem 7 _ 22) rfl rfl (Nat.le_of_ble_eq_true rfl) rfl rfl (by first | decide | assumption | (simp only [cnt]; omega)) rfl ?_
    refine m_iconst rfl rfl ?_
    refine m_iadd rfl rfl ?_
    refine m_pi (k := 22) rfl rfl (Nat.le_of_ble_eq_true rfl) rfl rfl rfl rfl (by first | decide | assumption | (simp only [cnt]; omega)) ?_
    refine m_aload_n rfl rfl rfl ?_
    refine m_aload_n rfl rfl rfl ?_
    refine m_gix (k := 11) (x := mem 7 _ 11) rfl rfl (Nat.le_of_ble_eq_true rfl) rfl rfl (by first | decide | assumption | (simp only [cnt]; omega)) rfl ?_
    refine m_iconst rfl rfl ?_
    refine m_iadd rfl rfl ?_
    refine m_cv1 rfl rfl lk_7_174 (show zkCt l G i_Mo_firstRequest _ 0 0 _ _ (zkR1 (vi (moFq mem (mem 7 0 11 + 1))) _) from c_firstRequest hl (show moQ0 _ from hQ) (by omega)) rfl (by first | decide | assumption | (simp only [cnt]; omega)) (Nat.le_of_ble_eq_true rfl) rfl rfl (Nat.le_of_ble_eq_true rfl) (Nat.le_of_ble_eq_true rfl) (Nat.le_of_ble_eq_true rfl) (Nat.le_of_ble_eq_true rfl) (Nat.le_of_ble_eq_true rfl) ?_
    refine m_istore_n rfl rfl (Nat.le_of_ble_eq_true rfl) rfl ?_
    refine m_aload_n rfl rfl rfl ?_
    refine m_gr (k := 23) rfl rfl (Nat.le_of_ble_eq_true rfl) rfl rfl (by first | decide | assumption | (simp only [cnt]; omega)) ?_
    refine m_iload_n rfl rfl rfl ?_
    refine m_dup2 rfl rfl rfl rfl ?_
    refine m_ialx (n := (moFq mem (mem 7 0 11 + 1)).toNat) (y := mem 41 _ ((moFq mem (mem 7 0 11 + 1)).toNat)) rfl rfl (Nat.le_of_ble_eq_true rfl) rfl (by first | decide | assumption | (simp only [cnt]; omega)) (by omega) (by simp only [aln]; omega) rfl ?_
    refine m_iconst rfl rfl ?_
    refine m_isub rfl rfl ?_
    refine m_iasn (n := (moFq mem (mem 7 0 11 + 1)).toNat) rfl rfl (Nat.le_of_ble_eq_true rfl) rfl (by first | decide | assumption | (simp only [cnt]; omega)) (by omega) (by simp only [aln]; omega) ?_
    refine m_aload_n rfl rfl rfl ?_
    refine m_gr (k := 24) rfl rfl (Nat.le_of_ble_eq_true rfl) rfl rfl (by first | decide | assumption | (simp only [cnt]; omega)) ?_
    refine m_iload_n rfl rfl rfl ?_
    refine m_aload_n rfl rfl rfl ?_
    refine m_gr (k := 23) rfl rfl (Nat.le_of_ble_eq_true rfl) rfl rfl (by first | decide | assumption | (simp only [cnt]; omega)) ?_
    refine m_iload_n rfl rfl rfl ?_
    refine m_ialn (n := (moFq mem (mem 7 0 11 + 1)).toNat) rfl rfl (Nat.le_of_ble_eq_true rfl) rfl (by first | decide | assumption | (simp only [cnt]; omega)) (by omega) (by simp only [aln]; omega) ?_
    rw [ms_s]
    refine m_if_ne (tgt := 89) rfl rfl rfl (by omega) (fun c77 => ?_) (fun c77 => ?_)
    · refine m_iconst rfl rfl ?_
      refine m_iasn (n := (moFq mem (mem 7 0 11 + 1)).toNat) rfl rfl (Nat.le_of_ble_eq_true rfl) rfl (by first | decide | assumption | (simp only [cnt]; omega)) (by omega) (by simp only [aln]; omega) ?_
      refine m_vret rfl rfl rfl (Nat.le_of_ble_eq_true rfl) (Nat.le_of_ble_eq_true rfl) ?_
      refine ⟨rfl, ?_⟩
      unfold moServe moV3 moV2 moV1
      first | (rw [if_pos (show mem 7 0 20 = 0 by omega)]; first | (rw [if_pos (by omega)] <;> rfl) | (rw [if_neg (by omega)] <;> rfl)) | (rw [if_neg (show ¬ mem 7 0 20 = 0 by omega)]; first | (rw [if_pos (by omega)] <;> rfl) | (rw [if_neg (by omega)] <;> rfl))
    · refine m_aload_n rfl rfl rfl ?_
      refine m_gix (k := 11) (x := mem 7 _ 11) rfl rfl (Nat.le_of_ble_eq_true rfl) rfl rfl (by first | decide | assumption | (simp only [cnt]; omega)) rfl ?_
      refine m_iconst rfl rfl ?_
      refine m_iadd rfl rfl ?_
      refine m_goto (tgt := 90) rfl rfl rfl ?_
      refine m_iasn (n := (moFq mem (mem 7 0 11 + 1)).toNat) rfl rfl (Nat.le_of_ble_eq_true rfl) rfl (by first | decide | assumption | (simp only [cnt]; omega)) (by omega) (by simp only [aln]; omega) ?_
      refine m_vret rfl rfl rfl (Nat.le_of_ble_eq_true rfl) (Nat.le_of_ble_eq_true rfl) ?_
      refine ⟨rfl, ?_⟩
      unfold moServe moV3 moV2 moV1
      first | (rw [if_pos (show mem 7 0 20 = 0 by omega)]; first | (rw [if_pos (by omega)] <;> rfl) | (rw [if_neg (by omega)] <;> rfl)) | (rw [if_neg (show ¬ mem 7 0 20 = 0 by omega)]; first | (rw [if_pos (by omega)] <;> rfl) | (rw [if_neg (by omega)] <;> rfl))
  · refine m_aload_n rfl rfl rfl ?_
    refine m_iconst rfl rfl ?_
    refine m_pi (k := 20) rfl rfl (Nat.le_of_ble_eq_true rfl) rfl rfl rfl rfl (by first | decide | assumption | (simp only [cnt]; omega)) ?_
    refine m_aload_n rfl rfl rfl ?_
    refine m_aload_n rfl rfl rfl ?_
    refine m_gix (k := 11) (x := mem 7 _ 11) rfl rfl (Nat.le_of_ble_eq_true rfl) rfl rfl (by first | decide | assumption | (simp only [cnt]; omega)) rfl ?_
    refine m_pi (k := 21) rfl rfl (Nat.le_of_ble_eq_true rfl) rfl rfl rfl rfl (by first | decide | assumption | (simp only [cnt]; omega)) ?_
    refine m_aload_n rfl rfl rfl ?_
    refine m_iconst rfl rfl ?_
    refine m_pi (k := 22) rfl rfl (Nat.le_of_ble_eq_true rfl) rfl rfl rfl rfl (by first | decide | assumption | (simp only [cnt]; omega)) ?_
    refine m_aload_n rfl rfl rfl ?_
    refine m_dup rfl rfl rfl ?_
    refine m_gix (k := 19) (x := mem 7 _ 19) rfl rfl (Nat.le_of_ble_eq_true rfl) rfl rfl (by first | decide | assumption | (simp only [cnt]; omega)) rfl ?_
    refine m_iconst rfl rfl ?_
    refine m_isub rfl rfl ?_
    refine m_pi (k := 19) rfl rfl (Nat.le_of_ble_eq_true rfl) rfl rfl rfl rfl (by first | decide | assumption | (simp only [cnt]; omega)) ?_
    refine m_aload_n rfl rfl rfl ?_
    refine m_dup rfl rfl rfl ?_
    refine m_gix (k := 22) (x := 0) rfl rfl (Nat.le_of_ble_eq_true rfl) rfl rfl (by first | decide | assumption | (simp only [cnt]; omega)) rfl ?_
    refine m_iconst rfl rfl ?_
    refine m_iadd rfl rfl ?_
    refine m_pi (k := 22) rfl rfl (Nat.le_of_ble_eq_true rfl) rfl rfl rfl rfl (by first | decide | assumption | (simp only [cnt]; omega)) ?_
    refine m_aload_n rfl rfl rfl ?_
    refine m_aload_n rfl rfl rfl ?_
    refine m_gix (k := 11) (x := mem 7 _ 11) rfl rfl (Nat.le_of_ble_eq_true rfl) rfl rfl (by first | decide | assumption | (simp only [cnt]; omega)) rfl ?_
    refine m_iconst rfl rfl ?_
    refine m_iadd rfl rfl ?_
    refine m_cv1 rfl rfl lk_7_174 (show zkCt l G i_Mo_firstRequest _ 0 0 _ _ (zkR1 (vi (moFq mem (mem 7 0 11 + 1))) _) from c_firstRequest hl (show moQ0 _ from hQ) (by omega)) rfl (by first | decide | assumption | (simp only [cnt]; omega)) (Nat.le_of_ble_eq_true rfl) rfl rfl (Nat.le_of_ble_eq_true rfl) (Nat.le_of_ble_eq_true rfl) (Nat.le_of_ble_eq_true rfl) (Nat.le_of_ble_eq_true rfl) (Nat.le_of_ble_eq_true rfl) ?_
    refine m_istore_n rfl rfl (Nat.le_of_ble_eq_true rfl) rfl ?_
    refine m_aload_n rfl rfl rfl ?_
    refine m_gr (k := 23) rfl rfl (Nat.le_of_ble_eq_true rfl) rfl rfl (by first | decide | assumption | (simp only [cnt]; omega)) ?_
    refine m_iload_n rfl rfl rfl ?_
    refine m_dup2 rfl rfl rfl rfl ?_
    refine m_ialx (n := (moFq mem (mem 7 0 11 + 1)).toNat) (y := mem 41 _ ((moFq mem (mem 7 0 11 + 1)).toNat)) rfl rfl (Nat.le_of_ble_eq_true rfl) rfl (by first | decide | assumption | (simp only [cnt]; omega)) (by omega) (by simp only [aln]; omega) rfl ?_
    refine m_iconst rfl rfl ?_
    refine m_isub rfl rfl ?_
    refine m_iasn (n := (moFq mem (mem 7 0 11 + 1)).toNat) rfl rfl (Nat.le_of_ble_eq_true rfl) rfl (by first | decide | assumption | (simp only [cnt]; omega)) (by omega) (by simp only [aln]; omega) ?_
    refine m_aload_n rfl rfl rfl ?_
    refine m_gr (k := 24) rfl rfl (Nat.le_of_ble_eq_true rfl) rfl rfl (by first | decide | assumption | (simp only [cnt]; omega)) ?_
    refine m_iload_n rfl rfl rfl ?_
    refine m_aload_n rfl rfl rfl ?_
    refine m_gr (k := 23) rfl rfl (Nat.le_of_ble_eq_true rfl) rfl rfl (by first | decide | assumption | (simp only [cnt]; omega)) ?_
    refine m_iload_n rfl rfl rfl ?_
    refine m_ialn (n := (moFq mem (mem 7 0 11 + 1)).toNat) rfl rfl (Nat.le_of_ble_eq_true rfl) rfl (by first | decide | assumption | (simp only [cnt]; omega)) (by omega) (by simp only [aln]; omega) ?_
    rw [ms_s]
    refine m_if_ne (tgt := 89) rfl rfl rfl (by omega) (fun c77 => ?_) (fun c77 => ?_)
    · refine m_iconst rfl rfl ?_
      refine m_iasn (n := (moFq mem (mem 7 0 11 + 1)).toNat) rfl rfl (Nat.le_of_ble_eq_true rfl) rfl (by first | decide | assumption | (simp only [cnt]; omega)) (by omega) (by simp only [aln]; omega) ?_
      refine m_vret rfl rfl rfl (Nat.le_of_ble_eq_true rfl) (Nat.le_of_ble_eq_true rfl) ?_
      refine ⟨rfl, ?_⟩
      unfold moServe moV3 moV2 moV1
      first | (rw [if_pos (show mem 7 0 20 = 0 by omega)]; first | (rw [if_pos (by omega)] <;> rfl) | (rw [if_neg (by omega)] <;> rfl)) | (rw [if_neg (show ¬ mem 7 0 20 = 0 by omega)]; first | (rw [if_pos (by omega)] <;> rfl) | (rw [if_neg (by omega)] <;> rfl))
    · refine m_aload_n rfl rfl rfl ?_
      refine m_gix (k := 11) (x := mem 7 _ 11) rfl rfl (Nat.le_of_ble_eq_true rfl) rfl rfl (by first | decide | assumption | (simp only [cnt]; omega)) rfl ?_
      refine m_iconst rfl rfl ?_
      refine m_iadd rfl rfl ?_
      refine m_goto (tgt := 90) rfl rfl rfl ?_
      refine m_iasn (n := (moFq mem (mem 7 0 11 + 1)).toNat) rfl rfl (Nat.le_of_ble_eq_true rfl) rfl (by first | decide | assumption | (simp only [cnt]; omega)) (by omega) (by simp only [aln]; omega) ?_
      refine m_vret rfl rfl rfl (Nat.le_of_ble_eq_true rfl) (Nat.le_of_ble_eq_true rfl) ?_
      refine ⟨rfl, ?_⟩
      unfold moServe moV3 moV2 moV1
      first | (rw [if_pos (show mem 7 0 20 = 0 by omega)]; first | (rw [if_pos (by omega)] <;> rfl) | (rw [if_neg (by omega)] <;> rfl)) | (rw [if_neg (show ¬ mem 7 0 20 = 0 by omega)]; first | (rw [if_pos (by omega)] <;> rfl) | (rw [if_neg (by omega)] <;> rfl))

def moJ1 (m : zkM) (t : Nat) : zkM := mset m 37 0 t (m 37 0 t + 1)
def moRsp (m : zkM) (t : Nat) : Int := m 7 0 11 + 1 - m 35 0 (401 * t)
def moJ2 (m : zkM) (t : Nat) : zkM := mset (moJ1 m t) 39 0 (6 * t) (m 39 0 (6 * t) + 1)
def moJ3 (m : zkM) (t : Nat) : zkM := mset (moJ2 m t) 39 0 (6 * t + 5) (max (moJ2 m t 39 0 (6 * t + 5)) (moRsp m t))
def moJ4 (m : zkM) (t : Nat) : zkM := mset (moJ3 m t) 40 0 t (m 40 0 t + moRsp m t)
def moRJ (m : zkM) (t : Nat) : Int × zkM := if m 37 0 t + 1 < moDe m t then (0, moJ1 m t) else (1, moTJ (moJ4 m t) t 0)
set_option maxRecDepth 10000 in
theorem c_morunJob {l : Launch} {G : zkG} {mem : zkM} (hl : l.stackTraces = false) {x : Int} {t : Nat} (hA : moA mem) (hx : x = t) (ht : t < 5) (hc : 0 ≤ mem 7 0 11 ∧ mem 7 0 11 ≤ 400) (hp : 0 ≤ mem 37 0 t ∧ mem 37 0 t ≤ 100000) (h0 : 0 ≤ mem 35 0 (401 * t) ∧ mem 35 0 (401 * t) ≤ 400) (hr : inR (mem 39 0 (6 * t + 5))) (hj : 0 < mem 36 0 t ∧ mem 36 0 t ≤ 401) : zkCt l G i_Mo_runJob 2 0 0 [vr 7 0, vi x] mem (zkR1 (vi (moRJ mem t).1) (moRJ mem t).2) := by
  refine zkCt_of hl ok_Mo_runJob (by decide +kernel) rfl rfl (List.forall_mem_cons.mpr ⟨rfl, (List.forall_mem_cons.mpr ⟨rfl, fun _ h => nomatch h⟩)⟩) (Nat.le_of_ble_eq_true rfl) ?_
  subst hx
  have hde := moDe_b hA ht
  refine m_aload_n rfl rfl rfl ?_
  refine m_gr (k := 15) rfl rfl (Nat.le_of_ble_eq_true rfl) rfl rfl (by first | decide | assumption | (simp only [cnt]; omega)) ?_
  refine m_iload_n rfl rfl rfl ?_
  refine m_dup2 rfl rfl rfl rfl ?_
  refine m_ialx (n := t) (y := mem 37 _ (t)) rfl rfl (Nat.le_of_ble_eq_true rfl) rfl (by first | decide | assumption | (simp only [cnt]; omega)) (by omega) (by simp only [aln]; omega) rfl ?_
  refine m_iconst rfl rfl ?_
  refine m_iadd rfl rfl ?_
  refine m_iasn (n := t) rfl rfl (Nat.le_of_ble_eq_true rfl) rfl (by first | decide | assumption | (simp only [cnt]; omega)) (by omega) (by simp only [aln]; omega) ?_
  refine m_aload_n rfl rfl rfl ?_
  refine m_gr (k := 15) rfl rfl (Nat.le_of_ble_eq_true rfl) rfl rfl (by first | decide | assumption | (simp only [cnt]; omega)) ?_
  refine m_iload_n rfl rfl rfl ?_
  refine m_ialn (n := t) rfl rfl (Nat.le_of_ble_eq_true rfl) rfl (by first | decide | assumption | (simp only [cnt]; omega)) (by omega) (by simp only [aln]; omega) ?_
  rw [ms_s]
  refine m_aload_n rfl rfl rfl ?_
  refine m_iload_n rfl rfl rfl ?_
  refine m_cv1 rfl rfl lk_7_131 (show zkCt l G i_Mo_demandOf _ 0 0 _ _ (zkR1 (vi (moDe mem t)) _) from c_demandOf hl (show moA _ from hA) (i := t) rfl (by omega)) rfl (by first | decide | assumption | (simp only [cnt]; omega)) (Nat.le_of_ble_eq_true rfl) rfl rfl (Nat.le_of_ble_eq_true rfl) (Nat.le_of_ble_eq_true rfl) (Nat.le_of_ble_eq_true rfl) (Nat.le_of_ble_eq_true rfl) (Nat.le_of_ble_eq_true rfl) ?_
  refine m_icmp_ge (tgt := 26) rfl rfl rfl (by omega) (by omega) (fun c21 => ?_) (fun c21 => ?_)
  · refine m_aload_n rfl rfl rfl ?_
    refine m_gix (k := 11) (x := mem 7 _ 11) rfl rfl (Nat.le_of_ble_eq_true rfl) rfl rfl (by first | decide | assumption | (simp only [cnt]; omega)) rfl ?_
    refine m_iconst rfl rfl ?_
    refine m_iadd rfl rfl ?_
    refine m_aload_n rfl rfl rfl ?_
    refine m_gr (k := 13) rfl rfl (Nat.le_of_ble_eq_true rfl) rfl rfl (by first | decide | assumption | (simp only [cnt]; omega)) ?_
    refine m_sipush rfl rfl (by decide) ?_
    refine m_iload_n rfl rfl rfl ?_
    refine m_imul rfl rfl ?_
    refine m_ialx (n := 401 * t) (y := mem 35 _ (401 * t)) rfl rfl (Nat.le_of_ble_eq_true rfl) rfl (by first | decide | assumption | (simp only [cnt]; omega)) (by omega) (by simp only [aln]; omega) rfl ?_
    refine m_isub rfl rfl ?_
    refine m_istore_n rfl rfl (Nat.le_of_ble_eq_true rfl) rfl ?_
    refine m_aload_n rfl rfl rfl ?_
    refine m_gr (k := 17) rfl rfl (Nat.le_of_ble_eq_true rfl) rfl rfl (by first | decide | assumption | (simp only [cnt]; omega)) ?_
    refine m_bipush rfl rfl (by decide) ?_
    refine m_iload_n rfl rfl rfl ?_
    refine m_imul rfl rfl ?_
    refine m_dup2 rfl rfl rfl rfl ?_
    refine m_ialx (n := 6 * t) (y := mem 39 _ (6 * t)) rfl rfl (Nat.le_of_ble_eq_true rfl) rfl (by first | decide | assumption | (simp only [cnt]; omega)) (by omega) (by simp only [aln]; omega) rfl ?_
    refine m_iconst rfl rfl ?_
    refine m_iadd rfl rfl ?_
    refine m_iasn (n := 6 * t) rfl rfl (Nat.le_of_ble_eq_true rfl) rfl (by first | decide | assumption | (simp only [cnt]; omega)) (by omega) (by simp only [aln]; omega) ?_
    refine m_aload_n rfl rfl rfl ?_
    refine m_gr (k := 17) rfl rfl (Nat.le_of_ble_eq_true rfl) rfl rfl (by first | decide | assumption | (simp only [cnt]; omega)) ?_
    refine m_bipush rfl rfl (by decide) ?_
    refine m_iload_n rfl rfl rfl ?_
    refine m_imul rfl rfl ?_
    refine m_iconst rfl rfl ?_
    refine m_iadd rfl rfl ?_
    refine m_aload_n rfl rfl rfl ?_
    refine m_gr (k := 17) rfl rfl (Nat.le_of_ble_eq_true rfl) rfl rfl (by first | decide | assumption | (simp only [cnt]; omega)) ?_
    refine m_bipush rfl rfl (by decide) ?_
    refine m_iload_n rfl rfl rfl ?_
    refine m_imul rfl rfl ?_
    refine m_iconst rfl rfl ?_
    refine m_iadd rfl rfl ?_
    refine m_ialn (n := 6 * t + 5) rfl rfl (Nat.le_of_ble_eq_true rfl) rfl (by first | decide | assumption | (simp only [cnt]; omega)) (by omega) (by simp only [aln]; omega) ?_
    refine m_iload_n rfl rfl rfl ?_
    refine m_max rfl rfl (by decide +kernel) (by rw [ms_k (by omega)]; exact hr) (by omega) (Nat.le_of_ble_eq_true rfl) (Nat.le_of_ble_eq_true rfl) (Nat.le_of_ble_eq_true rfl) (Nat.le_of_ble_eq_true rfl) ?_
    refine m_iasn (n := 6 * t + 5) rfl rfl (Nat.le_of_ble_eq_true rfl) rfl (by first | decide | assumption | (simp only [cnt]; omega)) (by omega) (by simp only [aln]; omega) ?_
    refine m_aload_n rfl rfl rfl ?_
    refine m_gr (k := 18) rfl rfl (Nat.le_of_ble_eq_true rfl) rfl rfl (by first | decide | assumption | (simp only [cnt]; omega)) ?_
    refine m_iload_n rfl rfl rfl ?_
    refine m_dup2 rfl rfl rfl rfl ?_
    refine m_ialx (n := t) (y := mem 40 _ (t)) rfl rfl (Nat.le_of_ble_eq_true rfl) rfl (by first | decide | assumption | (simp only [cnt]; omega)) (by omega) (by simp only [aln]; omega) rfl ?_
    refine m_iload_n rfl rfl rfl ?_
    refine m_iadd rfl rfl ?_
    refine m_iasn (n := t) rfl rfl (Nat.le_of_ble_eq_true rfl) rfl (by first | decide | assumption | (simp only [cnt]; omega)) (by omega) (by simp only [aln]; omega) ?_
    refine m_aload_n rfl rfl rfl ?_
    refine m_iload_n rfl rfl rfl ?_
    refine m_iconst rfl rfl ?_
    refine m_cv0 rfl rfl lk_7_163 (c_motakeJob hl (t := t) (ix := 0) rfl rfl (by omega) (show ((0 : Nat) : Int) < mem 36 0 t ∧ mem 36 0 t ≤ 401 by omega)) rfl (by first | decide | assumption | (simp only [cnt]; omega)) (Nat.le_of_ble_eq_true rfl) rfl rfl (Nat.le_of_ble_eq_true rfl) (Nat.le_of_ble_eq_true rfl) (Nat.le_of_ble_eq_true rfl) (Nat.le_of_ble_eq_true rfl) (Nat.le_of_ble_eq_true rfl) ?_
    refine m_iconst rfl rfl ?_
    refine m_iret rfl rfl rfl (Nat.le_of_ble_eq_true rfl) (Nat.le_of_ble_eq_true rfl) ?_
    unfold moRJ
    rw [if_neg (by omega)]
    exact ⟨rfl, rfl⟩
  · refine m_iconst rfl rfl ?_
    refine m_iret rfl rfl rfl (Nat.le_of_ble_eq_true rfl) (Nat.le_of_ble_eq_true rfl) ?_
    unfold moRJ
    rw [if_pos (by omega)]
    exact ⟨rfl, rfl⟩

def moBf2 (m : zkM) : Int := if m 7 0 11 = 0 then -1 else m 34 0 (m 7 0 11 - 1).toNat
def moPre (m : zkM) (now : Int) : zkM := if (0 ≤ moBf2 m ∧ moBf2 m ≤ m 7 0 2 - 1) ∧ moBf2 m ≠ now ∧ 0 < m 37 0 (moBf2 m).toNat then mset m 39 0 (6 * (moBf2 m).toNat + 4) (m 39 0 (6 * (moBf2 m).toNat + 4) + 1) else m
set_option maxRecDepth 10000 in
theorem c_mocountPre {l : Launch} {G : zkG} {mem : zkM} (hl : l.stackTraces = false) {x : Int} (hm : 0 ≤ mem 7 0 2 ∧ mem 7 0 2 ≤ 5) (hx : inR x) (hc : 0 ≤ mem 7 0 11 ∧ mem 7 0 11 ≤ 400) (hr : ∀ k, k < 400 → inR (mem 34 0 k)) (hp : ∀ t, t < 5 → inR (mem 37 0 t)) : zkCt l G i_Mo_countPreemption 2 0 0 [vr 7 0, vi x] mem (zkR0 (moPre mem x)) := by
  refine zkCt_of hl ok_Mo_countPreemption (by decide +kernel) rfl rfl (List.forall_mem_cons.mpr ⟨rfl, (List.forall_mem_cons.mpr ⟨rfl, fun _ h => nomatch h⟩)⟩) (Nat.le_of_ble_eq_true rfl) ?_
  refine m_aload_n rfl rfl rfl ?_
  refine m_gix (k := 11) (x := mem 7 _ 11) rfl rfl (Nat.le_of_ble_eq_true rfl) rfl rfl (by first | decide | assumption | (simp only [cnt]; omega)) rfl ?_
  refine m_if_ne (tgt := 11) rfl rfl rfl (by omega) (fun c4 => ?_) (fun c4 => ?_)
  · have e9 : moBf2 mem = mem 34 0 (mem 7 0 11 - 1).toNat := if_neg c4
    have e8 := hr (mem 7 0 11 - 1).toNat (by omega)
    refine m_aload_n rfl rfl rfl ?_
    refine m_gr (k := 12) rfl rfl (Nat.le_of_ble_eq_true rfl) rfl rfl (by first | decide | assumption | (simp only [cnt]; omega)) ?_
    refine m_aload_n rfl rfl rfl ?_
    refine m_gix (k := 11) (x := mem 7 _ 11) rfl rfl (Nat.le_of_ble_eq_true rfl) rfl rfl (by first | decide | assumption | (simp only [cnt]; omega)) rfl ?_
    refine m_iconst rfl rfl ?_
    refine m_isub rfl rfl ?_
    refine m_ialx (n := (mem 7 0 11 - 1).toNat) (y := mem 34 _ ((mem 7 0 11 - 1).toNat)) rfl rfl (Nat.le_of_ble_eq_true rfl) rfl (by first | decide | assumption | (simp only [cnt]; omega)) (by omega) (by simp only [aln]; omega) rfl ?_
    refine m_istore_n rfl rfl (Nat.le_of_ble_eq_true rfl) rfl ?_
    refine m_aload_n rfl rfl rfl ?_
    refine m_iload_n rfl rfl rfl ?_
    refine m_cv1 rfl rfl lk_7_121 (c_isTask hl (by omega) (by omega)) rfl (by first | decide | assumption | (simp only [cnt]; omega)) (Nat.le_of_ble_eq_true rfl) rfl rfl (Nat.le_of_ble_eq_true rfl) (Nat.le_of_ble_eq_true rfl) (Nat.le_of_ble_eq_true rfl) (Nat.le_of_ble_eq_true rfl) (Nat.le_of_ble_eq_true rfl) ?_
    refine m_if_eq_d (tgt := 60) rfl rfl rfl (fun c28 => ?_) (fun c28 => ?_)
    · refine m_vret rfl rfl rfl (Nat.le_of_ble_eq_true rfl) (Nat.le_of_ble_eq_true rfl) ?_
      refine ⟨rfl, ?_⟩
      unfold moPre
      first | (exfalso; omega) | (rw [if_neg (by omega)] <;> rfl) | (rw [if_pos (by omega)] <;> rfl)
    · have e7 := hp (moBf2 mem).toNat (by omega)
      refine m_iload_n rfl rfl rfl ?_
      refine m_iload_n rfl rfl rfl ?_
      refine m_icmp_eq (tgt := 60) rfl rfl rfl (by omega) (by omega) (fun c33 => ?_) (fun c33 => ?_)
      · refine m_vret rfl rfl rfl (Nat.le_of_ble_eq_true rfl) (Nat.le_of_ble_eq_true rfl) ?_
        refine ⟨rfl, ?_⟩
        unfold moPre
        first | (exfalso; omega) | (rw [if_neg (by omega)] <;> rfl) | (rw [if_pos (by omega)] <;> rfl)
      · refine m_aload_n rfl rfl rfl ?_
        refine m_gr (k := 15) rfl rfl (Nat.le_of_ble_eq_true rfl) rfl rfl (by first | decide | assumption | (simp only [cnt]; omega)) ?_
        refine m_iload_n rfl rfl rfl ?_
        refine m_ialx (n := (moBf2 mem).toNat) (y := mem 37 _ ((moBf2 mem).toNat)) rfl rfl (Nat.le_of_ble_eq_true rfl) rfl (by first | decide | assumption | (simp only [cnt]; omega)) (by omega) (by simp only [aln]; omega) rfl ?_
        refine m_if_le (tgt := 60) rfl rfl rfl (by omega) (fun c42 => ?_) (fun c42 => ?_)
        · refine m_vret rfl rfl rfl (Nat.le_of_ble_eq_true rfl) (Nat.le_of_ble_eq_true rfl) ?_
          refine ⟨rfl, ?_⟩
          unfold moPre
          first | (exfalso; omega) | (rw [if_neg (by omega)] <;> rfl) | (rw [if_pos (by omega)] <;> rfl)
        · refine m_aload_n rfl rfl rfl ?_
          refine m_gr (k := 17) rfl rfl (Nat.le_of_ble_eq_true rfl) rfl rfl (by first | decide | assumption | (simp only [cnt]; omega)) ?_
          refine m_bipush rfl rfl (by decide) ?_
          refine m_iload_n rfl rfl rfl ?_
          refine m_imul rfl rfl ?_
          refine m_iconst rfl rfl ?_
          refine m_iadd rfl rfl ?_
          refine m_dup2 rfl rfl rfl rfl ?_
          refine m_ialx (n := 6 * (moBf2 mem).toNat + 4) (y := mem 39 _ (6 * (moBf2 mem).toNat + 4)) rfl rfl (Nat.le_of_ble_eq_true rfl) rfl (by first | decide | assumption | (simp only [cnt]; omega)) (by omega) (by simp only [aln]; omega) rfl ?_
          refine m_iconst rfl rfl ?_
          refine m_iadd rfl rfl ?_
          refine m_iasn (n := 6 * (moBf2 mem).toNat + 4) rfl rfl (Nat.le_of_ble_eq_true rfl) rfl (by first | decide | assumption | (simp only [cnt]; omega)) (by omega) (by simp only [aln]; omega) ?_
          refine m_vret rfl rfl rfl (Nat.le_of_ble_eq_true rfl) (Nat.le_of_ble_eq_true rfl) ?_
          refine ⟨rfl, ?_⟩
          unfold moPre
          first | (exfalso; omega) | (rw [if_neg (by omega)] <;> rfl) | (rw [if_pos (by omega)] <;> rfl)
  · have e9 : moBf2 mem = -1 := if_pos c4
    refine m_iconst rfl rfl ?_
    refine m_goto (tgt := 22) rfl rfl rfl ?_
    refine m_istore_n rfl rfl (Nat.le_of_ble_eq_true rfl) rfl ?_
    refine m_aload_n rfl rfl rfl ?_
    refine m_iload_n rfl rfl rfl ?_
    refine m_cv1 rfl rfl lk_7_121 (c_isTask hl (by omega) (by omega)) rfl (by first | decide | assumption | (simp only [cnt]; omega)) (Nat.le_of_ble_eq_true rfl) rfl rfl (Nat.le_of_ble_eq_true rfl) (Nat.le_of_ble_eq_true rfl) (Nat.le_of_ble_eq_true rfl) (Nat.le_of_ble_eq_true rfl) (Nat.le_of_ble_eq_true rfl) ?_
    refine m_if_eq_d (tgt := 60) rfl rfl rfl (fun c28 => ?_) (fun c28 => ?_)
    · refine m_vret rfl rfl rfl (Nat.le_of_ble_eq_true rfl) (Nat.le_of_ble_eq_true rfl) ?_
      refine ⟨rfl, ?_⟩
      unfold moPre
      first | (exfalso; omega) | (rw [if_neg (by omega)] <;> rfl) | (rw [if_pos (by omega)] <;> rfl)
    · have e7 := hp (moBf2 mem).toNat (by omega)
      refine m_iload_n rfl rfl rfl ?_
      refine m_iload_n rfl rfl rfl ?_
      refine m_icmp_eq (tgt := 60) rfl rfl rfl (by omega) (by omega) (fun c33 => ?_) (fun c33 => ?_)
      · refine m_vret rfl rfl rfl (Nat.le_of_ble_eq_true rfl) (Nat.le_of_ble_eq_true rfl) ?_
        refine ⟨rfl, ?_⟩
        unfold moPre
        first | (exfalso; omega) | (rw [if_neg (by omega)] <;> rfl) | (rw [if_pos (by omega)] <;> rfl)
      · refine m_aload_n rfl rfl rfl ?_
        refine m_gr (k := 15) rfl rfl (Nat.le_of_ble_eq_true rfl) rfl rfl (by first | decide | assumption | (simp only [cnt]; omega)) ?_
        refine m_iload_n rfl rfl rfl ?_
        refine m_ialx (n := (moBf2 mem).toNat) (y := mem 37 _ ((moBf2 mem).toNat)) rfl rfl (Nat.le_of_ble_eq_true rfl) rfl (by first | decide | assumption | (simp only [cnt]; omega)) (by omega) (by simp only [aln]; omega) rfl ?_
        refine m_if_le (tgt := 60) rfl rfl rfl (by omega) (fun c42 => ?_) (fun c42 => ?_)
        · refine m_vret rfl rfl rfl (Nat.le_of_ble_eq_true rfl) (Nat.le_of_ble_eq_true rfl) ?_
          refine ⟨rfl, ?_⟩
          unfold moPre
          first | (exfalso; omega) | (rw [if_neg (by omega)] <;> rfl) | (rw [if_pos (by omega)] <;> rfl)
        · refine m_aload_n rfl rfl rfl ?_
          refine m_gr (k := 17) rfl rfl (Nat.le_of_ble_eq_true rfl) rfl rfl (by first | decide | assumption | (simp only [cnt]; omega)) ?_
          refine m_bipush rfl rfl (by decide) ?_
          refine m_iload_n rfl rfl rfl ?_
          refine m_imul rfl rfl ?_
          refine m_iconst rfl rfl ?_
          refine m_iadd rfl rfl ?_
          refine m_dup2 rfl rfl rfl rfl ?_
          refine m_ialx (n := 6 * (moBf2 mem).toNat + 4) (y := mem 39 _ (6 * (moBf2 mem).toNat + 4)) rfl rfl (Nat.le_of_ble_eq_true rfl) rfl (by first | decide | assumption | (simp only [cnt]; omega)) (by omega) (by simp only [aln]; omega) rfl ?_
          refine m_iconst rfl rfl ?_
          refine m_iadd rfl rfl ?_
          refine m_iasn (n := 6 * (moBf2 mem).toNat + 4) rfl rfl (Nat.le_of_ble_eq_true rfl) rfl (by first | decide | assumption | (simp only [cnt]; omega)) (by omega) (by simp only [aln]; omega) ?_
          refine m_vret rfl rfl rfl (Nat.le_of_ble_eq_true rfl) (Nat.le_of_ble_eq_true rfl) ?_
          refine ⟨rfl, ?_⟩
          unfold moPre
          first | (exfalso; omega) | (rw [if_neg (by omega)] <;> rfl) | (rw [if_pos (by omega)] <;> rfl)

def moEB (m : zkM) : zkM := if m 7 0 20 = 1 ∧ moRb m (m 7 0 11) = false then mset (mset (mset (mset m 7 0 20 0) 43 0 (2 * (m 7 0 26).toNat) (max (m 7 0 21 + m 7 0 8) (m 7 0 11))) 43 0 (2 * (m 7 0 26).toNat + 1) (m 7 0 22)) 7 0 26 (m 7 0 26 + 1) else m
set_option maxRecDepth 10000 in
theorem c_moendBusy {l : Launch} {G : zkG} {mem : zkM} (hl : l.stackTraces = false) (hQ : moQ0 mem) (hc : 0 ≤ mem 7 0 11 ∧ mem 7 0 11 ≤ 400) (hb : inR (mem 7 0 20)) (h6 : inR (mem 7 0 6)) (h19 : inR (mem 7 0 19)) (h21 : 0 ≤ mem 7 0 21 ∧ mem 7 0 21 ≤ 1000) (h8 : 0 ≤ mem 7 0 8 ∧ mem 7 0 8 ≤ 1000) (h26 : 0 ≤ mem 7 0 26 ∧ mem 7 0 26 ≤ 399) : zkCt l G i_Mo_endBusy 2 0 0 [vr 7 0] mem (zkR0 (moEB mem)) := by
  refine zkCt_of hl ok_Mo_endBusy (by decide +kernel) rfl rfl (List.forall_mem_cons.mpr ⟨rfl, fun _ h => nomatch h⟩) (Nat.le_of_ble_eq_true rfl) ?_
  refine m_aload_n rfl rfl rfl ?_
  refine m_gix (k := 20) (x := mem 7 _ 20) rfl rfl (Nat.le_of_ble_eq_true rfl) rfl rfl (by first | decide | assumption | (simp only [cnt]; omega)) rfl ?_
  refine m_iconst rfl rfl ?_
  refine m_icmp_ne (tgt := 78) rfl rfl rfl (by omega) (by omega) (fun c5 => ?_) (fun c5 => ?_)
  · refine m_vret rfl rfl rfl (Nat.le_of_ble_eq_true rfl) (Nat.le_of_ble_eq_true rfl) ?_
    refine ⟨rfl, ?_⟩
    unfold moEB
    first | (rw [if_neg (by omega)] <;> rfl) | (rw [if_neg (by rw [c16]; rintro ⟨-, h⟩; cases h)] <;> rfl) | (rw [if_pos ⟨by omega, c16⟩] <;> rfl)
  · refine m_aload_n rfl rfl rfl ?_
    refine m_aload_n rfl rfl rfl ?_
    refine m_gix (k := 11) (x := mem 7 _ 11) rfl rfl (Nat.le_of_ble_eq_true rfl) rfl rfl (by first | decide | assumption | (simp only [cnt]; omega)) rfl ?_
    refine m_cv1 rfl rfl lk_7_177 (c_moisReady hl hQ (by omega) (by omega) (by omega)) rfl (by first | decide | assumption | (simp only [cnt]; omega)) (Nat.le_of_ble_eq_true rfl) rfl rfl (Nat.le_of_ble_eq_true rfl) (Nat.le_of_ble_eq_true rfl) (Nat.le_of_ble_eq_true rfl) (Nat.le_of_ble_eq_true rfl) (Nat.le_of_ble_eq_true rfl) ?_
    refine m_if_ne_b (tgt := 78) rfl rfl rfl (fun c16 => ?_) (fun c16 => ?_)
    · refine m_vret rfl rfl rfl (Nat.le_of_ble_eq_true rfl) (Nat.le_of_ble_eq_true rfl) ?_
      refine ⟨rfl, ?_⟩
      unfold moEB
      first | (rw [if_neg (by omega)] <;> rfl) | (rw [if_neg (by rw [c16]; rintro ⟨-, h⟩; cases h)] <;> rfl) | (rw [if_pos ⟨by omega, c16⟩] <;> rfl)
    · refine m_aload_n rfl rfl rfl ?_
      refine m_iconst rfl rfl ?_
      refine m_pi (k := 20) rfl rfl (Nat.le_of_ble_eq_true rfl) rfl rfl rfl rfl (by first | decide | assumption | (simp only [cnt]; omega)) ?_
      refine m_aload_n rfl rfl rfl ?_
      refine m_gr (k := 25) rfl rfl (Nat.le_of_ble_eq_true rfl) rfl rfl (by first | decide | assumption | (simp only [cnt]; omega)) ?_
      refine m_iconst rfl rfl ?_
      refine m_aload_n rfl rfl rfl ?_
      refine m_gix (k := 26) (x := mem 7 _ 26) rfl rfl (Nat.le_of_ble_eq_true rfl) rfl rfl (by first | decide | assumption | (simp only [cnt]; omega)) rfl ?_
      refine m_imul rfl rfl ?_
      refine m_aload_n rfl rfl rfl ?_
      refine m_gix (k := 21) (x := mem 7 _ 21) rfl rfl (Nat.le_of_ble_eq_true rfl) rfl rfl (by first | decide | assumption | (simp only [cnt]; omega)) rfl ?_
      refine m_aload_n rfl rfl rfl ?_
      refine m_gix (k := 8) (x := mem 7 _ 8) rfl rfl (Nat.le_of_ble_eq_true rfl) rfl rfl (by first | decide | assumption | (simp only [cnt]; omega)) rfl ?_
      refine m_iadd rfl rfl ?_
      refine m_aload_n rfl rfl rfl ?_
      refine m_gix (k := 11) (x := mem 7 _ 11) rfl rfl (Nat.le_of_ble_eq_true rfl) rfl rfl (by first | decide | assumption | (simp only [cnt]; omega)) rfl ?_
      refine m_max rfl rfl (by decide +kernel) (by omega) (by omega) (Nat.le_of_ble_eq_true rfl) (Nat.le_of_ble_eq_true rfl) (Nat.le_of_ble_eq_true rfl) (Nat.le_of_ble_eq_true rfl) ?_
      refine m_iasn (n := 2 * (mem 7 0 26).toNat) rfl rfl (Nat.le_of_ble_eq_true rfl) rfl (by first | decide | assumption | (simp only [cnt]; omega)) (by omega) (by simp only [aln]; omega) ?_
      refine m_aload_n rfl rfl rfl ?_
      refine m_gr (k := 25) rfl rfl (Nat.le_of_ble_eq_true rfl) rfl rfl (by first | decide | assumption | (simp only [cnt]; omega)) ?_
      refine m_iconst rfl rfl ?_
      refine m_aload_n rfl rfl rfl ?_
      refine m_gix (k := 26) (x := mem 7 _ 26) rfl rfl (Nat.le_of_ble_eq_true rfl) rfl rfl (by first | decide | assumption | (simp only [cnt]; omega)) rfl ?_
      refine m_imul rfl rfl ?_
      refine m_iconst rfl rfl ?_
      refine m_iadd rfl rfl ?_
      refine m_aload_n rfl rfl rfl ?_
      refine m_gix (k := 22) (x := mem 7 _ 22) rfl rfl (Nat.le_of_ble_eq_true rfl) rfl rfl (by first | decide | assumption | (simp only [cnt]; omega)) rfl ?_
      refine m_iasn (n := 2 * (mem 7 0 26).toNat + 1) rfl rfl (Nat.le_of_ble_eq_true rfl) rfl (by first | decide | assumption | (simp only [cnt]; omega)) (by omega) (by simp only [aln]; omega) ?_
      refine m_aload_n rfl rfl rfl ?_
      refine m_dup rfl rfl rfl ?_
      refine m_gix (k := 26) (x := mem 7 _ 26) rfl rfl (Nat.le_of_ble_eq_true rfl) rfl rfl (by first | decide | assumption | (simp only [cnt]; omega)) rfl ?_
      refine m_iconst rfl rfl ?_
      refine m_iadd rfl rfl ?_
      refine m_pi (k := 26) rfl rfl (Nat.le_of_ble_eq_true rfl) rfl rfl rfl rfl (by first | decide | assumption | (simp only [cnt]; omega)) ?_
      refine m_vret rfl rfl rfl (Nat.le_of_ble_eq_true rfl) (Nat.le_of_ble_eq_true rfl) ?_
      refine ⟨rfl, ?_⟩
      unfold moEB
      first | (rw [if_neg (by omega)] <;> rfl) | (rw [if_neg (by rw [c16]; rintro ⟨-, h⟩; cases h)] <;> rfl) | (rw [if_pos ⟨by omega, c16⟩] <;> rfl)

/-- one unit: the memory behind each step -/
def moS3 (m : zkM) : zkM := moMeet (moRel (moRepl m))
def moS4 (m : zkM) : zkM := mset (moPre (moS3 m) (moMU (moS3 m))) 34 0 (m 7 0 11).toNat (moMU (moS3 m))
def moS5 (m : zkM) : Int × zkM := if moMU (moS3 m) = 9 then (0, moServe (moS4 m) (moFq (moS4 m) (moS4 m 7 0 11 + 1)).toNat) else if moMU (moS3 m) = -1 then (0, moS4 m) else moRJ (moS4 m) (moMU (moS3 m)).toNat
def moS6 (m : zkM) : zkM := mset (moS5 m).2 7 0 11 ((moS5 m).2 7 0 11 + 1)
def moUnit (m : zkM) : Int × zkM := ((moS5 m).1, moEB (moS6 m))
/-- what each step asks of the memory ahead of it -/
def moOk (m : zkM) : Prop :=
  ((0 ≤ m 7 0 26 ∧ m 7 0 26 ≤ 399) ∧ inR (m 7 0 11) ∧ ∀ k, k < 800 → inR (m 43 0 k)) ∧
  (moA (moRepl m) ∧ (0 ≤ moRepl m 7 0 11 ∧ moRepl m 7 0 11 ≤ 400) ∧ (∀ t, t < 5 → 0 ≤ moRepl m 36 0 t ∧ moRepl m 36 0 t ≤ 400) ∧ ∀ t, t < 5 → inR (moRepl m 38 0 t)) ∧
  (moA (moRel (moRepl m)) ∧ inR (moRel (moRepl m) 7 0 11) ∧ inR (moRel (moRepl m) 7 0 1) ∧ (∀ t, t < 5 → 0 ≤ moRel (moRepl m) 36 0 t ∧ moRel (moRepl m) 36 0 t ≤ 401) ∧ ∀ k, k < 2005 → 0 ≤ moRel (moRepl m) 35 0 k ∧ moRel (moRepl m) 35 0 k ≤ 400) ∧
  (moA (moS3 m) ∧ moQ0 (moS3 m) ∧ (0 ≤ moS3 m 7 0 11 ∧ moS3 m 7 0 11 < 400) ∧ moS3 m 7 0 11 = m 7 0 11 ∧ inR (moS3 m 7 0 19) ∧ (∀ t, t < 5 → inR (moS3 m 36 0 t) ∧ inR (moS3 m 37 0 t)) ∧ ∀ k, k < 400 → inR (moS3 m 34 0 k)) ∧
  (moS4 m 7 0 11 = m 7 0 11 ∧ moQ0 (moS4 m) ∧ moA (moS4 m)) ∧
  (moMU (moS3 m) = 9 → inR (moS4 m 7 0 20) ∧ 0 ≤ moFq (moS4 m) (moS4 m 7 0 11 + 1) ∧ ∀ r, r < 12 → 0 ≤ moS4 m 41 0 r ∧ moS4 m 41 0 r ≤ 100) ∧
  (moMU (moS3 m) ≠ 9 → moMU (moS3 m) ≠ -1 → moMU (moS3 m) < 5 ∧ (0 ≤ moS4 m 37 0 (moMU (moS3 m)).toNat ∧ moS4 m 37 0 (moMU (moS3 m)).toNat ≤ 100000) ∧ (0 ≤ moS4 m 35 0 (401 * (moMU (moS3 m)).toNat) ∧ moS4 m 35 0 (401 * (moMU (moS3 m)).toNat) ≤ 400) ∧ inR (moS4 m 39 0 (6 * (moMU (moS3 m)).toNat + 5)) ∧ (0 < moS4 m 36 0 (moMU (moS3 m)).toNat ∧ moS4 m 36 0 (moMU (moS3 m)).toNat ≤ 401)) ∧
  (moQ0 (moS6 m) ∧ (0 ≤ moS6 m 7 0 11 ∧ moS6 m 7 0 11 ≤ 400) ∧ inR (moS6 m 7 0 20) ∧ inR (moS6 m 7 0 6) ∧ inR (moS6 m 7 0 19) ∧ (0 ≤ moS6 m 7 0 21 ∧ moS6 m 7 0 21 ≤ 1000) ∧ (0 ≤ moS6 m 7 0 8 ∧ moS6 m 7 0 8 ≤ 1000) ∧ (0 ≤ moS6 m 7 0 26 ∧ moS6 m 7 0 26 ≤ 399))
theorem moPre_o {m : zkM} {x : Int} {t : Nat} (h : t ≠ 39) (i k : Nat) : moPre m x t i k = m t i k := by
  unfold moPre
  split
  · exact ms_t h _ _ _ _ _ _
  · rfl
set_option maxRecDepth 10000 in
theorem w_mu58 {l : Launch} {G : zkG} {mem : zkM} (hl : l.stackTraces = false) (hO : moOk mem) {now : zkV} {r : Int} {X : zkM} (hS : moS5 mem = (r, X)) : zkW l G i_Mo_makeUnit (zkKm G 5 0 0 (zkR1 (vi (moUnit mem).1) (moUnit mem).2)) 0 0 58 [some (vr 7 0), some now, some (vi r)] [] X := by
  obtain ⟨-, -, -, -, -, -, -, ⟨k1, k2, k3, k4, k5, k6, k7, k8⟩⟩ := hO
  obtain rfl : X = (moS5 mem).2 := by rw [hS]
  obtain rfl : r = (moS5 mem).1 := by rw [hS]
  refine m_aload_n rfl rfl rfl ?_
  refine m_dup rfl rfl rfl ?_
  refine m_gix (k := 11) (x := (moS5 mem).2 7 _ 11) rfl rfl (Nat.le_of_ble_eq_true rfl) rfl rfl (by first | decide | assumption | (simp only [cnt]; omega)) rfl ?_
  refine m_iconst rfl rfl ?_
  refine m_iadd rfl rfl ?_
  refine m_pi (k := 11) rfl rfl (Nat.le_of_ble_eq_true rfl) rfl rfl rfl rfl (by first | decide | assumption | (simp only [cnt]; omega)) ?_
  refine m_aload_n rfl rfl rfl ?_
  refine m_cv0 rfl rfl lk_7_209 (show zkCt l G i_Mo_endBusy _ 0 0 _ _ (zkR0 (moEB (moS6 mem))) from c_moendBusy hl k1 k2 k3 k4 k5 k6 k7 k8) rfl (by first | decide | assumption | (simp only [cnt]; omega)) (Nat.le_of_ble_eq_true rfl) rfl rfl (Nat.le_of_ble_eq_true rfl) (Nat.le_of_ble_eq_true rfl) (Nat.le_of_ble_eq_true rfl) (Nat.le_of_ble_eq_true rfl) (Nat.le_of_ble_eq_true rfl) ?_
  refine m_iload_n rfl rfl rfl ?_
  refine m_iret rfl rfl rfl (Nat.le_of_ble_eq_true rfl) (Nat.le_of_ble_eq_true rfl) ?_
  exact ⟨rfl, rfl⟩

set_option maxRecDepth 10000 in
theorem c_momakeUnit {l : Launch} {G : zkG} {mem : zkM} (hl : l.stackTraces = false) (hO : moOk mem) : zkCt l G i_Mo_makeUnit 5 0 0 [vr 7 0] mem (zkR1 (vi (moUnit mem).1) (moUnit mem).2) := by
  refine zkCt_of hl ok_Mo_makeUnit (by decide +kernel) rfl rfl (List.forall_mem_cons.mpr ⟨rfl, fun _ h => nomatch h⟩) (Nat.le_of_ble_eq_true rfl) ?_
  obtain ⟨⟨a1, a2, a3⟩, ⟨b1, b2, b3, b4⟩, ⟨d1, d2, d3, d4, d5⟩, ⟨e1, e2, e3, e4, e5, e6, e7⟩, ⟨f1, f2, f3⟩, g1, g2, -⟩ := id hO
  have hmu := moMU_I e1
  have hne := e1.1
  refine m_aload_n rfl rfl rfl ?_
  refine m_cv0 rfl rfl lk_7_186 (c_motakeRepl hl a1 a2 a3) rfl (by first | decide | assumption | (simp only [cnt]; omega)) (Nat.le_of_ble_eq_true rfl) rfl rfl (Nat.le_of_ble_eq_true rfl) (Nat.le_of_ble_eq_true rfl) (Nat.le_of_ble_eq_true rfl) (Nat.le_of_ble_eq_true rfl) (Nat.le_of_ble_eq_true rfl) ?_
  refine m_aload_n rfl rfl rfl ?_
  refine m_cv0 rfl rfl lk_7_189 (c_morelease hl b1 b2 b3 b4) rfl (by first | decide | assumption | (simp only [cnt]; omega)) (Nat.le_of_ble_eq_true rfl) rfl rfl (Nat.le_of_ble_eq_true rfl) (Nat.le_of_ble_eq_true rfl) (Nat.le_of_ble_eq_true rfl) (Nat.le_of_ble_eq_true rfl) (Nat.le_of_ble_eq_true rfl) ?_
  refine m_aload_n rfl rfl rfl ?_
  refine m_cv0 rfl rfl lk_7_192 (show zkCt l G i_Mo_meetDeadlines _ 0 0 _ _ (zkR0 (moS3 mem)) from c_momeet hl d1 d2 d3 d4 d5) rfl (by first | decide | assumption | (simp only [cnt]; omega)) (Nat.le_of_ble_eq_true rfl) rfl rfl (Nat.le_of_ble_eq_true rfl) (Nat.le_of_ble_eq_true rfl) (Nat.le_of_ble_eq_true rfl) (Nat.le_of_ble_eq_true rfl) (Nat.le_of_ble_eq_true rfl) ?_
  refine m_aload_n rfl rfl rfl ?_
  refine m_cv1 rfl rfl lk_7_195 (c_momostUrgent hl e1 e2 (by omega) e5 e6) rfl (by first | decide | assumption | (simp only [cnt]; omega)) (Nat.le_of_ble_eq_true rfl) rfl rfl (Nat.le_of_ble_eq_true rfl) (Nat.le_of_ble_eq_true rfl) (Nat.le_of_ble_eq_true rfl) (Nat.le_of_ble_eq_true rfl) (Nat.le_of_ble_eq_true rfl) ?_
  refine m_istore_n rfl rfl (Nat.le_of_ble_eq_true rfl) rfl ?_
  refine m_aload_n rfl rfl rfl ?_
  refine m_iload_n rfl rfl rfl ?_
  refine m_cv0 rfl rfl lk_7_199 (c_mocountPre hl (by omega) (by omega) (by omega) e7 (fun t ht => (e6 t ht).2)) rfl (by first | decide | assumption | (simp only [cnt]; omega)) (Nat.le_of_ble_eq_true rfl) rfl rfl (Nat.le_of_ble_eq_true rfl) (Nat.le_of_ble_eq_true rfl) (Nat.le_of_ble_eq_true rfl) (Nat.le_of_ble_eq_true rfl) (Nat.le_of_ble_eq_true rfl) ?_
  refine m_aload_n rfl rfl rfl ?_
  refine m_gr (k := 12) rfl rfl (Nat.le_of_ble_eq_true rfl) rfl rfl (by first | decide | assumption | (simp only [cnt]; omega)) ?_
  refine m_aload_n rfl rfl rfl ?_
  refine m_gix (k := 11) (x := mem 7 0 11) rfl rfl (Nat.le_of_ble_eq_true rfl) rfl rfl (by decide) (by rw [moPre_o (by decide)]; exact e4) ?_
  refine m_iload_n rfl rfl rfl ?_
  refine m_iasn (n := (mem 7 0 11).toNat) rfl rfl (Nat.le_of_ble_eq_true rfl) rfl (by first | decide | assumption | (simp only [cnt]; omega)) (by omega) (by simp only [aln]; omega) ?_
  refine m_iconst rfl rfl ?_
  refine m_istore_n rfl rfl (Nat.le_of_ble_eq_true rfl) rfl ?_
  refine m_iload_n rfl rfl rfl ?_
  refine m_bipush rfl rfl (by decide) ?_
  refine m_icmp_ne (tgt := 47) rfl rfl rfl (by omega) (by omega) (fun c37 => ?_) (fun c37 => ?_)
  · refine m_iload_n rfl rfl rfl ?_
    refine m_iconst rfl rfl ?_
    refine m_icmp_eq (tgt := 58) rfl rfl rfl (by omega) (by omega) (fun c49 => ?_) (fun c49 => ?_)
    · first | exact w_mu58 hl hO (by unfold moS5; rw [if_pos (by omega)] <;> rfl) | exact w_mu58 hl hO (by unfold moS5; rw [if_neg (by omega), if_pos (by omega)] <;> rfl) | exact w_mu58 hl hO (by unfold moS5; rw [if_neg (by omega), if_neg (by omega)])
    · refine m_aload_n rfl rfl rfl ?_
      refine m_iload_n rfl rfl rfl ?_
      refine m_cv1 rfl rfl lk_7_206 (show zkCt l G i_Mo_runJob _ 0 0 _ _ (zkR1 (vi (moRJ (moS4 mem) (moMU (moS3 mem)).toNat).1) (moRJ (moS4 mem) (moMU (moS3 mem)).toNat).2) from c_morunJob (mem := moS4 mem) hl (t := (moMU (moS3 mem)).toNat) f3 (by omega) (by have := (g2 (by omega) (by omega)).1; omega) (by omega) (g2 (by omega) (by omega)).2.1 (g2 (by omega) (by omega)).2.2.1 (g2 (by omega) (by omega)).2.2.2.1 (g2 (by omega) (by omega)).2.2.2.2) rfl (by first | decide | assumption | (simp only [cnt]; omega)) (Nat.le_of_ble_eq_true rfl) rfl rfl (Nat.le_of_ble_eq_true rfl) (Nat.le_of_ble_eq_true rfl) (Nat.le_of_ble_eq_true rfl) (Nat.le_of_ble_eq_true rfl) (Nat.le_of_ble_eq_true rfl) ?_
      refine m_istore_n rfl rfl (Nat.le_of_ble_eq_true rfl) rfl ?_
      first | exact w_mu58 hl hO (by unfold moS5; rw [if_pos (by omega)] <;> rfl) | exact w_mu58 hl hO (by unfold moS5; rw [if_neg (by omega), if_pos (by omega)] <;> rfl) | exact w_mu58 hl hO (by unfold moS5; rw [if_neg (by omega), if_neg (by omega)])
  · refine m_aload_n rfl rfl rfl ?_
    refine m_cv0 rfl rfl lk_7_203 (show zkCt l G i_Mo_runServer _ 0 0 _ _ (zkR0 (moServe (moS4 mem) (moFq (moS4 mem) (moS4 mem 7 0 11 + 1)).toNat)) from c_morunServer (mem := moS4 mem) hl f2 (by omega) (g1 (by omega)).1 (g1 (by omega)).2.1 (g1 (by omega)).2.2) rfl (by first | decide | assumption | (simp only [cnt]; omega)) (Nat.le_of_ble_eq_true rfl) rfl rfl (Nat.le_of_ble_eq_true rfl) (Nat.le_of_ble_eq_true rfl) (Nat.le_of_ble_eq_true rfl) (Nat.le_of_ble_eq_true rfl) (Nat.le_of_ble_eq_true rfl) ?_
    refine m_goto (tgt := 58) rfl rfl rfl ?_
    first | exact w_mu58 hl hO (by unfold moS5; rw [if_pos (by omega)] <;> rfl) | exact w_mu58 hl hO (by unfold moS5; rw [if_neg (by omega), if_pos (by omega)] <;> rfl) | exact w_mu58 hl hO (by unfold moS5; rw [if_neg (by omega), if_neg (by omega)])

/-- some units: the jobs that are finished, the memory -/
def moUf1 (_ : Nat) (q : Int × zkM) : Int × zkM := (q.1 + (moUnit q.2).1, (moUnit q.2).2)
def moRun (m : zkM) (u : Int) : Int × zkM := if ¬ (1 ≤ u ∧ u ≤ 100) then (0, mset (mset m 7 0 0 0) 7 0 0 1) else if 400 < m 7 0 11 + u then (0, mset (mset m 7 0 0 0) 7 0 0 2) else lp moUf1 u.toNat (0, mset m 7 0 0 0)
set_option maxRecDepth 10000 in
theorem c_morun {l : Launch} {G : zkG} {mem : zkM} (hl : l.stackTraces = false) {u : Int} (hu : inR u) (hc : 0 ≤ mem 7 0 11 ∧ mem 7 0 11 ≤ 400) (hO : 1 ≤ u ∧ u ≤ 100 → ¬ 400 < mem 7 0 11 + u → ∀ j, j < u.toNat → moOk (lp moUf1 j (0, mset mem 7 0 0 0)).2) : zkCt l G i_Mo_run 6 0 0 [vr 7 0, vi u] mem (zkR1 (vi (moRun mem u).1) (moRun mem u).2) := by
  refine zkCt_of hl ok_Mo_run (by decide +kernel) rfl rfl (List.forall_mem_cons.mpr ⟨rfl, (List.forall_mem_cons.mpr ⟨rfl, fun _ h => nomatch h⟩)⟩) (Nat.le_of_ble_eq_true rfl) ?_
  refine m_aload_n rfl rfl rfl ?_
  refine m_iconst rfl rfl ?_
  refine m_pi (k := 0) rfl rfl (Nat.le_of_ble_eq_true rfl) rfl rfl rfl rfl (by first | decide | assumption | (simp only [cnt]; omega)) ?_
  refine m_iload_n rfl rfl rfl ?_
  refine m_iconst rfl rfl ?_
  refine m_bipush rfl rfl (by decide) ?_
  refine m_cs1 rfl rfl lk_7_75 (c_isIn hl (by omega) (by omega) (by omega)) rfl rfl (Nat.le_of_ble_eq_true rfl) (Nat.le_of_ble_eq_true rfl) (Nat.le_of_ble_eq_true rfl) (Nat.le_of_ble_eq_true rfl) (Nat.le_of_ble_eq_true rfl) ?_
  refine m_if_ne_d (tgt := 21) rfl rfl rfl (fun c12 => ?_) (fun c12 => ?_)
  · refine m_aload_n rfl rfl rfl ?_
    refine m_gix (k := 11) (x := mem 7 _ 11) rfl rfl (Nat.le_of_ble_eq_true rfl) rfl rfl (by first | decide | assumption | (simp only [cnt]; omega)) rfl ?_
    refine m_iload_n rfl rfl rfl ?_
    refine m_iadd rfl rfl ?_
    refine m_sipush rfl rfl (by decide) ?_
    refine m_icmp_le (tgt := 39) rfl rfl rfl (by omega) (by omega) (fun c30 => ?_) (fun c30 => ?_)
    · refine m_iconst rfl rfl ?_
      refine m_istore_n rfl rfl (Nat.le_of_ble_eq_true rfl) rfl ?_
      refine m_iconst rfl rfl ?_
      refine m_istore_n rfl rfl (Nat.le_of_ble_eq_true rfl) rfl ?_
      have hO2 := hO (by omega) (by omega)
      refine zk_loop (P := fun (j : Nat) (q : Int × zkM) => zkW l G i_Mo_run _ 0 0 43 [some (vr 7 0), some (vi u), some (vi q.1), some (vi j)] [] q.2) (I := fun j q => q = lp moUf1 j (0, mset mem 7 0 0 0)) moUf1 u.toNat (0, mset mem 7 0 0 0) rfl (fun j q hj hq => by rw [hq]; rfl) (fun j q hj hq hk => ?_) (fun hq => ?_)
      · have hOj := hO2 j hj
        rw [← hq] at hOj
        clear hq
        obtain ⟨r, X⟩ := q
        dsimp only at hOj hk ⊢
        refine m_iload_n rfl rfl rfl ?_
        refine m_iload_n rfl rfl rfl ?_
        refine m_icmp_ge (tgt := 61) rfl rfl rfl (by omega) (by omega) (fun c45 => ?_) (fun c45 => ?_)
        · exfalso; omega
        · refine m_iload_n rfl rfl rfl ?_
          refine m_aload_n rfl rfl rfl ?_
          refine m_cv1 rfl rfl lk_7_212 (c_momakeUnit hl hOj) rfl (by first | decide | assumption | (simp only [cnt]; omega)) (Nat.le_of_ble_eq_true rfl) rfl rfl (Nat.le_of_ble_eq_true rfl) (Nat.le_of_ble_eq_true rfl) (Nat.le_of_ble_eq_true rfl) (Nat.le_of_ble_eq_true rfl) (Nat.le_of_ble_eq_true rfl) ?_
          refine m_iadd rfl rfl ?_
          refine m_istore_n rfl rfl (Nat.le_of_ble_eq_true rfl) rfl ?_
          refine m_iinc rfl rfl rfl (Nat.le_of_ble_eq_true rfl) rfl ?_
          refine m_goto (tgt := 43) rfl rfl rfl ?_
          exact hk
      · refine m_iload_n rfl rfl rfl ?_
        refine m_iload_n rfl rfl rfl ?_
        refine m_icmp_ge (tgt := 61) rfl rfl rfl (by omega) (by omega) (fun c45 => ?_) (fun c45 => ?_)
        · refine m_iload_n rfl rfl rfl ?_
          refine m_iret rfl rfl rfl (Nat.le_of_ble_eq_true rfl) (Nat.le_of_ble_eq_true rfl) ?_
          unfold moRun
          rw [if_neg (by omega), if_neg (by omega)]
          exact ⟨rfl, rfl⟩
        · exfalso; omega
    · refine m_aload_n rfl rfl rfl ?_
      refine m_iconst rfl rfl ?_
      refine m_cv1 rfl rfl lk_7_114 (c_fail hl) rfl (by first | decide | assumption | (simp only [cnt]; omega)) (Nat.le_of_ble_eq_true rfl) rfl rfl (Nat.le_of_ble_eq_true rfl) (Nat.le_of_ble_eq_true rfl) (Nat.le_of_ble_eq_true rfl) (Nat.le_of_ble_eq_true rfl) (Nat.le_of_ble_eq_true rfl) ?_
      refine m_iret rfl rfl rfl (Nat.le_of_ble_eq_true rfl) (Nat.le_of_ble_eq_true rfl) ?_
      unfold moRun
      rw [if_neg (by omega), if_pos (by omega)]
      exact ⟨rfl, rfl⟩
  · refine m_aload_n rfl rfl rfl ?_
    refine m_iconst rfl rfl ?_
    refine m_cv1 rfl rfl lk_7_114 (c_fail hl) rfl (by first | decide | assumption | (simp only [cnt]; omega)) (Nat.le_of_ble_eq_true rfl) rfl rfl (Nat.le_of_ble_eq_true rfl) (Nat.le_of_ble_eq_true rfl) (Nat.le_of_ble_eq_true rfl) (Nat.le_of_ble_eq_true rfl) (Nat.le_of_ble_eq_true rfl) ?_
    refine m_iret rfl rfl rfl (Nat.le_of_ble_eq_true rfl) (Nat.le_of_ble_eq_true rfl) ?_
    unfold moRun
    rw [if_pos (by omega)]
    exact ⟨rfl, rfl⟩

def moRew (m : zkM) : Int × zkM := (m 7 0 11, moRs (mset m 7 0 0 0))
set_option maxRecDepth 10000 in
theorem c_morewind {l : Launch} {G : zkG} {mem : zkM} (hl : l.stackTraces = false) : zkCt l G i_Mo_rewind 1 0 0 [vr 7 0] mem (zkR1 (vi (moRew mem).1) (moRew mem).2) := by
  refine zkCt_of hl ok_Mo_rewind (by decide +kernel) rfl rfl (List.forall_mem_cons.mpr ⟨rfl, fun _ h => nomatch h⟩) (Nat.le_of_ble_eq_true rfl) ?_
  refine m_aload_n rfl rfl rfl ?_
  refine m_iconst rfl rfl ?_
  refine m_pi (k := 0) rfl rfl (Nat.le_of_ble_eq_true rfl) rfl rfl rfl rfl (by first | decide | assumption | (simp only [cnt]; omega)) ?_
  refine m_aload_n rfl rfl rfl ?_
  refine m_gix (k := 11) (x := mem 7 _ 11) rfl rfl (Nat.le_of_ble_eq_true rfl) rfl rfl (by first | decide | assumption | (simp only [cnt]; omega)) rfl ?_
  refine m_istore_n rfl rfl (Nat.le_of_ble_eq_true rfl) rfl ?_
  refine m_aload_n rfl rfl rfl ?_
  refine m_cv0 rfl rfl lk_7_107 (c_restart hl) rfl (by first | decide | assumption | (simp only [cnt]; omega)) (Nat.le_of_ble_eq_true rfl) rfl rfl (Nat.le_of_ble_eq_true rfl) (Nat.le_of_ble_eq_true rfl) (Nat.le_of_ble_eq_true rfl) (Nat.le_of_ble_eq_true rfl) (Nat.le_of_ble_eq_true rfl) ?_
  refine m_iload_n rfl rfl rfl ?_
  refine m_iret rfl rfl rfl (Nat.le_of_ble_eq_true rfl) (Nat.le_of_ble_eq_true rfl) ?_
  exact ⟨rfl, rfl⟩

