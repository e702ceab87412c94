/-! the reference: its state is kept, or comes back -/
def ps (m : zkM) (v : Int) : Int × zkM := (if m 7 0 37 = 0 then v else m 46 0 (m 7 0 36).toNat, mset (if m 7 0 37 = 0 then mset m 46 0 (m 7 0 36).toNat v else m) 7 0 36 (m 7 0 36 + 1))
theorem ps_36 (m : zkM) (v : Int) : (ps m v).2 7 0 36 = m 7 0 36 + 1 := rfl
theorem ps_37 (m : zkM) (v : Int) : (ps m v).2 7 0 37 = m 7 0 37 := by
  show (if m 7 0 37 = 0 then mset m 46 0 (m 7 0 36).toNat v else m) 7 0 37 = m 7 0 37
  split <;> rfl
set_option maxRecDepth 10000 in
theorem c_pass {l : Launch} {G : zkG} {mem : zkM} (hl : l.stackTraces = false) {v : Int} (h36 : 0 ≤ mem 7 0 36 ∧ mem 7 0 36 < 3600) (h37 : mem 7 0 37 = 0 ∨ mem 7 0 37 = 1) : zkCt l G i_Mo_pass 0 0 0 [vr 7 0, vi v] mem (zkR1 (vi (ps mem v).1) (ps mem v).2) := by
  refine zkCt_of hl ok_Mo_pass (by decide +kernel) rfl rfl (List.forall_mem_cons.mpr ⟨rfl, (List.forall_mem_cons.mpr ⟨rfl, fun _ h => nomatch h⟩)⟩) (Nat.le_of_ble_eq_true rfl) ?_
  refine m_aload_n rfl rfl rfl ?_
  refine m_gix (k := 37) (x := mem 7 _ 37) rfl rfl (Nat.le_of_ble_eq_true rfl) rfl rfl (by first | decide | assumption | (simp only [cnt]; omega)) rfl ?_
  refine m_if_ne (tgt := 17) rfl rfl rfl (by omega) (fun c4 => ?_) (fun c4 => ?_)
  · refine m_aload_n rfl rfl rfl ?_
    refine m_dup rfl rfl rfl ?_
    refine m_gix (k := 36) (x := mem 7 _ 36) rfl rfl (Nat.le_of_ble_eq_true rfl) rfl rfl (by first | decide | assumption | (simp only [cnt]; omega)) rfl ?_
    refine m_iconst rfl rfl ?_
    refine m_iadd rfl rfl ?_
    refine m_pi (k := 36) rfl rfl (Nat.le_of_ble_eq_true rfl) rfl rfl rfl rfl (by first | decide | assumption | (simp only [cnt]; omega)) ?_
    refine m_aload_n rfl rfl rfl ?_
    refine m_gr (k := 35) rfl rfl (Nat.le_of_ble_eq_true rfl) rfl rfl (by first | decide | assumption | (simp only [cnt]; omega)) ?_
    refine m_aload_n rfl rfl rfl ?_
    refine m_gix (k := 36) (x := mem 7 0 36 + 1) rfl rfl (Nat.le_of_ble_eq_true rfl) rfl rfl (by first | decide | assumption | (simp only [cnt]; omega)) rfl ?_
    refine m_iconst rfl rfl ?_
    refine m_isub rfl rfl ?_
    refine m_ialn (n := (mem 7 0 36).toNat) rfl rfl (Nat.le_of_ble_eq_true rfl) rfl (by decide) (by omega) (by simp only [aln]; omega) ?_
    refine m_iret rfl rfl rfl (Nat.le_of_ble_eq_true rfl) (Nat.le_of_ble_eq_true rfl) ?_
    unfold ps
    first | (rw [if_pos (by omega), if_pos (by omega)]; first | exact ⟨rfl, rfl⟩ | exact ⟨congrArg _ (congrArg _ (by rw [ms_t (by decide), ms_s])), rfl⟩) | (rw [if_neg (by omega), if_neg (by omega)]; exact ⟨rfl, rfl⟩)
  · refine m_aload_n rfl rfl rfl ?_
    refine m_gr (k := 35) rfl rfl (Nat.le_of_ble_eq_true rfl) rfl rfl (by first | decide | assumption | (simp only [cnt]; omega)) ?_
    refine m_aload_n rfl rfl rfl ?_
    refine m_gix (k := 36) (x := mem 7 _ 36) rfl rfl (Nat.le_of_ble_eq_true rfl) rfl rfl (by first | decide | assumption | (simp only [cnt]; omega)) rfl ?_
    refine m_iload_n rfl rfl rfl ?_
    refine m_iasn (n := (mem 7 0 36).toNat) rfl rfl (Nat.le_of_ble_eq_true rfl) rfl (by first | decide | assumption | (simp only [cnt]; omega)) (by omega) (by simp only [aln]; omega) ?_
    refine m_aload_n rfl rfl rfl ?_
    refine m_dup rfl rfl rfl ?_
    refine m_gix (k := 36) (x := mem 7 _ 36) rfl rfl (Nat.le_of_ble_eq_true rfl) rfl rfl (by first | decide | assumption | (simp only [cnt]; omega)) rfl ?_
    refine m_iconst rfl rfl ?_
    refine m_iadd rfl rfl ?_
    refine m_pi (k := 36) rfl rfl (Nat.le_of_ble_eq_true rfl) rfl rfl rfl rfl (by first | decide | assumption | (simp only [cnt]; omega)) ?_
    refine m_aload_n rfl rfl rfl ?_
    refine m_gr (k := 35) rfl rfl (Nat.le_of_ble_eq_true rfl) rfl rfl (by first | decide | assumption | (simp only [cnt]; omega)) ?_
    refine m_aload_n rfl rfl rfl ?_
    refine m_gix (k := 36) (x := mem 7 0 36 + 1) rfl rfl (Nat.le_of_ble_eq_true rfl) rfl rfl (by first | decide | assumption | (simp only [cnt]; omega)) rfl ?_
    refine m_iconst rfl rfl ?_
    refine m_isub rfl rfl ?_
    refine m_ialn (n := (mem 7 0 36).toNat) rfl rfl (Nat.le_of_ble_eq_true rfl) rfl (by decide) (by omega) (by simp only [aln]; omega) ?_
    refine m_iret rfl rfl rfl (Nat.le_of_ble_eq_true rfl) (Nat.le_of_ble_eq_true rfl) ?_
    unfold ps
    first | (rw [if_pos (by omega), if_pos (by omega)]; first | exact ⟨rfl, rfl⟩ | exact ⟨congrArg _ (congrArg _ (by rw [ms_t (by decide), ms_s])), rfl⟩) | (rw [if_neg (by omega), if_neg (by omega)]; exact ⟨rfl, rfl⟩)

def prf30 (j : Nat) (s : zkM) : zkM := mset (ps s (s 30 0 j)).2 30 0 j (ps s (s 30 0 j)).1
def prw30 (m : zkM) : zkM := lp prf30 20 m
theorem prw30_b (m : zkM) : (prw30 m) 7 0 36 = m 7 0 36 + 20 ∧ (prw30 m) 7 0 37 = m 7 0 37 :=
  lp_inv (fun (j : Nat) (s : zkM) => s 7 0 36 = m 7 0 36 + j ∧ s 7 0 37 = m 7 0 37) prf30 20 m ⟨by omega, rfl⟩ (fun j s _ hI => ⟨by show (ps s (s 30 0 j)).2 7 0 36 = _; rw [ps_36]; omega, by show (ps s (s 30 0 j)).2 7 0 37 = _; rw [ps_37]; exact hI.2⟩)
set_option maxRecDepth 10000 in
theorem c_passRow30 {l : Launch} {G : zkG} {mem : zkM} (hl : l.stackTraces = false) (h36 : 0 ≤ mem 7 0 36 ∧ mem 7 0 36 + 20 ≤ 3600) (h37 : mem 7 0 37 = 0 ∨ mem 7 0 37 = 1) : zkCt l G i_Mo_passRow 1 0 0 [vr 7 0, vr 30 0] mem (zkR0 (prw30 mem)) := by
  refine zkCt_of hl ok_Mo_passRow (by decide +kernel) rfl rfl (List.forall_mem_cons.mpr ⟨rfl, (List.forall_mem_cons.mpr ⟨rfl, fun _ h => nomatch h⟩)⟩) (Nat.le_of_ble_eq_true rfl) ?_
  refine m_iconst rfl rfl ?_
  refine m_istore_n rfl rfl (Nat.le_of_ble_eq_true rfl) rfl ?_
  refine zk_loop (P := fun (j : Nat) (s : zkM) => zkW l G i_Mo_passRow _ 0 0 2 [some (vr 7 0), some (vr 30 0), some (vi j)] [] s) (I := fun j s => s 7 0 36 = mem 7 0 36 + j ∧ s 7 0 37 = mem 7 0 37) prf30 20 mem ⟨by omega, rfl⟩ (fun j s _ hI => ⟨by show (ps s (s 30 0 j)).2 7 0 36 = _; rw [ps_36]; omega, by show (ps s (s 30 0 j)).2 7 0 37 = _; rw [ps_37]; exact hI.2⟩) (fun j s hj hI hk => ?_) (fun hI => ?_)
  · refine m_iload_n rfl rfl rfl ?_
    refine m_aload_n rfl rfl rfl ?_
    refine m_alen rfl rfl (Nat.le_of_ble_eq_true rfl) (Or.inl rfl) (by first | decide | assumption | (simp only [cnt]; omega)) ?_
    refine m_icmp_ge (tgt := 24) rfl rfl rfl (by omega) (by decide) (fun c5 => ?_) (fun c5 => ?_)
    · exfalso; simp only [aln] at c5; omega
    · refine m_aload_n rfl rfl rfl ?_
      refine m_iload_n rfl rfl rfl ?_
      refine m_aload_n rfl rfl rfl ?_
      refine m_aload_n rfl rfl rfl ?_
      refine m_iload_n rfl rfl rfl ?_
      refine m_ialx (n := j) (y := s 30 _ (j)) rfl rfl (Nat.le_of_ble_eq_true rfl) rfl (by first | decide | assumption | (simp only [cnt]; omega)) (by omega) (by simp only [aln]; omega) rfl ?_
      refine m_cv1 rfl rfl lk_7_283 (c_pass hl (by omega) (by omega)) rfl (by first | decide | assumption | (simp only [cnt]; omega)) (Nat.le_of_ble_eq_true rfl) rfl rfl (Nat.le_of_ble_eq_true rfl) (Nat.le_of_ble_eq_true rfl) (Nat.le_of_ble_eq_true rfl) (Nat.le_of_ble_eq_true rfl) (Nat.le_of_ble_eq_true rfl) ?_
      refine m_iasn (n := j) rfl rfl (Nat.le_of_ble_eq_true rfl) rfl (by first | decide | assumption | (simp only [cnt]; omega)) (by omega) (by simp only [aln]; omega) ?_
      refine m_iinc rfl rfl rfl (Nat.le_of_ble_eq_true rfl) rfl ?_
      refine m_goto (tgt := 2) rfl rfl rfl ?_
      exact hk
  · refine m_iload_n rfl rfl rfl ?_
    refine m_aload_n rfl rfl rfl ?_
    refine m_alen rfl rfl (Nat.le_of_ble_eq_true rfl) (Or.inl rfl) (by first | decide | assumption | (simp only [cnt]; omega)) ?_
    refine m_icmp_ge (tgt := 24) rfl rfl rfl (by omega) (by decide) (fun c5 => ?_) (fun c5 => ?_)
    · refine m_vret rfl rfl rfl (Nat.le_of_ble_eq_true rfl) (Nat.le_of_ble_eq_true rfl) ?_
      exact ⟨rfl, rfl⟩
    · exfalso; simp only [aln] at c5; omega

def prf31 (j : Nat) (s : zkM) : zkM := mset (ps s (s 31 0 j)).2 31 0 j (ps s (s 31 0 j)).1
def prw31 (m : zkM) : zkM := lp prf31 5 m
theorem prw31_b (m : zkM) : (prw31 m) 7 0 36 = m 7 0 36 + 5 ∧ (prw31 m) 7 0 37 = m 7 0 37 :=
  lp_inv (fun (j : Nat) (s : zkM) => s 7 0 36 = m 7 0 36 + j ∧ s 7 0 37 = m 7 0 37) prf31 5 m ⟨by omega, rfl⟩ (fun j s _ hI => ⟨by show (ps s (s 31 0 j)).2 7 0 36 = _; rw [ps_36]; omega, by show (ps s (s 31 0 j)).2 7 0 37 = _; rw [ps_37]; exact hI.2⟩)
set_option maxRecDepth 10000 in
theorem c_passRow31 {l : Launch} {G : zkG} {mem : zkM} (hl : l.stackTraces = false) (h36 : 0 ≤ mem 7 0 36 ∧ mem 7 0 36 + 5 ≤ 3600) (h37 : mem 7 0 37 = 0 ∨ mem 7 0 37 = 1) : zkCt l G i_Mo_passRow 1 0 0 [vr 7 0, vr 31 0] mem (zkR0 (prw31 mem)) := by
  refine zkCt_of hl ok_Mo_passRow (by decide +kernel) rfl rfl (List.forall_mem_cons.mpr ⟨rfl, (List.forall_mem_cons.mpr ⟨rfl, fun _ h => nomatch h⟩)⟩) (Nat.le_of_ble_eq_true rfl) ?_
  refine m_iconst rfl rfl ?_
  refine m_istore_n rfl rfl (Nat.le_of_ble_eq_true rfl) rfl ?_
  refine zk_loop (P := fun (j : Nat) (s : zkM) => zkW l G i_Mo_passRow _ 0 0 2 [some (vr 7 0), some (vr 31 0), some (vi j)] [] s) (I := fun j s => s 7 0 36 = mem 7 0 36 + j ∧ s 7 0 37 = mem 7 0 37) prf31 5 mem ⟨by omega, rfl⟩ (fun j s _ hI => ⟨by show (ps s (s 31 0 j)).2 7 0 36 = _; rw [ps_36]; omega, by show (ps s (s 31 0 j)).2 7 0 37 = _; rw [ps_37]; exact hI.2⟩) (fun j s hj hI hk => ?_) (fun hI => ?_)
  · refine m_iload_n rfl rfl rfl ?_
    refine m_aload_n rfl rfl rfl ?_
    refine m_alen rfl rfl (Nat.le_of_ble_eq_true rfl) (Or.inl rfl) (by first | decide | assumption | (simp only [cnt]; omega)) ?_
    refine m_icmp_ge (tgt := 24) rfl rfl rfl (by omega) (by decide) (fun c5 => ?_) (fun c5 => ?_)
    · exfalso; simp only [aln] at c5; omega
    · refine m_aload_n rfl rfl rfl ?_
      refine m_iload_n rfl rfl rfl ?_
      refine m_aload_n rfl rfl rfl ?_
      refine m_aload_n rfl rfl rfl ?_
      refine m_iload_n rfl rfl rfl ?_
      refine m_ialx (n := j) (y := s 31 _ (j)) rfl rfl (Nat.le_of_ble_eq_true rfl) rfl (by first | decide | assumption | (simp only [cnt]; omega)) (by omega) (by simp only [aln]; omega) rfl ?_
      refine m_cv1 rfl rfl lk_7_283 (c_pass hl (by omega) (by omega)) rfl (by first | decide | assumption | (simp only [cnt]; omega)) (Nat.le_of_ble_eq_true rfl) rfl rfl (Nat.le_of_ble_eq_true rfl) (Nat.le_of_ble_eq_true rfl) (Nat.le_of_ble_eq_true rfl) (Nat.le_of_ble_eq_true rfl) (Nat.le_of_ble_eq_true rfl) ?_
      refine m_iasn (n := j) rfl rfl (Nat.le_of_ble_eq_true rfl) rfl (by first | decide | assumption | (simp only [cnt]; omega)) (by omega) (by simp only [aln]; omega) ?_
      refine m_iinc rfl rfl rfl (Nat.le_of_ble_eq_true rfl) rfl ?_
      refine m_goto (tgt := 2) rfl rfl rfl ?_
      exact hk
  · refine m_iload_n rfl rfl rfl ?_
    refine m_aload_n rfl rfl rfl ?_
    refine m_alen rfl rfl (Nat.le_of_ble_eq_true rfl) (Or.inl rfl) (by first | decide | assumption | (simp only [cnt]; omega)) ?_
    refine m_icmp_ge (tgt := 24) rfl rfl rfl (by omega) (by decide) (fun c5 => ?_) (fun c5 => ?_)
    · refine m_vret rfl rfl rfl (Nat.le_of_ble_eq_true rfl) (Nat.le_of_ble_eq_true rfl) ?_
      exact ⟨rfl, rfl⟩
    · exfalso; simp only [aln] at c5; omega

def prf32 (j : Nat) (s : zkM) : zkM := mset (ps s (s 32 0 j)).2 32 0 j (ps s (s 32 0 j)).1
def prw32 (m : zkM) : zkM := lp prf32 60 m
theorem prw32_b (m : zkM) : (prw32 m) 7 0 36 = m 7 0 36 + 60 ∧ (prw32 m) 7 0 37 = m 7 0 37 :=
  lp_inv (fun (j : Nat) (s : zkM) => s 7 0 36 = m 7 0 36 + j ∧ s 7 0 37 = m 7 0 37) prf32 60 m ⟨by omega, rfl⟩ (fun j s _ hI => ⟨by show (ps s (s 32 0 j)).2 7 0 36 = _; rw [ps_36]; omega, by show (ps s (s 32 0 j)).2 7 0 37 = _; rw [ps_37]; exact hI.2⟩)
set_option maxRecDepth 10000 in
theorem c_passRow32 {l : Launch} {G : zkG} {mem : zkM} (hl : l.stackTraces = false) (h36 : 0 ≤ mem 7 0 36 ∧ mem 7 0 36 + 60 ≤ 3600) (h37 : mem 7 0 37 = 0 ∨ mem 7 0 37 = 1) : zkCt l G i_Mo_passRow 1 0 0 [vr 7 0, vr 32 0] mem (zkR0 (prw32 mem)) := by
  refine zkCt_of hl ok_Mo_passRow (by decide +kernel) rfl rfl (List.forall_mem_cons.mpr ⟨rfl, (List.forall_mem_cons.mpr ⟨rfl, fun _ h => nomatch h⟩)⟩) (Nat.le_of_ble_eq_true rfl) ?_
  refine m_iconst rfl rfl ?_
  refine m_istore_n rfl rfl (Nat.le_of_ble_eq_true rfl) rfl ?_
  refine zk_loop (P := fun (j : Nat) (s : zkM) => zkW l G i_Mo_passRow _ 0 0 2 [some (vr 7 0), some (vr 32 0), some (vi j)] [] s) (I := fun j s => s 7 0 36 = mem 7 0 36 + j ∧ s 7 0 37 = mem 7 0 37) prf32 60 mem ⟨by omega, rfl⟩ (fun j s _ hI => ⟨by show (ps s (s 32 0 j)).2 7 0 36 = _; rw [ps_36]; omega, by show (ps s (s 32 0 j)).2 7 0 37 = _; rw [ps_37]; exact hI.2⟩) (fun j s hj hI hk => ?_) (fun hI => ?_)
  · refine m_iload_n rfl rfl rfl ?_
    refine m_aload_n rfl rfl rfl ?_
    refine m_alen rfl rfl (Nat.le_of_ble_eq_true rfl) (Or.inl rfl) (by first | decide | assumption | (simp only [cnt]; omega)) ?_
    refine m_icmp_ge (tgt := 24) rfl rfl rfl (by omega) (by decide) (fun c5 => ?_) (fun c5 => ?_)
    · exfalso; simp only [aln] at c5; omega
    · refine m_aload_n rfl rfl rfl ?_
      refine m_iload_n rfl rfl rfl ?_
      refine m_aload_n rfl rfl rfl ?_
      refine m_aload_n rfl rfl rfl ?_
      refine m_iload_n rfl rfl rfl ?_
      refine m_ialx (n := j) (y := s 32 _ (j)) rfl rfl (Nat.le_of_ble_eq_true rfl) rfl (by first | decide | assumption | (simp only [cnt]; omega)) (by omega) (by simp only [aln]; omega) rfl ?_
      refine m_cv1 rfl rfl lk_7_283 (c_pass hl (by omega) (by omega)) rfl (by first | decide | assumption | (simp only [cnt]; omega)) (Nat.le_of_ble_eq_true rfl) rfl rfl (Nat.le_of_ble_eq_true rfl) (Nat.le_of_ble_eq_true rfl) (Nat.le_of_ble_eq_true rfl) (Nat.le_of_ble_eq_true rfl) (Nat.le_of_ble_eq_true rfl) ?_
      refine m_iasn (n := j) rfl rfl (Nat.le_of_ble_eq_true rfl) rfl (by first | decide | assumption | (simp only [cnt]; omega)) (by omega) (by simp only [aln]; omega) ?_
      refine m_iinc rfl rfl rfl (Nat.le_of_ble_eq_true rfl) rfl ?_
      refine m_goto (tgt := 2) rfl rfl rfl ?_
      exact hk
  · refine m_iload_n rfl rfl rfl ?_
    refine m_aload_n rfl rfl rfl ?_
    refine m_alen rfl rfl (Nat.le_of_ble_eq_true rfl) (Or.inl rfl) (by first | decide | assumption | (simp only [cnt]; omega)) ?_
    refine m_icmp_ge (tgt := 24) rfl rfl rfl (by omega) (by decide) (fun c5 => ?_) (fun c5 => ?_)
    · refine m_vret rfl rfl rfl (Nat.le_of_ble_eq_true rfl) (Nat.le_of_ble_eq_true rfl) ?_
      exact ⟨rfl, rfl⟩
    · exfalso; simp only [aln] at c5; omega

def prf33 (j : Nat) (s : zkM) : zkM := mset (ps s (s 33 0 j)).2 33 0 j (ps s (s 33 0 j)).1
def prw33 (m : zkM) : zkM := lp prf33 24 m
theorem prw33_b (m : zkM) : (prw33 m) 7 0 36 = m 7 0 36 + 24 ∧ (prw33 m) 7 0 37 = m 7 0 37 :=
  lp_inv (fun (j : Nat) (s : zkM) => s 7 0 36 = m 7 0 36 + j ∧ s 7 0 37 = m 7 0 37) prf33 24 m ⟨by omega, rfl⟩ (fun j s _ hI => ⟨by show (ps s (s 33 0 j)).2 7 0 36 = _; rw [ps_36]; omega, by show (ps s (s 33 0 j)).2 7 0 37 = _; rw [ps_37]; exact hI.2⟩)
set_option maxRecDepth 10000 in
theorem c_passRow33 {l : Launch} {G : zkG} {mem : zkM} (hl : l.stackTraces = false) (h36 : 0 ≤ mem 7 0 36 ∧ mem 7 0 36 + 24 ≤ 3600) (h37 : mem 7 0 37 = 0 ∨ mem 7 0 37 = 1) : zkCt l G i_Mo_passRow 1 0 0 [vr 7 0, vr 33 0] mem (zkR0 (prw33 mem)) := by
  refine zkCt_of hl ok_Mo_passRow (by decide +kernel) rfl rfl (List.forall_mem_cons.mpr ⟨rfl, (List.forall_mem_cons.mpr ⟨rfl, fun _ h => nomatch h⟩)⟩) (Nat.le_of_ble_eq_true rfl) ?_
  refine m_iconst rfl rfl ?_
  refine m_istore_n rfl rfl (Nat.le_of_ble_eq_true rfl) rfl ?_
  refine zk_loop (P := fun (j : Nat) (s : zkM) => zkW l G i_Mo_passRow _ 0 0 2 [some (vr 7 0), some (vr 33 0), some (vi j)] [] s) (I := fun j s => s 7 0 36 = mem 7 0 36 + j ∧ s 7 0 37 = mem 7 0 37) prf33 24 mem ⟨by omega, rfl⟩ (fun j s _ hI => ⟨by show (ps s (s 33 0 j)).2 7 0 36 = _; rw [ps_36]; omega, by show (ps s (s 33 0 j)).2 7 0 37 = _; rw [ps_37]; exact hI.2⟩) (fun j s hj hI hk => ?_) (fun hI => ?_)
  · refine m_iload_n rfl rfl rfl ?_
    refine m_aload_n rfl rfl rfl ?_
    refine m_alen rfl rfl (Nat.le_of_ble_eq_true rfl) (Or.inl rfl) (by first | decide | assumption | (simp only [cnt]; omega)) ?_
    refine m_icmp_ge (tgt := 24) rfl rfl rfl (by omega) (by decide) (fun c5 => ?_) (fun c5 => ?_)
    · exfalso; simp only [aln] at c5; omega
    · refine m_aload_n rfl rfl rfl ?_
      refine m_iload_n rfl rfl rfl ?_
      refine m_aload_n rfl rfl rfl ?_
      refine m_aload_n rfl rfl rfl ?_
      refine m_iload_n rfl rfl rfl ?_
      refine m_ialx (n := j) (y := s 33 _ (j)) rfl rfl (Nat.le_of_ble_eq_true rfl) rfl (by first | decide | assumption | (simp only [cnt]; omega)) (by omega) (by simp only [aln]; omega) rfl ?_
      refine m_cv1 rfl rfl lk_7_283 (c_pass hl (by omega) (by omega)) rfl (by first | decide | assumption | (simp only [cnt]; omega)) (Nat.le_of_ble_eq_true rfl) rfl rfl (Nat.le_of_ble_eq_true rfl) (Nat.le_of_ble_eq_true rfl) (Nat.le_of_ble_eq_true rfl) (Nat.le_of_ble_eq_true rfl) (Nat.le_of_ble_eq_true rfl) ?_
      refine m_iasn (n := j) rfl rfl (Nat.le_of_ble_eq_true rfl) rfl (by first | decide | assumption | (simp only [cnt]; omega)) (by omega) (by simp only [aln]; omega) ?_
      refine m_iinc rfl rfl rfl (Nat.le_of_ble_eq_true rfl) rfl ?_
      refine m_goto (tgt := 2) rfl rfl rfl ?_
      exact hk
  · refine m_iload_n rfl rfl rfl ?_
    refine m_aload_n rfl rfl rfl ?_
    refine m_alen rfl rfl (Nat.le_of_ble_eq_true rfl) (Or.inl rfl) (by first | decide | assumption | (simp only [cnt]; omega)) ?_
    refine m_icmp_ge (tgt := 24) rfl rfl rfl (by omega) (by decide) (fun c5 => ?_) (fun c5 => ?_)
    · refine m_vret rfl rfl rfl (Nat.le_of_ble_eq_true rfl) (Nat.le_of_ble_eq_true rfl) ?_
      exact ⟨rfl, rfl⟩
    · exfalso; simp only [aln] at c5; omega

def prf34 (j : Nat) (s : zkM) : zkM := mset (ps s (s 34 0 j)).2 34 0 j (ps s (s 34 0 j)).1
def prw34 (m : zkM) : zkM := lp prf34 400 m
theorem prw34_b (m : zkM) : (prw34 m) 7 0 36 = m 7 0 36 + 400 ∧ (prw34 m) 7 0 37 = m 7 0 37 :=
  lp_inv (fun (j : Nat) (s : zkM) => s 7 0 36 = m 7 0 36 + j ∧ s 7 0 37 = m 7 0 37) prf34 400 m ⟨by omega, rfl⟩ (fun j s _ hI => ⟨by show (ps s (s 34 0 j)).2 7 0 36 = _; rw [ps_36]; omega, by show (ps s (s 34 0 j)).2 7 0 37 = _; rw [ps_37]; exact hI.2⟩)
set_option maxRecDepth 10000 in
theorem c_passRow34 {l : Launch} {G : zkG} {mem : zkM} (hl : l.stackTraces = false) (h36 : 0 ≤ mem 7 0 36 ∧ mem 7 0 36 + 400 ≤ 3600) (h37 : mem 7 0 37 = 0 ∨ mem 7 0 37 = 1) : zkCt l G i_Mo_passRow 1 0 0 [vr 7 0, vr 34 0] mem (zkR0 (prw34 mem)) := by
  refine zkCt_of hl ok_Mo_passRow (by decide +kernel) rfl rfl (List.forall_mem_cons.mpr ⟨rfl, (List.forall_mem_cons.mpr ⟨rfl, fun _ h => nomatch h⟩)⟩) (Nat.le_of_ble_eq_true rfl) ?_
  refine m_iconst rfl rfl ?_
  refine m_istore_n rfl rfl (Nat.le_of_ble_eq_true rfl) rfl ?_
  refine zk_loop (P := fun (j : Nat) (s : zkM) => zkW l G i_Mo_passRow _ 0 0 2 [some (vr 7 0), some (vr 34 0), some (vi j)] [] s) (I := fun j s => s 7 0 36 = mem 7 0 36 + j ∧ s 7 0 37 = mem 7 0 37) prf34 400 mem ⟨by omega, rfl⟩ (fun j s _ hI => ⟨by show (ps s (s 34 0 j)).2 7 0 36 = _; rw [ps_36]; omega, by show (ps s (s 34 0 j)).2 7 0 37 = _; rw [ps_37]; exact hI.2⟩) (fun j s hj hI hk => ?_) (fun hI => ?_)
  · refine m_iload_n rfl rfl rfl ?_
    refine m_aload_n rfl rfl rfl ?_
    refine m_alen rfl rfl (Nat.le_of_ble_eq_true rfl) (Or.inl rfl) (by first | decide | assumption | (simp only [cnt]; omega)) ?_
    refine m_icmp_ge (tgt := 24) rfl rfl rfl (by omega) (by decide) (fun c5 => ?_) (fun c5 => ?_)
    · exfalso; simp only [aln] at c5; omega
    · refine m_aload_n rfl rfl rfl ?_
      refine m_iload_n rfl rfl rfl ?_
      refine m_aload_n rfl rfl rfl ?_
      refine m_aload_n rfl rfl rfl ?_
      refine m_iload_n rfl rfl rfl ?_
      refine m_ialx (n := j) (y := s 34 _ (j)) rfl rfl (Nat.le_of_ble_eq_true rfl) rfl (by first | decide | assumption | (simp only [cnt]; omega)) (by omega) (by simp only [aln]; omega) rfl ?_
      refine m_cv1 rfl rfl lk_7_283 (c_pass hl (by omega) (by omega)) rfl (by first | decide | assumption | (simp only [cnt]; omega)) (Nat.le_of_ble_eq_true rfl) rfl rfl (Nat.le_of_ble_eq_true rfl) (Nat.le_of_ble_eq_true rfl) (Nat.le_of_ble_eq_true rfl) (Nat.le_of_ble_eq_true rfl) (Nat.le_of_ble_eq_true rfl) ?_
      refine m_iasn (n := j) rfl rfl (Nat.le_of_ble_eq_true rfl) rfl (by first | decide | assumption | (simp only [cnt]; omega)) (by omega) (by simp only [aln]; omega) ?_
      refine m_iinc rfl rfl rfl (Nat.le_of_ble_eq_true rfl) rfl ?_
      refine m_goto (tgt := 2) rfl rfl rfl ?_
      exact hk
  · refine m_iload_n rfl rfl rfl ?_
    refine m_aload_n rfl rfl rfl ?_
    refine m_alen rfl rfl (Nat.le_of_ble_eq_true rfl) (Or.inl rfl) (by first | decide | assumption | (simp only [cnt]; omega)) ?_
    refine m_icmp_ge (tgt := 24) rfl rfl rfl (by omega) (by decide) (fun c5 => ?_) (fun c5 => ?_)
    · refine m_vret rfl rfl rfl (Nat.le_of_ble_eq_true rfl) (Nat.le_of_ble_eq_true rfl) ?_
      exact ⟨rfl, rfl⟩
    · exfalso; simp only [aln] at c5; omega

def prf35 (j : Nat) (s : zkM) : zkM := mset (ps s (s 35 0 j)).2 35 0 j (ps s (s 35 0 j)).1
def prw35 (m : zkM) : zkM := lp prf35 2005 m
theorem prw35_b (m : zkM) : (prw35 m) 7 0 36 = m 7 0 36 + 2005 ∧ (prw35 m) 7 0 37 = m 7 0 37 :=
  lp_inv (fun (j : Nat) (s : zkM) => s 7 0 36 = m 7 0 36 + j ∧ s 7 0 37 = m 7 0 37) prf35 2005 m ⟨by omega, rfl⟩ (fun j s _ hI => ⟨by show (ps s (s 35 0 j)).2 7 0 36 = _; rw [ps_36]; omega, by show (ps s (s 35 0 j)).2 7 0 37 = _; rw [ps_37]; exact hI.2⟩)
set_option maxRecDepth 10000 in
theorem c_passRow35 {l : Launch} {G : zkG} {mem : zkM} (hl : l.stackTraces = false) (h36 : 0 ≤ mem 7 0 36 ∧ mem 7 0 36 + 2005 ≤ 3600) (h37 : mem 7 0 37 = 0 ∨ mem 7 0 37 = 1) : zkCt l G i_Mo_passRow 1 0 0 [vr 7 0, vr 35 0] mem (zkR0 (prw35 mem)) := by
  refine zkCt_of hl ok_Mo_passRow (by decide +kernel) rfl rfl (List.forall_mem_cons.mpr ⟨rfl, (List.forall_mem_cons.mpr ⟨rfl, fun _ h => nomatch h⟩)⟩) (Nat.le_of_ble_eq_true rfl) ?_
  refine m_iconst rfl rfl ?_
  refine m_istore_n rfl rfl (Nat.le_of_ble_eq_true rfl) rfl ?_
  refine zk_loop (P := fun (j : Nat) (s : zkM) => zkW l G i_Mo_passRow _ 0 0 2 [some (vr 7 0), some (vr 35 0), some (vi j)] [] s) (I := fun j s => s 7 0 36 = mem 7 0 36 + j ∧ s 7 0 37 = mem 7 0 37) prf35 2005 mem ⟨by omega, rfl⟩ (fun j s _ hI => ⟨by show (ps s (s 35 0 j)).2 7 0 36 = _; rw [ps_36]; omega, by show (ps s (s 35 0 j)).2 7 0 37 = _; rw [ps_37]; exact hI.2⟩) (fun j s hj hI hk => ?_) (fun hI => ?_)
  · refine m_iload_n rfl rfl rfl ?_
    refine m_aload_n rfl rfl rfl ?_
    refine m_alen rfl rfl (Nat.le_of_ble_eq_true rfl) (Or.inl rfl) (by first | decide | assumption | (simp only [cnt]; omega)) ?_
    refine m_icmp_ge (tgt := 24) rfl rfl rfl (by omega) (by decide) (fun c5 => ?_) (fun c5 => ?_)
    · exfalso; simp only [aln] at c5; omega
    · refine m_aload_n rfl rfl rfl ?_
      refine m_iload_n rfl rfl rfl ?_
      refine m_aload_n rfl rfl rfl ?_
      refine m_aload_n rfl rfl rfl ?_
      refine m_iload_n rfl rfl rfl ?_
      refine m_ialx (n := j) (y := s 35 _ (j)) rfl rfl (Nat.le_of_ble_eq_true rfl) rfl (by first | decide | assumption | (simp only [cnt]; omega)) (by omega) (by simp only [aln]; omega) rfl ?_
      refine m_cv1 rfl rfl lk_7_283 (c_pass hl (by omega) (by omega)) rfl (by first | decide | assumption | (simp only [cnt]; omega)) (Nat.le_of_ble_eq_true rfl) rfl rfl (Nat.le_of_ble_eq_true rfl) (Nat.le_of_ble_eq_true rfl) (Nat.le_of_ble_eq_true rfl) (Nat.le_of_ble_eq_true rfl) (Nat.le_of_ble_eq_true rfl) ?_
      refine m_iasn (n := j) rfl rfl (Nat.le_of_ble_eq_true rfl) rfl (by first | decide | assumption | (simp only [cnt]; omega)) (by omega) (by simp only [aln]; omega) ?_
      refine m_iinc rfl rfl rfl (Nat.le_of_ble_eq_true rfl) rfl ?_
      refine m_goto (tgt := 2) rfl rfl rfl ?_
      exact hk
  · refine m_iload_n rfl rfl rfl ?_
    refine m_aload_n rfl rfl rfl ?_
    refine m_alen rfl rfl (Nat.le_of_ble_eq_true rfl) (Or.inl rfl) (by first | decide | assumption | (simp only [cnt]; omega)) ?_
    refine m_icmp_ge (tgt := 24) rfl rfl rfl (by omega) (by decide) (fun c5 => ?_) (fun c5 => ?_)
    · refine m_vret rfl rfl rfl (Nat.le_of_ble_eq_true rfl) (Nat.le_of_ble_eq_true rfl) ?_
      exact ⟨rfl, rfl⟩
    · exfalso; simp only [aln] at c5; omega

def prf36 (j : Nat) (s : zkM) : zkM := mset (ps s (s 36 0 j)).2 36 0 j (ps s (s 36 0 j)).1
def prw36 (m : zkM) : zkM := lp prf36 5 m
theorem prw36_b (m : zkM) : (prw36 m) 7 0 36 = m 7 0 36 + 5 ∧ (prw36 m) 7 0 37 = m 7 0 37 :=
  lp_inv (fun (j : Nat) (s : zkM) => s 7 0 36 = m 7 0 36 + j ∧ s 7 0 37 = m 7 0 37) prf36 5 m ⟨by omega, rfl⟩ (fun j s _ hI => ⟨by show (ps s (s 36 0 j)).2 7 0 36 = _; rw [ps_36]; omega, by show (ps s (s 36 0 j)).2 7 0 37 = _; rw [ps_37]; exact hI.2⟩)
set_option maxRecDepth 10000 in
theorem c_passRow36 {l : Launch} {G : zkG} {mem : zkM} (hl : l.stackTraces = false) (h36 : 0 ≤ mem 7 0 36 ∧ mem 7 0 36 + 5 ≤ 3600) (h37 : mem 7 0 37 = 0 ∨ mem 7 0 37 = 1) : zkCt l G i_Mo_passRow 1 0 0 [vr 7 0, vr 36 0] mem (zkR0 (prw36 mem)) := by
  refine zkCt_of hl ok_Mo_passRow (by decide +kernel) rfl rfl (List.forall_mem_cons.mpr ⟨rfl, (List.forall_mem_cons.mpr ⟨rfl, fun _ h => nomatch h⟩)⟩) (Nat.le_of_ble_eq_true rfl) ?_
  refine m_iconst rfl rfl ?_
  refine m_istore_n rfl rfl (Nat.le_of_ble_eq_true rfl) rfl ?_
  refine zk_loop (P := fun (j : Nat) (s : zkM) => zkW l G i_Mo_passRow _ 0 0 2 [some (vr 7 0), some (vr 36 0), some (vi j)] [] s) (I := fun j s => s 7 0 36 = mem 7 0 36 + j ∧ s 7 0 37 = mem 7 0 37) prf36 5 mem ⟨by omega, rfl⟩ (fun j s _ hI => ⟨by show (ps s (s 36 0 j)).2 7 0 36 = _; rw [ps_36]; omega, by show (ps s (s 36 0 j)).2 7 0 37 = _; rw [ps_37]; exact hI.2⟩) (fun j s hj hI hk => ?_) (fun hI => ?_)
  · refine m_iload_n rfl rfl rfl ?_
    refine m_aload_n rfl rfl rfl ?_
    refine m_alen rfl rfl (Nat.le_of_ble_eq_true rfl) (Or.inl rfl) (by first | decide | assumption | (simp only [cnt]; omega)) ?_
    refine m_icmp_ge (tgt := 24) rfl rfl rfl (by omega) (by decide) (fun c5 => ?_) (fun c5 => ?_)
    · exfalso; simp only [aln] at c5; omega
    · refine m_aload_n rfl rfl rfl ?_
      refine m_iload_n rfl rfl rfl ?_
      refine m_aload_n rfl rfl rfl ?_
      refine m_aload_n rfl rfl rfl ?_
      refine m_iload_n rfl rfl rfl ?_
      refine m_ialx (n := j) (y := s 36 _ (j)) rfl rfl (Nat.le_of_ble_eq_true rfl) rfl (by first | decide | assumption | (simp only [cnt]; omega)) (by omega) (by simp only [aln]; omega) rfl ?_
      refine m_cv1 rfl rfl lk_7_283 (c_pass hl (by omega) (by omega)) rfl (by first | decide | assumption | (simp only [cnt]; omega)) (Nat.le_of_ble_eq_true rfl) rfl rfl (Nat.le_of_ble_eq_true rfl) (Nat.le_of_ble_eq_true rfl) (Nat.le_of_ble_eq_true rfl) (Nat.le_of_ble_eq_true rfl) (Nat.le_of_ble_eq_true rfl) ?_
      refine m_iasn (n := j) rfl rfl (Nat.le_of_ble_eq_true rfl) rfl (by first | decide | assumption | (simp only [cnt]; omega)) (by omega) (by simp only [aln]; omega) ?_
      refine m_iinc rfl rfl rfl (Nat.le_of_ble_eq_true rfl) rfl ?_
      refine m_goto (tgt := 2) rfl rfl rfl ?_
      exact hk
  · refine m_iload_n rfl rfl rfl ?_
    refine m_aload_n rfl rfl rfl ?_
    refine m_alen rfl rfl (Nat.le_of_ble_eq_true rfl) (Or.inl rfl) (by first | decide | assumption | (simp only [cnt]; omega)) ?_
    refine m_icmp_ge (tgt := 24) rfl rfl rfl (by omega) (by decide) (fun c5 => ?_) (fun c5 => ?_)
    · refine m_vret rfl rfl rfl (Nat.le_of_ble_eq_true rfl) (Nat.le_of_ble_eq_true rfl) ?_
      exact ⟨rfl, rfl⟩
    · exfalso; simp only [aln] at c5; omega

def prf37 (j : Nat) (s : zkM) : zkM := mset (ps s (s 37 0 j)).2 37 0 j (ps s (s 37 0 j)).1
def prw37 (m : zkM) : zkM := lp prf37 5 m
theorem prw37_b (m : zkM) : (prw37 m) 7 0 36 = m 7 0 36 + 5 ∧ (prw37 m) 7 0 37 = m 7 0 37 :=
  lp_inv (fun (j : Nat) (s : zkM) => s 7 0 36 = m 7 0 36 + j ∧ s 7 0 37 = m 7 0 37) prf37 5 m ⟨by omega, rfl⟩ (fun j s _ hI => ⟨by show (ps s (s 37 0 j)).2 7 0 36 = _; rw [ps_36]; omega, by show (ps s (s 37 0 j)).2 7 0 37 = _; rw [ps_37]; exact hI.2⟩)
set_option maxRecDepth 10000 in
theorem c_passRow37 {l : Launch} {G : zkG} {mem : zkM} (hl : l.stackTraces = false) (h36 : 0 ≤ mem 7 0 36 ∧ mem 7 0 36 + 5 ≤ 3600) (h37 : mem 7 0 37 = 0 ∨ mem 7 0 37 = 1) : zkCt l G i_Mo_passRow 1 0 0 [vr 7 0, vr 37 0] mem (zkR0 (prw37 mem)) := by
  refine zkCt_of hl ok_Mo_passRow (by decide +kernel) rfl rfl (List.forall_mem_cons.mpr ⟨rfl, (List.forall_mem_cons.mpr ⟨rfl, fun _ h => nomatch h⟩)⟩) (Nat.le_of_ble_eq_true rfl) ?_
  refine m_iconst rfl rfl ?_
  refine m_istore_n rfl rfl (Nat.le_of_ble_eq_true rfl) rfl ?_
  refine zk_loop (P := fun (j : Nat) (s : zkM) => zkW l G i_Mo_passRow _ 0 0 2 [some (vr 7 0), some (vr 37 0), some (vi j)] [] s) (I := fun j s => s 7 0 36 = mem 7 0 36 + j ∧ s 7 0 37 = mem 7 0 37) prf37 5 mem ⟨by omega, rfl⟩ (fun j s _ hI => ⟨by show (ps s (s 37 0 j)).2 7 0 36 = _; rw [ps_36]; omega, by show (ps s (s 37 0 j)).2 7 0 37 = _; rw [ps_37]; exact hI.2⟩) (fun j s hj hI hk => ?_) (fun hI => ?_)
  · refine m_iload_n rfl rfl rfl ?_
    refine m_aload_n rfl rfl rfl ?_
    refine m_alen rfl rfl (Nat.le_of_ble_eq_true rfl) (Or.inl rfl) (by first | decide | assumption | (simp only [cnt]; omega)) ?_
    refine m_icmp_ge (tgt := 24) rfl rfl rfl (by omega) (by decide) (fun c5 => ?_) (fun c5 => ?_)
    · exfalso; simp only [aln] at c5; omega
    · refine m_aload_n rfl rfl rfl ?_
      refine m_iload_n rfl rfl rfl ?_
      refine m_aload_n rfl rfl rfl ?_
      refine m_aload_n rfl rfl rfl ?_
      refine m_iload_n rfl rfl rfl ?_
      refine m_ialx (n := j) (y := s 37 _ (j)) rfl rfl (Nat.le_of_ble_eq_true rfl) rfl (by first | decide | assumption | (simp only [cnt]; omega)) (by omega) (by simp only [aln]; omega) rfl ?_
      refine m_cv1 rfl rfl lk_7_283 (c_pass hl (by omega) (by omega)) rfl (by first | decide | assumption | (simp only [cnt]; omega)) (Nat.le_of_ble_eq_true rfl) rfl rfl (Nat.le_of_ble_eq_true rfl) (Nat.le_of_ble_eq_true rfl) (Nat.le_of_ble_eq_true rfl) (Nat.le_of_ble_eq_true rfl) (Nat.le_of_ble_eq_true rfl) ?_
      refine m_iasn (n := j) rfl rfl (Nat.le_of_ble_eq_true rfl) rfl (by first | decide | assumption | (simp only [cnt]; omega)) (by omega) (by simp only [aln]; omega) ?_
      refine m_iinc rfl rfl rfl (Nat.le_of_ble_eq_true rfl) rfl ?_
      refine m_goto (tgt := 2) rfl rfl rfl ?_
      exact hk
  · refine m_iload_n rfl rfl rfl ?_
    refine m_aload_n rfl rfl rfl ?_
    refine m_alen rfl rfl (Nat.le_of_ble_eq_true rfl) (Or.inl rfl) (by first | decide | assumption | (simp only [cnt]; omega)) ?_
    refine m_icmp_ge (tgt := 24) rfl rfl rfl (by omega) (by decide) (fun c5 => ?_) (fun c5 => ?_)
    · refine m_vret rfl rfl rfl (Nat.le_of_ble_eq_true rfl) (Nat.le_of_ble_eq_true rfl) ?_
      exact ⟨rfl, rfl⟩
    · exfalso; simp only [aln] at c5; omega

def prf38 (j : Nat) (s : zkM) : zkM := mset (ps s (s 38 0 j)).2 38 0 j (ps s (s 38 0 j)).1
def prw38 (m : zkM) : zkM := lp prf38 5 m
theorem prw38_b (m : zkM) : (prw38 m) 7 0 36 = m 7 0 36 + 5 ∧ (prw38 m) 7 0 37 = m 7 0 37 :=
  lp_inv (fun (j : Nat) (s : zkM) => s 7 0 36 = m 7 0 36 + j ∧ s 7 0 37 = m 7 0 37) prf38 5 m ⟨by omega, rfl⟩ (fun j s _ hI => ⟨by show (ps s (s 38 0 j)).2 7 0 36 = _; rw [ps_36]; omega, by show (ps s (s 38 0 j)).2 7 0 37 = _; rw [ps_37]; exact hI.2⟩)
set_option maxRecDepth 10000 in
theorem c_passRow38 {l : Launch} {G : zkG} {mem : zkM} (hl : l.stackTraces = false) (h36 : 0 ≤ mem 7 0 36 ∧ mem 7 0 36 + 5 ≤ 3600) (h37 : mem 7 0 37 = 0 ∨ mem 7 0 37 = 1) : zkCt l G i_Mo_passRow 1 0 0 [vr 7 0, vr 38 0] mem (zkR0 (prw38 mem)) := by
  refine zkCt_of hl ok_Mo_passRow (by decide +kernel) rfl rfl (List.forall_mem_cons.mpr ⟨rfl, (List.forall_mem_cons.mpr ⟨rfl, fun _ h => nomatch h⟩)⟩) (Nat.le_of_ble_eq_true rfl) ?_
  refine m_iconst rfl rfl ?_
  refine m_istore_n rfl rfl (Nat.le_of_ble_eq_true rfl) rfl ?_
  refine zk_loop (P := fun (j : Nat) (s : zkM) => zkW l G i_Mo_passRow _ 0 0 2 [some (vr 7 0), some (vr 38 0), some (vi j)] [] s) (I := fun j s => s 7 0 36 = mem 7 0 36 + j ∧ s 7 0 37 = mem 7 0 37) prf38 5 mem ⟨by omega, rfl⟩ (fun j s _ hI => ⟨by show (ps s (s 38 0 j)).2 7 0 36 = _; rw [ps_36]; omega, by show (ps s (s 38 0 j)).2 7 0 37 = _; rw [ps_37]; exact hI.2⟩) (fun j s hj hI hk => ?_) (fun hI => ?_)
  · refine m_iload_n rfl rfl rfl ?_
    refine m_aload_n rfl rfl rfl ?_
    refine m_alen rfl rfl (Nat.le_of_ble_eq_true rfl) (Or.inl rfl) (by first | decide | assumption | (simp only [cnt]; omega)) ?_
    refine m_icmp_ge (tgt := 24) rfl rfl rfl (by omega) (by decide) (fun c5 => ?_) (fun c5 => ?_)
    · exfalso; simp only [aln] at c5; omega
    · refine m_aload_n rfl rfl rfl ?_
      refine m_iload_n rfl rfl rfl ?_
      refine m_aload_n rfl rfl rfl ?_
      refine m_aload_n rfl rfl rfl ?_
      refine m_iload_n rfl rfl rfl ?_
      refine m_ialx (n := j) (y := s 38 _ (j)) rfl rfl (Nat.le_of_ble_eq_true rfl) rfl (by first | decide | assumption | (simp only [cnt]; omega)) (by omega) (by simp only [aln]; omega) rfl ?_
      refine m_cv1 rfl rfl lk_7_283 (c_pass hl (by omega) (by omega)) rfl (by first | decide | assumption | (simp only [cnt]; omega)) (Nat.le_of_ble_eq_true rfl) rfl rfl (Nat.le_of_ble_eq_true rfl) (Nat.le_of_ble_eq_true rfl) (Nat.le_of_ble_eq_true rfl) (Nat.le_of_ble_eq_true rfl) (Nat.le_of_ble_eq_true rfl) ?_
      refine m_iasn (n := j) rfl rfl (Nat.le_of_ble_eq_true rfl) rfl (by first | decide | assumption | (simp only [cnt]; omega)) (by omega) (by simp only [aln]; omega) ?_
      refine m_iinc rfl rfl rfl (Nat.le_of_ble_eq_true rfl) rfl ?_
      refine m_goto (tgt := 2) rfl rfl rfl ?_
      exact hk
  · refine m_iload_n rfl rfl rfl ?_
    refine m_aload_n rfl rfl rfl ?_
    refine m_alen rfl rfl (Nat.le_of_ble_eq_true rfl) (Or.inl rfl) (by first | decide | assumption | (simp only [cnt]; omega)) ?_
    refine m_icmp_ge (tgt := 24) rfl rfl rfl (by omega) (by decide) (fun c5 => ?_) (fun c5 => ?_)
    · refine m_vret rfl rfl rfl (Nat.le_of_ble_eq_true rfl) (Nat.le_of_ble_eq_true rfl) ?_
      exact ⟨rfl, rfl⟩
    · exfalso; simp only [aln] at c5; omega

def prf39 (j : Nat) (s : zkM) : zkM := mset (ps s (s 39 0 j)).2 39 0 j (ps s (s 39 0 j)).1
def prw39 (m : zkM) : zkM := lp prf39 30 m
theorem prw39_b (m : zkM) : (prw39 m) 7 0 36 = m 7 0 36 + 30 ∧ (prw39 m) 7 0 37 = m 7 0 37 :=
  lp_inv (fun (j : Nat) (s : zkM) => s 7 0 36 = m 7 0 36 + j ∧ s 7 0 37 = m 7 0 37) prf39 30 m ⟨by omega, rfl⟩ (fun j s _ hI => ⟨by show (ps s (s 39 0 j)).2 7 0 36 = _; rw [ps_36]; omega, by show (ps s (s 39 0 j)).2 7 0 37 = _; rw [ps_37]; exact hI.2⟩)
set_option maxRecDepth 10000 in
theorem c_passRow39 {l : Launch} {G : zkG} {mem : zkM} (hl : l.stackTraces = false) (h36 : 0 ≤ mem 7 0 36 ∧ mem 7 0 36 + 30 ≤ 3600) (h37 : mem 7 0 37 = 0 ∨ mem 7 0 37 = 1) : zkCt l G i_Mo_passRow 1 0 0 [vr 7 0, vr 39 0] mem (zkR0 (prw39 mem)) := by
  refine zkCt_of hl ok_Mo_passRow (by decide +kernel) rfl rfl (List.forall_mem_cons.mpr ⟨rfl, (List.forall_mem_cons.mpr ⟨rfl, fun _ h => nomatch h⟩)⟩) (Nat.le_of_ble_eq_true rfl) ?_
  refine m_iconst rfl rfl ?_
  refine m_istore_n rfl rfl (Nat.le_of_ble_eq_true rfl) rfl ?_
  refine zk_loop (P := fun (j : Nat) (s : zkM) => zkW l G i_Mo_passRow _ 0 0 2 [some (vr 7 0), some (vr 39 0), some (vi j)] [] s) (I := fun j s => s 7 0 36 = mem 7 0 36 + j ∧ s 7 0 37 = mem 7 0 37) prf39 30 mem ⟨by omega, rfl⟩ (fun j s _ hI => ⟨by show (ps s (s 39 0 j)).2 7 0 36 = _; rw [ps_36]; omega, by show (ps s (s 39 0 j)).2 7 0 37 = _; rw [ps_37]; exact hI.2⟩) (fun j s hj hI hk => ?_) (fun hI => ?_)
  · refine m_iload_n rfl rfl rfl ?_
    refine m_aload_n rfl rfl rfl ?_
    refine m_alen rfl rfl (Nat.le_of_ble_eq_true rfl) (Or.inl rfl) (by first | decide | assumption | (simp only [cnt]; omega)) ?_
    refine m_icmp_ge (tgt := 24) rfl rfl rfl (by omega) (by decide) (fun c5 => ?_) (fun c5 => ?_)
    · exfalso; simp only [aln] at c5; omega
    · refine m_aload_n rfl rfl rfl ?_
      refine m_iload_n rfl rfl rfl ?_
      refine m_aload_n rfl rfl rfl ?_
      refine m_aload_n rfl rfl rfl ?_
      refine m_iload_n rfl rfl rfl ?_
      refine m_ialx (n := j) (y := s 39 _ (j)) rfl rfl (Nat.le_of_ble_eq_true rfl) rfl (by first | decide | assumption | (simp only [cnt]; omega)) (by omega) (by simp only [aln]; omega) rfl ?_
      refine m_cv1 rfl rfl lk_7_283 (c_pass hl (by omega) (by omega)) rfl (by first | decide | assumption | (simp only [cnt]; omega)) (Nat.le_of_ble_eq_true rfl) rfl rfl (Nat.le_of_ble_eq_true rfl) (Nat.le_of_ble_eq_true rfl) (Nat.le_of_ble_eq_true rfl) (Nat.le_of_ble_eq_true rfl) (Nat.le_of_ble_eq_true rfl) ?_
      refine m_iasn (n := j) rfl rfl (Nat.le_of_ble_eq_true rfl) rfl (by first | decide | assumption | (simp only [cnt]; omega)) (by omega) (by simp only [aln]; omega) ?_
      refine m_iinc rfl rfl rfl (Nat.le_of_ble_eq_true rfl) rfl ?_
      refine m_goto (tgt := 2) rfl rfl rfl ?_
      exact hk
  · refine m_iload_n rfl rfl rfl ?_
    refine m_aload_n rfl rfl rfl ?_
    refine m_alen rfl rfl (Nat.le_of_ble_eq_true rfl) (Or.inl rfl) (by first | decide | assumption | (simp only [cnt]; omega)) ?_
    refine m_icmp_ge (tgt := 24) rfl rfl rfl (by omega) (by decide) (fun c5 => ?_) (fun c5 => ?_)
    · refine m_vret rfl rfl rfl (Nat.le_of_ble_eq_true rfl) (Nat.le_of_ble_eq_true rfl) ?_
      exact ⟨rfl, rfl⟩
    · exfalso; simp only [aln] at c5; omega

def prf40 (j : Nat) (s : zkM) : zkM := mset (ps s (s 40 0 j)).2 40 0 j (ps s (s 40 0 j)).1
def prw40 (m : zkM) : zkM := lp prf40 5 m
theorem prw40_b (m : zkM) : (prw40 m) 7 0 36 = m 7 0 36 + 5 ∧ (prw40 m) 7 0 37 = m 7 0 37 :=
  lp_inv (fun (j : Nat) (s : zkM) => s 7 0 36 = m 7 0 36 + j ∧ s 7 0 37 = m 7 0 37) prf40 5 m ⟨by omega, rfl⟩ (fun j s _ hI => ⟨by show (ps s (s 40 0 j)).2 7 0 36 = _; rw [ps_36]; omega, by show (ps s (s 40 0 j)).2 7 0 37 = _; rw [ps_37]; exact hI.2⟩)
set_option maxRecDepth 10000 in
theorem c_passRow40 {l : Launch} {G : zkG} {mem : zkM} (hl : l.stackTraces = false) (h36 : 0 ≤ mem 7 0 36 ∧ mem 7 0 36 + 5 ≤ 3600) (h37 : mem 7 0 37 = 0 ∨ mem 7 0 37 = 1) : zkCt l G i_Mo_passRow 1 0 0 [vr 7 0, vr 40 0] mem (zkR0 (prw40 mem)) := by
  refine zkCt_of hl ok_Mo_passRow (by decide +kernel) rfl rfl (List.forall_mem_cons.mpr ⟨rfl, (List.forall_mem_cons.mpr ⟨rfl, fun _ h => nomatch h⟩)⟩) (Nat.le_of_ble_eq_true rfl) ?_
  refine m_iconst rfl rfl ?_
  refine m_istore_n rfl rfl (Nat.le_of_ble_eq_true rfl) rfl ?_
  refine zk_loop (P := fun (j : Nat) (s : zkM) => zkW l G i_Mo_passRow _ 0 0 2 [some (vr 7 0), some (vr 40 0), some (vi j)] [] s) (I := fun j s => s 7 0 36 = mem 7 0 36 + j ∧ s 7 0 37 = mem 7 0 37) prf40 5 mem ⟨by omega, rfl⟩ (fun j s _ hI => ⟨by show (ps s (s 40 0 j)).2 7 0 36 = _; rw [ps_36]; omega, by show (ps s (s 40 0 j)).2 7 0 37 = _; rw [ps_37]; exact hI.2⟩) (fun j s hj hI hk => ?_) (fun hI => ?_)
  · refine m_iload_n rfl rfl rfl ?_
    refine m_aload_n rfl rfl rfl ?_
    refine m_alen rfl rfl (Nat.le_of_ble_eq_true rfl) (Or.inl rfl) (by first | decide | assumption | (simp only [cnt]; omega)) ?_
    refine m_icmp_ge (tgt := 24) rfl rfl rfl (by omega) (by decide) (fun c5 => ?_) (fun c5 => ?_)
    · exfalso; simp only [aln] at c5; omega
    · refine m_aload_n rfl rfl rfl ?_
      refine m_iload_n rfl rfl rfl ?_
      refine m_aload_n rfl rfl rfl ?_
      refine m_aload_n rfl rfl rfl ?_
      refine m_iload_n rfl rfl rfl ?_
      refine m_ialx (n := j) (y := s 40 _ (j)) rfl rfl (Nat.le_of_ble_eq_true rfl) rfl (by first | decide | assumption | (simp only [cnt]; omega)) (by omega) (by simp only [aln]; omega) rfl ?_
      refine m_cv1 rfl rfl lk_7_283 (c_pass hl (by omega) (by omega)) rfl (by first | decide | assumption | (simp only [cnt]; omega)) (Nat.le_of_ble_eq_true rfl) rfl rfl (Nat.le_of_ble_eq_true rfl) (Nat.le_of_ble_eq_true rfl) (Nat.le_of_ble_eq_true rfl) (Nat.le_of_ble_eq_true rfl) (Nat.le_of_ble_eq_true rfl) ?_
      refine m_iasn (n := j) rfl rfl (Nat.le_of_ble_eq_true rfl) rfl (by first | decide | assumption | (simp only [cnt]; omega)) (by omega) (by simp only [aln]; omega) ?_
      refine m_iinc rfl rfl rfl (Nat.le_of_ble_eq_true rfl) rfl ?_
      refine m_goto (tgt := 2) rfl rfl rfl ?_
      exact hk
  · refine m_iload_n rfl rfl rfl ?_
    refine m_aload_n rfl rfl rfl ?_
    refine m_alen rfl rfl (Nat.le_of_ble_eq_true rfl) (Or.inl rfl) (by first | decide | assumption | (simp only [cnt]; omega)) ?_
    refine m_icmp_ge (tgt := 24) rfl rfl rfl (by omega) (by decide) (fun c5 => ?_) (fun c5 => ?_)
    · refine m_vret rfl rfl rfl (Nat.le_of_ble_eq_true rfl) (Nat.le_of_ble_eq_true rfl) ?_
      exact ⟨rfl, rfl⟩
    · exfalso; simp only [aln] at c5; omega

def prf41 (j : Nat) (s : zkM) : zkM := mset (ps s (s 41 0 j)).2 41 0 j (ps s (s 41 0 j)).1
def prw41 (m : zkM) : zkM := lp prf41 12 m
theorem prw41_b (m : zkM) : (prw41 m) 7 0 36 = m 7 0 36 + 12 ∧ (prw41 m) 7 0 37 = m 7 0 37 :=
  lp_inv (fun (j : Nat) (s : zkM) => s 7 0 36 = m 7 0 36 + j ∧ s 7 0 37 = m 7 0 37) prf41 12 m ⟨by omega, rfl⟩ (fun j s _ hI => ⟨by show (ps s (s 41 0 j)).2 7 0 36 = _; rw [ps_36]; omega, by show (ps s (s 41 0 j)).2 7 0 37 = _; rw [ps_37]; exact hI.2⟩)
set_option maxRecDepth 10000 in
theorem c_passRow41 {l : Launch} {G : zkG} {mem : zkM} (hl : l.stackTraces = false) (h36 : 0 ≤ mem 7 0 36 ∧ mem 7 0 36 + 12 ≤ 3600) (h37 : mem 7 0 37 = 0 ∨ mem 7 0 37 = 1) : zkCt l G i_Mo_passRow 1 0 0 [vr 7 0, vr 41 0] mem (zkR0 (prw41 mem)) := by
  refine zkCt_of hl ok_Mo_passRow (by decide +kernel) rfl rfl (List.forall_mem_cons.mpr ⟨rfl, (List.forall_mem_cons.mpr ⟨rfl, fun _ h => nomatch h⟩)⟩) (Nat.le_of_ble_eq_true rfl) ?_
  refine m_iconst rfl rfl ?_
  refine m_istore_n rfl rfl (Nat.le_of_ble_eq_true rfl) rfl ?_
  refine zk_loop (P := fun (j : Nat) (s : zkM) => zkW l G i_Mo_passRow _ 0 0 2 [some (vr 7 0), some (vr 41 0), some (vi j)] [] s) (I := fun j s => s 7 0 36 = mem 7 0 36 + j ∧ s 7 0 37 = mem 7 0 37) prf41 12 mem ⟨by omega, rfl⟩ (fun j s _ hI => ⟨by show (ps s (s 41 0 j)).2 7 0 36 = _; rw [ps_36]; omega, by show (ps s (s 41 0 j)).2 7 0 37 = _; rw [ps_37]; exact hI.2⟩) (fun j s hj hI hk => ?_) (fun hI => ?_)
  · refine m_iload_n rfl rfl rfl ?_
    refine m_aload_n rfl rfl rfl ?_
    refine m_alen rfl rfl (Nat.le_of_ble_eq_true rfl) (Or.inl rfl) (by first | decide | assumption | (simp only [cnt]; omega)) ?_
    refine m_icmp_ge (tgt := 24) rfl rfl rfl (by omega) (by decide) (fun c5 => ?_) (fun c5 => ?_)
    · exfalso; simp only [aln] at c5; omega
    · refine m_aload_n rfl rfl rfl ?_
      refine m_iload_n rfl rfl rfl ?_
      refine m_aload_n rfl rfl rfl ?_
      refine m_aload_n rfl rfl rfl ?_
      refine m_iload_n rfl rfl rfl ?_
      refine m_ialx (n := j) (y := s 41 _ (j)) rfl rfl (Nat.le_of_ble_eq_true rfl) rfl (by first | decide | assumption | (simp only [cnt]; omega)) (by omega) (by simp only [aln]; omega) rfl ?_
      refine m_cv1 rfl rfl lk_7_283 (c_pass hl (by omega) (by omega)) rfl (by first | decide | assumption | (simp only [cnt]; omega)) (Nat.le_of_ble_eq_true rfl) rfl rfl (Nat.le_of_ble_eq_true rfl) (Nat.le_of_ble_eq_true rfl) (Nat.le_of_ble_eq_true rfl) (Nat.le_of_ble_eq_true rfl) (Nat.le_of_ble_eq_true rfl) ?_
      refine m_iasn (n := j) rfl rfl (Nat.le_of_ble_eq_true rfl) rfl (by first | decide | assumption | (simp only [cnt]; omega)) (by omega) (by simp only [aln]; omega) ?_
      refine m_iinc rfl rfl rfl (Nat.le_of_ble_eq_true rfl) rfl ?_
      refine m_goto (tgt := 2) rfl rfl rfl ?_
      exact hk
  · refine m_iload_n rfl rfl rfl ?_
    refine m_aload_n rfl rfl rfl ?_
    refine m_alen rfl rfl (Nat.le_of_ble_eq_true rfl) (Or.inl rfl) (by first | decide | assumption | (simp only [cnt]; omega)) ?_
    refine m_icmp_ge (tgt := 24) rfl rfl rfl (by omega) (by decide) (fun c5 => ?_) (fun c5 => ?_)
    · refine m_vret rfl rfl rfl (Nat.le_of_ble_eq_true rfl) (Nat.le_of_ble_eq_true rfl) ?_
      exact ⟨rfl, rfl⟩
    · exfalso; simp only [aln] at c5; omega

def prf42 (j : Nat) (s : zkM) : zkM := mset (ps s (s 42 0 j)).2 42 0 j (ps s (s 42 0 j)).1
def prw42 (m : zkM) : zkM := lp prf42 12 m
theorem prw42_b (m : zkM) : (prw42 m) 7 0 36 = m 7 0 36 + 12 ∧ (prw42 m) 7 0 37 = m 7 0 37 :=
  lp_inv (fun (j : Nat) (s : zkM) => s 7 0 36 = m 7 0 36 + j ∧ s 7 0 37 = m 7 0 37) prf42 12 m ⟨by omega, rfl⟩ (fun j s _ hI => ⟨by show (ps s (s 42 0 j)).2 7 0 36 = _; rw [ps_36]; omega, by show (ps s (s 42 0 j)).2 7 0 37 = _; rw [ps_37]; exact hI.2⟩)
set_option maxRecDepth 10000 in
theorem c_passRow42 {l : Launch} {G : zkG} {mem : zkM} (hl : l.stackTraces = false) (h36 : 0 ≤ mem 7 0 36 ∧ mem 7 0 36 + 12 ≤ 3600) (h37 : mem 7 0 37 = 0 ∨ mem 7 0 37 = 1) : zkCt l G i_Mo_passRow 1 0 0 [vr 7 0, vr 42 0] mem (zkR0 (prw42 mem)) := by
  refine zkCt_of hl ok_Mo_passRow (by decide +kernel) rfl rfl (List.forall_mem_cons.mpr ⟨rfl, (List.forall_mem_cons.mpr ⟨rfl, fun _ h => nomatch h⟩)⟩) (Nat.le_of_ble_eq_true rfl) ?_
  refine m_iconst rfl rfl ?_
  refine m_istore_n rfl rfl (Nat.le_of_ble_eq_true rfl) rfl ?_
  refine zk_loop (P := fun (j : Nat) (s : zkM) => zkW l G i_Mo_passRow _ 0 0 2 [some (vr 7 0), some (vr 42 0), some (vi j)] [] s) (I := fun j s => s 7 0 36 = mem 7 0 36 + j ∧ s 7 0 37 = mem 7 0 37) prf42 12 mem ⟨by omega, rfl⟩ (fun j s _ hI => ⟨by show (ps s (s 42 0 j)).2 7 0 36 = _; rw [ps_36]; omega, by show (ps s (s 42 0 j)).2 7 0 37 = _; rw [ps_37]; exact hI.2⟩) (fun j s hj hI hk => ?_) (fun hI => ?_)
  · refine m_iload_n rfl rfl rfl ?_
    refine m_aload_n rfl rfl rfl ?_
    refine m_alen rfl rfl (Nat.le_of_ble_eq_true rfl) (Or.inl rfl) (by first | decide | assumption | (simp only [cnt]; omega)) ?_
    refine m_icmp_ge (tgt := 24) rfl rfl rfl (by omega) (by decide) (fun c5 => ?_) (fun c5 => ?_)
    · exfalso; simp only [aln] at c5; omega
    · refine m_aload_n rfl rfl rfl ?_
      refine m_iload_n rfl rfl rfl ?_
      refine m_aload_n rfl rfl rfl ?_
      refine m_aload_n rfl rfl rfl ?_
      refine m_iload_n rfl rfl rfl ?_
      refine m_ialx (n := j) (y := s 42 _ (j)) rfl rfl (Nat.le_of_ble_eq_true rfl) rfl (by first | decide | assumption | (simp only [cnt]; omega)) (by omega) (by simp only [aln]; omega) rfl ?_
      refine m_cv1 rfl rfl lk_7_283 (c_pass hl (by omega) (by omega)) rfl (by first | decide | assumption | (simp only [cnt]; omega)) (Nat.le_of_ble_eq_true rfl) rfl rfl (Nat.le_of_ble_eq_true rfl) (Nat.le_of_ble_eq_true rfl) (Nat.le_of_ble_eq_true rfl) (Nat.le_of_ble_eq_true rfl) (Nat.le_of_ble_eq_true rfl) ?_
      refine m_iasn (n := j) rfl rfl (Nat.le_of_ble_eq_true rfl) rfl (by first | decide | assumption | (simp only [cnt]; omega)) (by omega) (by simp only [aln]; omega) ?_
      refine m_iinc rfl rfl rfl (Nat.le_of_ble_eq_true rfl) rfl ?_
      refine m_goto (tgt := 2) rfl rfl rfl ?_
      exact hk
  · refine m_iload_n rfl rfl rfl ?_
    refine m_aload_n rfl rfl rfl ?_
    refine m_alen rfl rfl (Nat.le_of_ble_eq_true rfl) (Or.inl rfl) (by first | decide | assumption | (simp only [cnt]; omega)) ?_
    refine m_icmp_ge (tgt := 24) rfl rfl rfl (by omega) (by decide) (fun c5 => ?_) (fun c5 => ?_)
    · refine m_vret rfl rfl rfl (Nat.le_of_ble_eq_true rfl) (Nat.le_of_ble_eq_true rfl) ?_
      exact ⟨rfl, rfl⟩
    · exfalso; simp only [aln] at c5; omega

def prf43 (j : Nat) (s : zkM) : zkM := mset (ps s (s 43 0 j)).2 43 0 j (ps s (s 43 0 j)).1
def prw43 (m : zkM) : zkM := lp prf43 800 m
theorem prw43_b (m : zkM) : (prw43 m) 7 0 36 = m 7 0 36 + 800 ∧ (prw43 m) 7 0 37 = m 7 0 37 :=
  lp_inv (fun (j : Nat) (s : zkM) => s 7 0 36 = m 7 0 36 + j ∧ s 7 0 37 = m 7 0 37) prf43 800 m ⟨by omega, rfl⟩ (fun j s _ hI => ⟨by show (ps s (s 43 0 j)).2 7 0 36 = _; rw [ps_36]; omega, by show (ps s (s 43 0 j)).2 7 0 37 = _; rw [ps_37]; exact hI.2⟩)
set_option maxRecDepth 10000 in
theorem c_passRow43 {l : Launch} {G : zkG} {mem : zkM} (hl : l.stackTraces = false) (h36 : 0 ≤ mem 7 0 36 ∧ mem 7 0 36 + 800 ≤ 3600) (h37 : mem 7 0 37 = 0 ∨ mem 7 0 37 = 1) : zkCt l G i_Mo_passRow 1 0 0 [vr 7 0, vr 43 0] mem (zkR0 (prw43 mem)) := by
  refine zkCt_of hl ok_Mo_passRow (by decide +kernel) rfl rfl (List.forall_mem_cons.mpr ⟨rfl, (List.forall_mem_cons.mpr ⟨rfl, fun _ h => nomatch h⟩)⟩) (Nat.le_of_ble_eq_true rfl) ?_
  refine m_iconst rfl rfl ?_
  refine m_istore_n rfl rfl (Nat.le_of_ble_eq_true rfl) rfl ?_
  refine zk_loop (P := fun (j : Nat) (s : zkM) => zkW l G i_Mo_passRow _ 0 0 2 [some (vr 7 0), some (vr 43 0), some (vi j)] [] s) (I := fun j s => s 7 0 36 = mem 7 0 36 + j ∧ s 7 0 37 = mem 7 0 37) prf43 800 mem ⟨by omega, rfl⟩ (fun j s _ hI => ⟨by show (ps s (s 43 0 j)).2 7 0 36 = _; rw [ps_36]; omega, by show (ps s (s 43 0 j)).2 7 0 37 = _; rw [ps_37]; exact hI.2⟩) (fun j s hj hI hk => ?_) (fun hI => ?_)
  · refine m_iload_n rfl rfl rfl ?_
    refine m_aload_n rfl rfl rfl ?_
    refine m_alen rfl rfl (Nat.le_of_ble_eq_true rfl) (Or.inl rfl) (by first | decide | assumption | (simp only [cnt]; omega)) ?_
    refine m_icmp_ge (tgt := 24) rfl rfl rfl (by omega) (by decide) (fun c5 => ?_) (fun c5 => ?_)
    · exfalso; simp only [aln] at c5; omega
    · refine m_aload_n rfl rfl rfl ?_
      refine m_iload_n rfl rfl rfl ?_
      refine m_aload_n rfl rfl rfl ?_
      refine m_aload_n rfl rfl rfl ?_
      refine m_iload_n rfl rfl rfl ?_
      refine m_ialx (n := j) (y := s 43 _ (j)) rfl rfl (Nat.le_of_ble_eq_true rfl) rfl (by first | decide | assumption | (simp only [cnt]; omega)) (by omega) (by simp only [aln]; omega) rfl ?_
      refine m_cv1 rfl rfl lk_7_283 (c_pass hl (by omega) (by omega)) rfl (by first | decide | assumption | (simp only [cnt]; omega)) (Nat.le_of_ble_eq_true rfl) rfl rfl (Nat.le_of_ble_eq_true rfl) (Nat.le_of_ble_eq_true rfl) (Nat.le_of_ble_eq_true rfl) (Nat.le_of_ble_eq_true rfl) (Nat.le_of_ble_eq_true rfl) ?_
      refine m_iasn (n := j) rfl rfl (Nat.le_of_ble_eq_true rfl) rfl (by first | decide | assumption | (simp only [cnt]; omega)) (by omega) (by simp only [aln]; omega) ?_
      refine m_iinc rfl rfl rfl (Nat.le_of_ble_eq_true rfl) rfl ?_
      refine m_goto (tgt := 2) rfl rfl rfl ?_
      exact hk
  · refine m_iload_n rfl rfl rfl ?_
    refine m_aload_n rfl rfl rfl ?_
    refine m_alen rfl rfl (Nat.le_of_ble_eq_true rfl) (Or.inl rfl) (by first | decide | assumption | (simp only [cnt]; omega)) ?_
    refine m_icmp_ge (tgt := 24) rfl rfl rfl (by omega) (by decide) (fun c5 => ?_) (fun c5 => ?_)
    · refine m_vret rfl rfl rfl (Nat.le_of_ble_eq_true rfl) (Nat.le_of_ble_eq_true rfl) ?_
      exact ⟨rfl, rfl⟩
    · exfalso; simp only [aln] at c5; omega

def psf (k : Nat) (m : zkM) : zkM := mset (ps m (m 7 0 k)).2 7 0 k (ps m (m 7 0 k)).1
theorem psf_b {k : Nat} (h1 : k ≠ 36) (h2 : k ≠ 37) (m : zkM) : (psf k m) 7 0 36 = m 7 0 36 + 1 ∧ (psf k m) 7 0 37 = m 7 0 37 := by
  unfold psf
  rw [ms_k h1.symm, ms_k h2.symm, ps_36, ps_37]
  exact ⟨rfl, rfl⟩
def psA0 (m : zkM) (b : Int) : zkM := mset (mset m 7 0 37 b) 7 0 36 0
def psA1 (m : zkM) (b : Int) : zkM := psf 1 (psA0 m b)
def psA2 (m : zkM) (b : Int) : zkM := psf 2 (psA1 m b)
def psA3 (m : zkM) (b : Int) : zkM := psf 6 (psA2 m b)
def psA4 (m : zkM) (b : Int) : zkM := psf 7 (psA3 m b)
def psA5 (m : zkM) (b : Int) : zkM := psf 8 (psA4 m b)
def psA6 (m : zkM) (b : Int) : zkM := psf 9 (psA5 m b)
def psA7 (m : zkM) (b : Int) : zkM := psf 11 (psA6 m b)
def psA8 (m : zkM) (b : Int) : zkM := psf 19 (psA7 m b)
def psA9 (m : zkM) (b : Int) : zkM := psf 20 (psA8 m b)
def psA10 (m : zkM) (b : Int) : zkM := psf 21 (psA9 m b)
def psA11 (m : zkM) (b : Int) : zkM := psf 22 (psA10 m b)
def psA12 (m : zkM) (b : Int) : zkM := psf 26 (psA11 m b)
def psA13 (m : zkM) (b : Int) : zkM := prw30 (psA12 m b)
def psA14 (m : zkM) (b : Int) : zkM := prw31 (psA13 m b)
def psA15 (m : zkM) (b : Int) : zkM := prw32 (psA14 m b)
def psA16 (m : zkM) (b : Int) : zkM := prw33 (psA15 m b)
def psA17 (m : zkM) (b : Int) : zkM := prw34 (psA16 m b)
def psA18 (m : zkM) (b : Int) : zkM := prw35 (psA17 m b)
def psA19 (m : zkM) (b : Int) : zkM := prw36 (psA18 m b)
def psA20 (m : zkM) (b : Int) : zkM := prw37 (psA19 m b)
def psA21 (m : zkM) (b : Int) : zkM := prw38 (psA20 m b)
def psA22 (m : zkM) (b : Int) : zkM := prw39 (psA21 m b)
def psA23 (m : zkM) (b : Int) : zkM := prw40 (psA22 m b)
def psA24 (m : zkM) (b : Int) : zkM := prw41 (psA23 m b)
def psA25 (m : zkM) (b : Int) : zkM := prw42 (psA24 m b)
def psA26 (m : zkM) (b : Int) : zkM := prw43 (psA25 m b)
theorem psA_0 (m : zkM) (b : Int) : psA0 m b 7 0 36 = 0 ∧ psA0 m b 7 0 37 = b := ⟨rfl, rfl⟩
theorem psA_1 (m : zkM) (b : Int) : psA1 m b 7 0 36 = 1 ∧ psA1 m b 7 0 37 = b := by
  have h := psA_0 m b
  have h2 := psf_b (k := 1) (by decide) (by decide) (psA0 m b)
  exact ⟨by show psf 1 (psA0 m b) 7 0 36 = _; omega, by show psf 1 (psA0 m b) 7 0 37 = _; rw [h2.2]; exact h.2⟩
theorem psA_2 (m : zkM) (b : Int) : psA2 m b 7 0 36 = 2 ∧ psA2 m b 7 0 37 = b := by
  have h := psA_1 m b
  have h2 := psf_b (k := 2) (by decide) (by decide) (psA1 m b)
  exact ⟨by show psf 2 (psA1 m b) 7 0 36 = _; omega, by show psf 2 (psA1 m b) 7 0 37 = _; rw [h2.2]; exact h.2⟩
theorem psA_3 (m : zkM) (b : Int) : psA3 m b 7 0 36 = 3 ∧ psA3 m b 7 0 37 = b := by
  have h := psA_2 m b
  have h2 := psf_b (k := 6) (by decide) (by decide) (psA2 m b)
  exact ⟨by show psf 6 (psA2 m b) 7 0 36 = _; omega, by show psf 6 (psA2 m b) 7 0 37 = _; rw [h2.2]; exact h.2⟩
theorem psA_4 (m : zkM) (b : Int) : psA4 m b 7 0 36 = 4 ∧ psA4 m b 7 0 37 = b := by
  have h := psA_3 m b
  have h2 := psf_b (k := 7) (by decide) (by decide) (psA3 m b)
  exact ⟨by show psf 7 (psA3 m b) 7 0 36 = _; omega, by show psf 7 (psA3 m b) 7 0 37 = _; rw [h2.2]; exact h.2⟩
theorem psA_5 (m : zkM) (b : Int) : psA5 m b 7 0 36 = 5 ∧ psA5 m b 7 0 37 = b := by
  have h := psA_4 m b
  have h2 := psf_b (k := 8) (by decide) (by decide) (psA4 m b)
  exact ⟨by show psf 8 (psA4 m b) 7 0 36 = _; omega, by show psf 8 (psA4 m b) 7 0 37 = _; rw [h2.2]; exact h.2⟩
theorem psA_6 (m : zkM) (b : Int) : psA6 m b 7 0 36 = 6 ∧ psA6 m b 7 0 37 = b := by
  have h := psA_5 m b
  have h2 := psf_b (k := 9) (by decide) (by decide) (psA5 m b)
  exact ⟨by show psf 9 (psA5 m b) 7 0 36 = _; omega, by show psf 9 (psA5 m b) 7 0 37 = _; rw [h2.2]; exact h.2⟩
theorem psA_7 (m : zkM) (b : Int) : psA7 m b 7 0 36 = 7 ∧ psA7 m b 7 0 37 = b := by
  have h := psA_6 m b
  have h2 := psf_b (k := 11) (by decide) (by decide) (psA6 m b)
  exact ⟨by show psf 11 (psA6 m b) 7 0 36 = _; omega, by show psf 11 (psA6 m b) 7 0 37 = _; rw [h2.2]; exact h.2⟩
theorem psA_8 (m : zkM) (b : Int) : psA8 m b 7 0 36 = 8 ∧ psA8 m b 7 0 37 = b := by
  have h := psA_7 m b
  have h2 := psf_b (k := 19) (by decide) (by decide) (psA7 m b)
  exact ⟨by show psf 19 (psA7 m b) 7 0 36 = _; omega, by show psf 19 (psA7 m b) 7 0 37 = _; rw [h2.2]; exact h.2⟩
theorem psA_9 (m : zkM) (b : Int) : psA9 m b 7 0 36 = 9 ∧ psA9 m b 7 0 37 = b := by
  have h := psA_8 m b
  have h2 := psf_b (k := 20) (by decide) (by decide) (psA8 m b)
  exact ⟨by show psf 20 (psA8 m b) 7 0 36 = _; omega, by show psf 20 (psA8 m b) 7 0 37 = _; rw [h2.2]; exact h.2⟩
theorem psA_10 (m : zkM) (b : Int) : psA10 m b 7 0 36 = 10 ∧ psA10 m b 7 0 37 = b := by
  have h := psA_9 m b
  have h2 := psf_b (k := 21) (by decide) (by decide) (psA9 m b)
  exact ⟨by show psf 21 (psA9 m b) 7 0 36 = _; omega, by show psf 21 (psA9 m b) 7 0 37 = _; rw [h2.2]; exact h.2⟩
theorem psA_11 (m : zkM) (b : Int) : psA11 m b 7 0 36 = 11 ∧ psA11 m b 7 0 37 = b := by
  have h := psA_10 m b
  have h2 := psf_b (k := 22) (by decide) (by decide) (psA10 m b)
  exact ⟨by show psf 22 (psA10 m b) 7 0 36 = _; omega, by show psf 22 (psA10 m b) 7 0 37 = _; rw [h2.2]; exact h.2⟩
theorem psA_12 (m : zkM) (b : Int) : psA12 m b 7 0 36 = 12 ∧ psA12 m b 7 0 37 = b := by
  have h := psA_11 m b
  have h2 := psf_b (k := 26) (by decide) (by decide) (psA11 m b)
  exact ⟨by show psf 26 (psA11 m b) 7 0 36 = _; omega, by show psf 26 (psA11 m b) 7 0 37 = _; rw [h2.2]; exact h.2⟩
theorem psA_13 (m : zkM) (b : Int) : psA13 m b 7 0 36 = 32 ∧ psA13 m b 7 0 37 = b := by
  have h := psA_12 m b
  have h2 := prw30_b (psA12 m b)
  exact ⟨by show prw30 (psA12 m b) 7 0 36 = _; omega, by show prw30 (psA12 m b) 7 0 37 = _; rw [h2.2]; exact h.2⟩
theorem psA_14 (m : zkM) (b : Int) : psA14 m b 7 0 36 = 37 ∧ psA14 m b 7 0 37 = b := by
  have h := psA_13 m b
  have h2 := prw31_b (psA13 m b)
  exact ⟨by show prw31 (psA13 m b) 7 0 36 = _; omega, by show prw31 (psA13 m b) 7 0 37 = _; rw [h2.2]; exact h.2⟩
theorem psA_15 (m : zkM) (b : Int) : psA15 m b 7 0 36 = 97 ∧ psA15 m b 7 0 37 = b := by
  have h := psA_14 m b
  have h2 := prw32_b (psA14 m b)
  exact ⟨by show prw32 (psA14 m b) 7 0 36 = _; omega, by show prw32 (psA14 m b) 7 0 37 = _; rw [h2.2]; exact h.2⟩
theorem psA_16 (m : zkM) (b : Int) : psA16 m b 7 0 36 = 121 ∧ psA16 m b 7 0 37 = b := by
  have h := psA_15 m b
  have h2 := prw33_b (psA15 m b)
  exact ⟨by show prw33 (psA15 m b) 7 0 36 = _; omega, by show prw33 (psA15 m b) 7 0 37 = _; rw [h2.2]; exact h.2⟩
theorem psA_17 (m : zkM) (b : Int) : psA17 m b 7 0 36 = 521 ∧ psA17 m b 7 0 37 = b := by
  have h := psA_16 m b
  have h2 := prw34_b (psA16 m b)
  exact ⟨by show prw34 (psA16 m b) 7 0 36 = _; omega, by show prw34 (psA16 m b) 7 0 37 = _; rw [h2.2]; exact h.2⟩
theorem psA_18 (m : zkM) (b : Int) : psA18 m b 7 0 36 = 2526 ∧ psA18 m b 7 0 37 = b := by
  have h := psA_17 m b
  have h2 := prw35_b (psA17 m b)
  exact ⟨by show prw35 (psA17 m b) 7 0 36 = _; omega, by show prw35 (psA17 m b) 7 0 37 = _; rw [h2.2]; exact h.2⟩
theorem psA_19 (m : zkM) (b : Int) : psA19 m b 7 0 36 = 2531 ∧ psA19 m b 7 0 37 = b := by
  have h := psA_18 m b
  have h2 := prw36_b (psA18 m b)
  exact ⟨by show prw36 (psA18 m b) 7 0 36 = _; omega, by show prw36 (psA18 m b) 7 0 37 = _; rw [h2.2]; exact h.2⟩
theorem psA_20 (m : zkM) (b : Int) : psA20 m b 7 0 36 = 2536 ∧ psA20 m b 7 0 37 = b := by
  have h := psA_19 m b
  have h2 := prw37_b (psA19 m b)
  exact ⟨by show prw37 (psA19 m b) 7 0 36 = _; omega, by show prw37 (psA19 m b) 7 0 37 = _; rw [h2.2]; exact h.2⟩
theorem psA_21 (m : zkM) (b : Int) : psA21 m b 7 0 36 = 2541 ∧ psA21 m b 7 0 37 = b := by
  have h := psA_20 m b
  have h2 := prw38_b (psA20 m b)
  exact ⟨by show prw38 (psA20 m b) 7 0 36 = _; omega, by show prw38 (psA20 m b) 7 0 37 = _; rw [h2.2]; exact h.2⟩
theorem psA_22 (m : zkM) (b : Int) : psA22 m b 7 0 36 = 2571 ∧ psA22 m b 7 0 37 = b := by
  have h := psA_21 m b
  have h2 := prw39_b (psA21 m b)
  exact ⟨by show prw39 (psA21 m b) 7 0 36 = _; omega, by show prw39 (psA21 m b) 7 0 37 = _; rw [h2.2]; exact h.2⟩
theorem psA_23 (m : zkM) (b : Int) : psA23 m b 7 0 36 = 2576 ∧ psA23 m b 7 0 37 = b := by
  have h := psA_22 m b
  have h2 := prw40_b (psA22 m b)
  exact ⟨by show prw40 (psA22 m b) 7 0 36 = _; omega, by show prw40 (psA22 m b) 7 0 37 = _; rw [h2.2]; exact h.2⟩
theorem psA_24 (m : zkM) (b : Int) : psA24 m b 7 0 36 = 2588 ∧ psA24 m b 7 0 37 = b := by
  have h := psA_23 m b
  have h2 := prw41_b (psA23 m b)
  exact ⟨by show prw41 (psA23 m b) 7 0 36 = _; omega, by show prw41 (psA23 m b) 7 0 37 = _; rw [h2.2]; exact h.2⟩
theorem psA_25 (m : zkM) (b : Int) : psA25 m b 7 0 36 = 2600 ∧ psA25 m b 7 0 37 = b := by
  have h := psA_24 m b
  have h2 := prw42_b (psA24 m b)
  exact ⟨by show prw42 (psA24 m b) 7 0 36 = _; omega, by show prw42 (psA24 m b) 7 0 37 = _; rw [h2.2]; exact h.2⟩
theorem psA_26 (m : zkM) (b : Int) : psA26 m b 7 0 36 = 3400 ∧ psA26 m b 7 0 37 = b := by
  have h := psA_25 m b
  have h2 := prw43_b (psA25 m b)
  exact ⟨by show prw43 (psA25 m b) 7 0 36 = _; omega, by show prw43 (psA25 m b) 7 0 37 = _; rw [h2.2]; exact h.2⟩
set_option maxRecDepth 10000 in
theorem c_passAll {l : Launch} {G : zkG} {mem : zkM} (hl : l.stackTraces = false) {b : Int} (hb : b = 0 ∨ b = 1) : zkCt l G i_Mo_passAll 2 0 0 [vr 7 0, vi b] mem (zkR0 (psA26 mem b)) := by
  refine zkCt_of hl ok_Mo_passAll (by decide +kernel) rfl rfl (List.forall_mem_cons.mpr ⟨rfl, (List.forall_mem_cons.mpr ⟨rfl, fun _ h => nomatch h⟩)⟩) (Nat.le_of_ble_eq_true rfl) ?_
  refine m_aload_n rfl rfl rfl ?_
  refine m_iload_n rfl rfl rfl ?_
  refine m_pzx (k := 37) rfl rfl (Nat.le_of_ble_eq_true rfl) rfl rfl rfl rfl (by first | decide | assumption | (simp only [cnt]; omega)) hb ?_
  refine m_aload_n rfl rfl rfl ?_
  refine m_iconst rfl rfl ?_
  refine m_pi (k := 36) rfl rfl (Nat.le_of_ble_eq_true rfl) rfl rfl rfl rfl (by first | decide | assumption | (simp only [cnt]; omega)) ?_
  show zkW l G i_Mo_passAll _ 0 0 10 _ _ (psA0 mem b)
  refine m_aload_n rfl rfl rfl ?_
  refine m_aload_n rfl rfl rfl ?_
  refine m_aload_n rfl rfl rfl ?_
  refine m_gix (k := 1) (x := (psA0 mem b) 7 _ 1) rfl rfl (Nat.le_of_ble_eq_true rfl) rfl rfl (by first | decide | assumption | (simp only [cnt]; omega)) rfl ?_
  refine m_cv1 rfl rfl lk_7_283 (c_pass (mem := psA0 mem b) hl (by have h := psA_0 mem b; omega) (by have h := psA_0 mem b; omega)) rfl (by first | decide | assumption | (simp only [cnt]; omega)) (Nat.le_of_ble_eq_true rfl) rfl rfl (Nat.le_of_ble_eq_true rfl) (Nat.le_of_ble_eq_true rfl) (Nat.le_of_ble_eq_true rfl) (Nat.le_of_ble_eq_true rfl) (Nat.le_of_ble_eq_true rfl) ?_
  refine m_pi (k := 1) rfl rfl (Nat.le_of_ble_eq_true rfl) rfl rfl rfl rfl (by first | decide | assumption | (simp only [cnt]; omega)) ?_
  show zkW l G i_Mo_passAll _ 0 0 22 _ _ (psA1 mem b)
  refine m_aload_n rfl rfl rfl ?_
  refine m_aload_n rfl rfl rfl ?_
  refine m_aload_n rfl rfl rfl ?_
  refine m_gix (k := 2) (x := (psA1 mem b) 7 _ 2) rfl rfl (Nat.le_of_ble_eq_true rfl) rfl rfl (by first | decide | assumption | (simp only [cnt]; omega)) rfl ?_
  refine m_cv1 rfl rfl lk_7_283 (c_pass (mem := psA1 mem b) hl (by have h := psA_1 mem b; omega) (by have h := psA_1 mem b; omega)) rfl (by first | decide | assumption | (simp only [cnt]; omega)) (Nat.le_of_ble_eq_true rfl) rfl rfl (Nat.le_of_ble_eq_true rfl) (Nat.le_of_ble_eq_true rfl) (Nat.le_of_ble_eq_true rfl) (Nat.le_of_ble_eq_true rfl) (Nat.le_of_ble_eq_true rfl) ?_
  refine m_pi (k := 2) rfl rfl (Nat.le_of_ble_eq_true rfl) rfl rfl rfl rfl (by first | decide | assumption | (simp only [cnt]; omega)) ?_
  show zkW l G i_Mo_passAll _ 0 0 34 _ _ (psA2 mem b)
  refine m_aload_n rfl rfl rfl ?_
  refine m_aload_n rfl rfl rfl ?_
  refine m_aload_n rfl rfl rfl ?_
  refine m_gix (k := 6) (x := (psA2 mem b) 7 _ 6) rfl rfl (Nat.le_of_ble_eq_true rfl) rfl rfl (by first | decide | assumption | (simp only [cnt]; omega)) rfl ?_
  refine m_cv1 rfl rfl lk_7_283 (c_pass (mem := psA2 mem b) hl (by have h := psA_2 mem b; omega) (by have h := psA_2 mem b; omega)) rfl (by first | decide | assumption | (simp only [cnt]; omega)) (Nat.le_of_ble_eq_true rfl) rfl rfl (Nat.le_of_ble_eq_true rfl) (Nat.le_of_ble_eq_true rfl) (Nat.le_of_ble_eq_true rfl) (Nat.le_of_ble_eq_true rfl) (Nat.le_of_ble_eq_true rfl) ?_
  refine m_pi (k := 6) rfl rfl (Nat.le_of_ble_eq_true rfl) rfl rfl rfl rfl (by first | decide | assumption | (simp only [cnt]; omega)) ?_
  show zkW l G i_Mo_passAll _ 0 0 46 _ _ (psA3 mem b)
  refine m_aload_n rfl rfl rfl ?_
  refine m_aload_n rfl rfl rfl ?_
  refine m_aload_n rfl rfl rfl ?_
  refine m_gix (k := 7) (x := (psA3 mem b) 7 _ 7) rfl rfl (Nat.le_of_ble_eq_true rfl) rfl rfl (by first | decide | assumption | (simp only [cnt]; omega)) rfl ?_
  refine m_cv1 rfl rfl lk_7_283 (c_pass (mem := psA3 mem b) hl (by have h := psA_3 mem b; omega) (by have h := psA_3 mem b; omega)) rfl (by first | decide | assumption | (simp only [cnt]; omega)) (Nat.le_of_ble_eq_true rfl) rfl rfl (Nat.le_of_ble_eq_true rfl) (Nat.le_of_ble_eq_true rfl) (Nat.le_of_ble_eq_true rfl) (Nat.le_of_ble_eq_true rfl) (Nat.le_of_ble_eq_true rfl) ?_
  refine m_pi (k := 7) rfl rfl (Nat.le_of_ble_eq_true rfl) rfl rfl rfl rfl (by first | decide | assumption | (simp only [cnt]; omega)) ?_
  show zkW l G i_Mo_passAll _ 0 0 58 _ _ (psA4 mem b)
  refine m_aload_n rfl rfl rfl ?_
  refine m_aload_n rfl rfl rfl ?_
  refine m_aload_n rfl rfl rfl ?_
  refine m_gix (k := 8) (x := (psA4 mem b) 7 _ 8) rfl rfl (Nat.le_of_ble_eq_true rfl) rfl rfl (by first | decide | assumption | (simp only [cnt]; omega)) rfl ?_
  refine m_cv1 rfl rfl lk_7_283 (c_pass (mem := psA4 mem b) hl (by have h := psA_4 mem b; omega) (by have h := psA_4 mem b; omega)) rfl (by first | decide | assumption | (simp only [cnt]; omega)) (Nat.le_of_ble_eq_true rfl) rfl rfl (Nat.le_of_ble_eq_true rfl) (Nat.le_of_ble_eq_true rfl) (Nat.le_of_ble_eq_true rfl) (Nat.le_of_ble_eq_true rfl) (Nat.le_of_ble_eq_true rfl) ?_
  refine m_pi (k := 8) rfl rfl (Nat.le_of_ble_eq_true rfl) rfl rfl rfl rfl (by first | decide | assumption | (simp only [cnt]; omega)) ?_
  show zkW l G i_Mo_passAll _ 0 0 70 _ _ (psA5 mem b)
  refine m_aload_n rfl rfl rfl ?_
  refine m_aload_n rfl rfl rfl ?_
  refine m_aload_n rfl rfl rfl ?_
  refine m_gix (k := 9) (x := (psA5 mem b) 7 _ 9) rfl rfl (Nat.le_of_ble_eq_true rfl) rfl rfl (by first | decide | assumption | (simp only [cnt]; omega)) rfl ?_
  refine m_cv1 rfl rfl lk_7_283 (c_pass (mem := psA5 mem b) hl (by have h := psA_5 mem b; omega) (by have h := psA_5 mem b; omega)) rfl (by first | decide | assumption | (simp only [cnt]; omega)) (Nat.le_of_ble_eq_true rfl) rfl rfl (Nat.le_of_ble_eq_true rfl) (Nat.le_of_ble_eq_true rfl) (Nat.le_of_ble_eq_true rfl) (Nat.le_of_ble_eq_true rfl) (Nat.le_of_ble_eq_true rfl) ?_
  refine m_pi (k := 9) rfl rfl (Nat.le_of_ble_eq_true rfl) rfl rfl rfl rfl (by first | decide | assumption | (simp only [cnt]; omega)) ?_
  show zkW l G i_Mo_passAll _ 0 0 82 _ _ (psA6 mem b)
  refine m_aload_n rfl rfl rfl ?_
  refine m_aload_n rfl rfl rfl ?_
  refine m_aload_n rfl rfl rfl ?_
  refine m_gix (k := 11) (x := (psA6 mem b) 7 _ 11) rfl rfl (Nat.le_of_ble_eq_true rfl) rfl rfl (by first | decide | assumption | (simp only [cnt]; omega)) rfl ?_
  refine m_cv1 rfl rfl lk_7_283 (c_pass (mem := psA6 mem b) hl (by have h := psA_6 mem b; omega) (by have h := psA_6 mem b; omega)) rfl (by first | decide | assumption | (simp only [cnt]; omega)) (Nat.le_of_ble_eq_true rfl) rfl rfl (Nat.le_of_ble_eq_true rfl) (Nat.le_of_ble_eq_true rfl) (Nat.le_of_ble_eq_true rfl) (Nat.le_of_ble_eq_true rfl) (Nat.le_of_ble_eq_true rfl) ?_
  refine m_pi (k := 11) rfl rfl (Nat.le_of_ble_eq_true rfl) rfl rfl rfl rfl (by first | decide | assumption | (simp only [cnt]; omega)) ?_
  show zkW l G i_Mo_passAll _ 0 0 94 _ _ (psA7 mem b)
  refine m_aload_n rfl rfl rfl ?_
  refine m_aload_n rfl rfl rfl ?_
  refine m_aload_n rfl rfl rfl ?_
  refine m_gix (k := 19) (x := (psA7 mem b) 7 _ 19) rfl rfl (Nat.le_of_ble_eq_true rfl) rfl rfl (by first | decide | assumption | (simp only [cnt]; omega)) rfl ?_
  refine m_cv1 rfl rfl lk_7_283 (c_pass (mem := psA7 mem b) hl (by have h := psA_7 mem b; omega) (by have h := psA_7 mem b; omega)) rfl (by first | decide | assumption | (simp only [cnt]; omega)) (Nat.le_of_ble_eq_true rfl) rfl rfl (Nat.le_of_ble_eq_true rfl) (Nat.le_of_ble_eq_true rfl) (Nat.le_of_ble_eq_true rfl) (Nat.le_of_ble_eq_true rfl) (Nat.le_of_ble_eq_true rfl) ?_
  refine m_pi (k := 19) rfl rfl (Nat.le_of_ble_eq_true rfl) rfl rfl rfl rfl (by first | decide | assumption | (simp only [cnt]; omega)) ?_
  show zkW l G i_Mo_passAll _ 0 0 106 _ _ (psA8 mem b)
  refine m_aload_n rfl rfl rfl ?_
  refine m_aload_n rfl rfl rfl ?_
  refine m_aload_n rfl rfl rfl ?_
  refine m_gix (k := 20) (x := (psA8 mem b) 7 _ 20) rfl rfl (Nat.le_of_ble_eq_true rfl) rfl rfl (by first | decide | assumption | (simp only [cnt]; omega)) rfl ?_
  refine m_cv1 rfl rfl lk_7_283 (c_pass (mem := psA8 mem b) hl (by have h := psA_8 mem b; omega) (by have h := psA_8 mem b; omega)) rfl (by first | decide | assumption | (simp only [cnt]; omega)) (Nat.le_of_ble_eq_true rfl) rfl rfl (Nat.le_of_ble_eq_true rfl) (Nat.le_of_ble_eq_true rfl) (Nat.le_of_ble_eq_true rfl) (Nat.le_of_ble_eq_true rfl) (Nat.le_of_ble_eq_true rfl) ?_
  refine m_pi (k := 20) rfl rfl (Nat.le_of_ble_eq_true rfl) rfl rfl rfl rfl (by first | decide | assumption | (simp only [cnt]; omega)) ?_
  show zkW l G i_Mo_passAll _ 0 0 118 _ _ (psA9 mem b)
  refine m_aload_n rfl rfl rfl ?_
  refine m_aload_n rfl rfl rfl ?_
  refine m_aload_n rfl rfl rfl ?_
  refine m_gix (k := 21) (x := (psA9 mem b) 7 _ 21) rfl rfl (Nat.le_of_ble_eq_true rfl) rfl rfl (by first | decide | assumption | (simp only [cnt]; omega)) rfl ?_
  refine m_cv1 rfl rfl lk_7_283 (c_pass (mem := psA9 mem b) hl (by have h := psA_9 mem b; omega) (by have h := psA_9 mem b; omega)) rfl (by first | decide | assumption | (simp only [cnt]; omega)) (Nat.le_of_ble_eq_true rfl) rfl rfl (Nat.le_of_ble_eq_true rfl) (Nat.le_of_ble_eq_true rfl) (Nat.le_of_ble_eq_true rfl) (Nat.le_of_ble_eq_true rfl) (Nat.le_of_ble_eq_true rfl) ?_
  refine m_pi (k := 21) rfl rfl (Nat.le_of_ble_eq_true rfl) rfl rfl rfl rfl (by first | decide | assumption | (simp only [cnt]; omega)) ?_
  show zkW l G i_Mo_passAll _ 0 0 130 _ _ (psA10 mem b)
  refine m_aload_n rfl rfl rfl ?_
  refine m_aload_n rfl rfl rfl ?_
  refine m_aload_n rfl rfl rfl ?_
  refine m_gix (k := 22) (x := (psA10 mem b) 7 _ 22) rfl rfl (Nat.le_of_ble_eq_true rfl) rfl rfl (by first | decide | assumption | (simp only [cnt]; omega)) rfl ?_
  refine m_cv1 rfl rfl lk_7_283 (c_pass (mem := psA10 mem b) hl (by have h := psA_10 mem b; omega) (by have h := psA_10 mem b; omega)) rfl (by first | decide | assumption | (simp only [cnt]; omega)) (Nat.le_of_ble_eq_true rfl) rfl rfl (Nat.le_of_ble_eq_true rfl) (Nat.le_of_ble_eq_true rfl) (Nat.le_of_ble_eq_true rfl) (Nat.le_of_ble_eq_true rfl) (Nat.le_of_ble_eq_true rfl) ?_
  refine m_pi (k := 22) rfl rfl (Nat.le_of_ble_eq_true rfl) rfl rfl rfl rfl (by first | decide | assumption | (simp only [cnt]; omega)) ?_
  show zkW l G i_Mo_passAll _ 0 0 142 _ _ (psA11 mem b)
  refine m_aload_n rfl rfl rfl ?_
  refine m_aload_n rfl rfl rfl ?_
  refine m_aload_n rfl rfl rfl ?_
  refine m_gix (k := 26) (x := (psA11 mem b) 7 _ 26) rfl rfl (Nat.le_of_ble_eq_true rfl) rfl rfl (by first | decide | assumption | (simp only [cnt]; omega)) rfl ?_
  refine m_cv1 rfl rfl lk_7_283 (c_pass (mem := psA11 mem b) hl (by have h := psA_11 mem b; omega) (by have h := psA_11 mem b; omega)) rfl (by first | decide | assumption | (simp only [cnt]; omega)) (Nat.le_of_ble_eq_true rfl) rfl rfl (Nat.le_of_ble_eq_true rfl) (Nat.le_of_ble_eq_true rfl) (Nat.le_of_ble_eq_true rfl) (Nat.le_of_ble_eq_true rfl) (Nat.le_of_ble_eq_true rfl) ?_
  refine m_pi (k := 26) rfl rfl (Nat.le_of_ble_eq_true rfl) rfl rfl rfl rfl (by first | decide | assumption | (simp only [cnt]; omega)) ?_
  show zkW l G i_Mo_passAll _ 0 0 154 _ _ (psA12 mem b)
  refine m_aload_n rfl rfl rfl ?_
  refine m_aload_n rfl rfl rfl ?_
  refine m_gr (k := 3) rfl rfl (Nat.le_of_ble_eq_true rfl) rfl rfl (by first | decide | assumption | (simp only [cnt]; omega)) ?_
  refine m_cv0 rfl rfl lk_7_286 (c_passRow30 (mem := psA12 mem b) hl (by have h := psA_12 mem b; omega) (by have h := psA_12 mem b; omega)) rfl (by first | decide | assumption | (simp only [cnt]; omega)) (Nat.le_of_ble_eq_true rfl) rfl rfl (Nat.le_of_ble_eq_true rfl) (Nat.le_of_ble_eq_true rfl) (Nat.le_of_ble_eq_true rfl) (Nat.le_of_ble_eq_true rfl) (Nat.le_of_ble_eq_true rfl) ?_
  show zkW l G i_Mo_passAll _ 0 0 162 _ _ (psA13 mem b)
  refine m_aload_n rfl rfl rfl ?_
  refine m_aload_n rfl rfl rfl ?_
  refine m_gr (k := 4) rfl rfl (Nat.le_of_ble_eq_true rfl) rfl rfl (by first | decide | assumption | (simp only [cnt]; omega)) ?_
  refine m_cv0 rfl rfl lk_7_286 (c_passRow31 (mem := psA13 mem b) hl (by have h := psA_13 mem b; omega) (by have h := psA_13 mem b; omega)) rfl (by first | decide | assumption | (simp only [cnt]; omega)) (Nat.le_of_ble_eq_true rfl) rfl rfl (Nat.le_of_ble_eq_true rfl) (Nat.le_of_ble_eq_true rfl) (Nat.le_of_ble_eq_true rfl) (Nat.le_of_ble_eq_true rfl) (Nat.le_of_ble_eq_true rfl) ?_
  show zkW l G i_Mo_passAll _ 0 0 170 _ _ (psA14 mem b)
  refine m_aload_n rfl rfl rfl ?_
  refine m_aload_n rfl rfl rfl ?_
  refine m_gr (k := 5) rfl rfl (Nat.le_of_ble_eq_true rfl) rfl rfl (by first | decide | assumption | (simp only [cnt]; omega)) ?_
  refine m_cv0 rfl rfl lk_7_286 (c_passRow32 (mem := psA14 mem b) hl (by have h := psA_14 mem b; omega) (by have h := psA_14 mem b; omega)) rfl (by first | decide | assumption | (simp only [cnt]; omega)) (Nat.le_of_ble_eq_true rfl) rfl rfl (Nat.le_of_ble_eq_true rfl) (Nat.le_of_ble_eq_true rfl) (Nat.le_of_ble_eq_true rfl) (Nat.le_of_ble_eq_true rfl) (Nat.le_of_ble_eq_true rfl) ?_
  show zkW l G i_Mo_passAll _ 0 0 178 _ _ (psA15 mem b)
  refine m_aload_n rfl rfl rfl ?_
  refine m_aload_n rfl rfl rfl ?_
  refine m_gr (k := 10) rfl rfl (Nat.le_of_ble_eq_true rfl) rfl rfl (by first | decide | assumption | (simp only [cnt]; omega)) ?_
  refine m_cv0 rfl rfl lk_7_286 (c_passRow33 (mem := psA15 mem b) hl (by have h := psA_15 mem b; omega) (by have h := psA_15 mem b; omega)) rfl (by first | decide | assumption | (simp only [cnt]; omega)) (Nat.le_of_ble_eq_true rfl) rfl rfl (Nat.le_of_ble_eq_true rfl) (Nat.le_of_ble_eq_true rfl) (Nat.le_of_ble_eq_true rfl) (Nat.le_of_ble_eq_true rfl) (Nat.le_of_ble_eq_true rfl) ?_
  show zkW l G i_Mo_passAll _ 0 0 186 _ _ (psA16 mem b)
  refine m_aload_n rfl rfl rfl ?_
  refine m_aload_n rfl rfl rfl ?_
  refine m_gr (k := 12) rfl rfl (Nat.le_of_ble_eq_true rfl) rfl rfl (by first | decide | assumption | (simp only [cnt]; omega)) ?_
  refine m_cv0 rfl rfl lk_7_286 (c_passRow34 (mem := psA16 mem b) hl (by have h := psA_16 mem b; omega) (by have h := psA_16 mem b; omega)) rfl (by first | decide | assumption | (simp only [cnt]; omega)) (Nat.le_of_ble_eq_true rfl) rfl rfl (Nat.le_of_ble_eq_true rfl) (Nat.le_of_ble_eq_true rfl) (Nat.le_of_ble_eq_true rfl) (Nat.le_of_ble_eq_true rfl) (Nat.le_of_ble_eq_true rfl) ?_
  show zkW l G i_Mo_passAll _ 0 0 194 _ _ (psA17 mem b)
  refine m_aload_n rfl rfl rfl ?_
  refine m_aload_n rfl rfl rfl ?_
  refine m_gr (k := 13) rfl rfl (Nat.le_of_ble_eq_true rfl) rfl rfl (by first | decide | assumption | (simp only [cnt]; omega)) ?_
  refine m_cv0 rfl rfl lk_7_286 (c_passRow35 (mem := psA17 mem b) hl (by have h := psA_17 mem b; omega) (by have h := psA_17 mem b; omega)) rfl (by first | decide | assumption | (simp only [cnt]; omega)) (Nat.le_of_ble_eq_true rfl) rfl rfl (Nat.le_of_ble_eq_true rfl) (Nat.le_of_ble_eq_true rfl) (Nat.le_of_ble_eq_true rfl) (Nat.le_of_ble_eq_true rfl) (Nat.le_of_ble_eq_true rfl) ?_
  show zkW l G i_Mo_passAll _ 0 0 202 _ _ (psA18 mem b)
  refine m_aload_n rfl rfl rfl ?_
  refine m_aload_n rfl rfl rfl ?_
  refine m_gr (k := 14) rfl rfl (Nat.le_of_ble_eq_true rfl) rfl rfl (by first | decide | assumption | (simp only [cnt]; omega)) ?_
  refine m_cv0 rfl rfl lk_7_286 (c_passRow36 (mem := psA18 mem b) hl (by have h := psA_18 mem b; omega) (by have h := psA_18 mem b; omega)) rfl (by first | decide | assumption | (simp only [cnt]; omega)) (Nat.le_of_ble_eq_true rfl) rfl rfl (Nat.le_of_ble_eq_true rfl) (Nat.le_of_ble_eq_true rfl) (Nat.le_of_ble_eq_true rfl) (Nat.le_of_ble_eq_true rfl) (Nat.le_of_ble_eq_true rfl) ?_
  show zkW l G i_Mo_passAll _ 0 0 210 _ _ (psA19 mem b)
  refine m_aload_n rfl rfl rfl ?_
  refine m_aload_n rfl rfl rfl ?_
  refine m_gr (k := 15) rfl rfl (Nat.le_of_ble_eq_true rfl) rfl rfl (by first | decide | assumption | (simp only [cnt]; omega)) ?_
  refine m_cv0 rfl rfl lk_7_286 (c_passRow37 (mem := psA19 mem b) hl (by have h := psA_19 mem b; omega) (by have h := psA_19 mem b; omega)) rfl (by first | decide | assumption | (simp only [cnt]; omega)) (Nat.le_of_ble_eq_true rfl) rfl rfl (Nat.le_of_ble_eq_true rfl) (Nat.le_of_ble_eq_true rfl) (Nat.le_of_ble_eq_true rfl) (Nat.le_of_ble_eq_true rfl) (Nat.le_of_ble_eq_true rfl) ?_
  show zkW l G i_Mo_passAll _ 0 0 218 _ _ (psA20 mem b)
  refine m_aload_n rfl rfl rfl ?_
  refine m_aload_n rfl rfl rfl ?_
  refine m_gr (k := 16) rfl rfl (Nat.le_of_ble_eq_true rfl) rfl rfl (by first | decide | assumption | (simp only [cnt]; omega)) ?_
  refine m_cv0 rfl rfl lk_7_286 (c_passRow38 (mem := psA20 mem b) hl (by have h := psA_20 mem b; omega) (by have h := psA_20 mem b; omega)) rfl (by first | decide | assumption | (simp only [cnt]; omega)) (Nat.le_of_ble_eq_true rfl) rfl rfl (Nat.le_of_ble_eq_true rfl) (Nat.le_of_ble_eq_true rfl) (Nat.le_of_ble_eq_true rfl) (Nat.le_of_ble_eq_true rfl) (Nat.le_of_ble_eq_true rfl) ?_
  show zkW l G i_Mo_passAll _ 0 0 226 _ _ (psA21 mem b)
  refine m_aload_n rfl rfl rfl ?_
  refine m_aload_n rfl rfl rfl ?_
  refine m_gr (k := 17) rfl rfl (Nat.le_of_ble_eq_true rfl) rfl rfl (by first | decide | assumption | (simp only [cnt]; omega)) ?_
  refine m_cv0 rfl rfl lk_7_286 (c_passRow39 (mem := psA21 mem b) hl (by have h := psA_21 mem b; omega) (by have h := psA_21 mem b; omega)) rfl (by first | decide | assumption | (simp only [cnt]; omega)) (Nat.le_of_ble_eq_true rfl) rfl rfl (Nat.le_of_ble_eq_true rfl) (Nat.le_of_ble_eq_true rfl) (Nat.le_of_ble_eq_true rfl) (Nat.le_of_ble_eq_true rfl) (Nat.le_of_ble_eq_true rfl) ?_
  show zkW l G i_Mo_passAll _ 0 0 234 _ _ (psA22 mem b)
  refine m_aload_n rfl rfl rfl ?_
  refine m_aload_n rfl rfl rfl ?_
  refine m_gr (k := 18) rfl rfl (Nat.le_of_ble_eq_true rfl) rfl rfl (by first | decide | assumption | (simp only [cnt]; omega)) ?_
  refine m_cv0 rfl rfl lk_7_286 (c_passRow40 (mem := psA22 mem b) hl (by have h := psA_22 mem b; omega) (by have h := psA_22 mem b; omega)) rfl (by first | decide | assumption | (simp only [cnt]; omega)) (Nat.le_of_ble_eq_true rfl) rfl rfl (Nat.le_of_ble_eq_true rfl) (Nat.le_of_ble_eq_true rfl) (Nat.le_of_ble_eq_true rfl) (Nat.le_of_ble_eq_true rfl) (Nat.le_of_ble_eq_true rfl) ?_
  show zkW l G i_Mo_passAll _ 0 0 242 _ _ (psA23 mem b)
  refine m_aload_n rfl rfl rfl ?_
  refine m_aload_n rfl rfl rfl ?_
  refine m_gr (k := 23) rfl rfl (Nat.le_of_ble_eq_true rfl) rfl rfl (by first | decide | assumption | (simp only [cnt]; omega)) ?_
  refine m_cv0 rfl rfl lk_7_286 (c_passRow41 (mem := psA23 mem b) hl (by have h := psA_23 mem b; omega) (by have h := psA_23 mem b; omega)) rfl (by first | decide | assumption | (simp only [cnt]; omega)) (Nat.le_of_ble_eq_true rfl) rfl rfl (Nat.le_of_ble_eq_true rfl) (Nat.le_of_ble_eq_true rfl) (Nat.le_of_ble_eq_true rfl) (Nat.le_of_ble_eq_true rfl) (Nat.le_of_ble_eq_true rfl) ?_
  show zkW l G i_Mo_passAll _ 0 0 250 _ _ (psA24 mem b)
  refine m_aload_n rfl rfl rfl ?_
  refine m_aload_n rfl rfl rfl ?_
  refine m_gr (k := 24) rfl rfl (Nat.le_of_ble_eq_true rfl) rfl rfl (by first | decide | assumption | (simp only [cnt]; omega)) ?_
  refine m_cv0 rfl rfl lk_7_286 (c_passRow42 (mem := psA24 mem b) hl (by have h := psA_24 mem b; omega) (by have h := psA_24 mem b; omega)) rfl (by first | decide | assumption | (simp only [cnt]; omega)) (Nat.le_of_ble_eq_true rfl) rfl rfl (Nat.le_of_ble_eq_true rfl) (Nat.le_of_ble_eq_true rfl) (Nat.le_of_ble_eq_true rfl) (Nat.le_of_ble_eq_true rfl) (Nat.le_of_ble_eq_true rfl) ?_
  show zkW l G i_Mo_passAll _ 0 0 258 _ _ (psA25 mem b)
  refine m_aload_n rfl rfl rfl ?_
  refine m_aload_n rfl rfl rfl ?_
  refine m_gr (k := 25) rfl rfl (Nat.le_of_ble_eq_true rfl) rfl rfl (by first | decide | assumption | (simp only [cnt]; omega)) ?_
  refine m_cv0 rfl rfl lk_7_286 (c_passRow43 (mem := psA25 mem b) hl (by have h := psA_25 mem b; omega) (by have h := psA_25 mem b; omega)) rfl (by first | decide | assumption | (simp only [cnt]; omega)) (Nat.le_of_ble_eq_true rfl) rfl rfl (Nat.le_of_ble_eq_true rfl) (Nat.le_of_ble_eq_true rfl) (Nat.le_of_ble_eq_true rfl) (Nat.le_of_ble_eq_true rfl) (Nat.le_of_ble_eq_true rfl) ?_
  show zkW l G i_Mo_passAll _ 0 0 266 _ _ (psA26 mem b)
  refine m_vret rfl rfl rfl (Nat.le_of_ble_eq_true rfl) (Nat.le_of_ble_eq_true rfl) ?_
  exact ⟨rfl, rfl⟩

def moSnp (m : zkM) : Int × zkM := (psA26 (mset (mset m 7 0 0 0) 7 0 34 1) 0 7 0 11, psA26 (mset (mset m 7 0 0 0) 7 0 34 1) 0)
set_option maxRecDepth 10000 in
theorem c_mosnapshot {l : Launch} {G : zkG} {mem : zkM} (hl : l.stackTraces = false) : zkCt l G i_Mo_snapshot 3 0 0 [vr 7 0] mem (zkR1 (vi (moSnp mem).1) (moSnp mem).2) := by
  refine zkCt_of hl ok_Mo_snapshot (by decide +kernel) rfl rfl (List.forall_mem_cons.mpr ⟨rfl, fun _ h => nomatch h⟩) (Nat.le_of_ble_eq_true rfl) ?_
  refine m_aload_n rfl rfl rfl ?_
  refine m_iconst rfl rfl ?_
  refine m_pi (k := 0) rfl rfl (Nat.le_of_ble_eq_true rfl) rfl rfl rfl rfl (by first | decide | assumption | (simp only [cnt]; omega)) ?_
  refine m_aload_n rfl rfl rfl ?_
  refine m_iconst rfl rfl ?_
  refine m_pz1 (k := 34) rfl rfl (Nat.le_of_ble_eq_true rfl) rfl rfl rfl rfl (by first | decide | assumption | (simp only [cnt]; omega)) ?_
  refine m_aload_n rfl rfl rfl ?_
  refine m_iconst rfl rfl ?_
  refine m_cv0 rfl rfl lk_7_293 (c_passAll hl (by omega)) rfl (by first | decide | assumption | (simp only [cnt]; omega)) (Nat.le_of_ble_eq_true rfl) rfl rfl (Nat.le_of_ble_eq_true rfl) (Nat.le_of_ble_eq_true rfl) (Nat.le_of_ble_eq_true rfl) (Nat.le_of_ble_eq_true rfl) (Nat.le_of_ble_eq_true rfl) ?_
  refine m_aload_n rfl rfl rfl ?_
  refine m_gix (k := 11) (x := (psA26 (mset (mset mem 7 0 0 0) 7 0 34 1) 0) 7 _ 11) rfl rfl (Nat.le_of_ble_eq_true rfl) rfl rfl (by first | decide | assumption | (simp only [cnt]; omega)) rfl ?_
  refine m_iret rfl rfl rfl (Nat.le_of_ble_eq_true rfl) (Nat.le_of_ble_eq_true rfl) ?_
  unfold moSnp
  dsimp only
  exact ⟨rfl, rfl⟩

def moRst (m : zkM) : Int × zkM := if m 7 0 34 = 0 then (0, mset (mset m 7 0 0 0) 7 0 0 1) else (psA26 (mset m 7 0 0 0) 1 7 0 11, psA26 (mset m 7 0 0 0) 1)
set_option maxRecDepth 10000 in
theorem c_morestore {l : Launch} {G : zkG} {mem : zkM} (hl : l.stackTraces = false) (h : mem 7 0 34 = 0 ∨ mem 7 0 34 = 1) : zkCt l G i_Mo_restore 3 0 0 [vr 7 0] mem (zkR1 (vi (moRst mem).1) (moRst mem).2) := by
  refine zkCt_of hl ok_Mo_restore (by decide +kernel) rfl rfl (List.forall_mem_cons.mpr ⟨rfl, fun _ h => nomatch h⟩) (Nat.le_of_ble_eq_true rfl) ?_
  refine m_aload_n rfl rfl rfl ?_
  refine m_iconst rfl rfl ?_
  refine m_pi (k := 0) rfl rfl (Nat.le_of_ble_eq_true rfl) rfl rfl rfl rfl (by first | decide | assumption | (simp only [cnt]; omega)) ?_
  refine m_aload_n rfl rfl rfl ?_
  refine m_gix (k := 34) (x := mem 7 _ 34) rfl rfl (Nat.le_of_ble_eq_true rfl) rfl rfl (by first | decide | assumption | (simp only [cnt]; omega)) rfl ?_
  refine m_if_ne (tgt := 18) rfl rfl rfl (by omega) (fun c9 => ?_) (fun c9 => ?_)
  · refine m_aload_n rfl rfl rfl ?_
    refine m_iconst rfl rfl ?_
    refine m_cv0 rfl rfl lk_7_293 (c_passAll hl (by omega)) rfl (by first | decide | assumption | (simp only [cnt]; omega)) (Nat.le_of_ble_eq_true rfl) rfl rfl (Nat.le_of_ble_eq_true rfl) (Nat.le_of_ble_eq_true rfl) (Nat.le_of_ble_eq_true rfl) (Nat.le_of_ble_eq_true rfl) (Nat.le_of_ble_eq_true rfl) ?_
    refine m_aload_n rfl rfl rfl ?_
    refine m_gix (k := 11) (x := (psA26 (mset mem 7 0 0 0) 1) 7 _ 11) rfl rfl (Nat.le_of_ble_eq_true rfl) rfl rfl (by first | decide | assumption | (simp only [cnt]; omega)) rfl ?_
    refine m_iret rfl rfl rfl (Nat.le_of_ble_eq_true rfl) (Nat.le_of_ble_eq_true rfl) ?_
    unfold moRst
    rw [if_neg (by omega)]
    dsimp only
    exact ⟨rfl, rfl⟩
  · refine m_aload_n rfl rfl rfl ?_
    refine m_iconst rfl rfl ?_
    refine m_cv1 rfl rfl lk_7_114 (c_fail hl) rfl (by first | decide | assumption | (simp only [cnt]; omega)) (Nat.le_of_ble_eq_true rfl) rfl rfl (Nat.le_of_ble_eq_true rfl) (Nat.le_of_ble_eq_true rfl) (Nat.le_of_ble_eq_true rfl) (Nat.le_of_ble_eq_true rfl) (Nat.le_of_ble_eq_true rfl) ?_
    refine m_iret rfl rfl rfl (Nat.le_of_ble_eq_true rfl) (Nat.le_of_ble_eq_true rfl) ?_
    unfold moRst
    rw [if_pos (by omega)]
    exact ⟨rfl, rfl⟩

