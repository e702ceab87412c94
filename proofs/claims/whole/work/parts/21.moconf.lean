/-! the reference: restart, clear, the configuration's methods -/
def moT (m : zkM) (x : Int) : zkM := mset m 7 0 0 x
def moR1 (t : Nat) (s : zkM) : zkM := mset (mset (mset (mset s 36 0 t 0) 37 0 t 0) 38 0 t 0) 40 0 t 0
def moR2 (k : Nat) (s : zkM) : zkM := mset s 39 0 k 0
def moR3 (r : Nat) (s : zkM) : zkM := mset (mset s 41 0 r (s 33 0 (2 * r + 1))) 42 0 r (-1)
def moRm (s : zkM) : zkM := mset (mset (mset (mset s 7 0 19 (s 7 0 7)) 7 0 20 0) 7 0 22 0) 7 0 26 0
def moRs (m : zkM) : zkM := lp moR3 12 (moRm (lp moR2 30 (lp moR1 5 (mset m 7 0 11 0))))
set_option maxRecDepth 10000 in
theorem c_restart {l : Launch} {G : zkG} {mem : zkM} (hl : l.stackTraces = false) : zkCt l G i_Mo_restart 0 0 0 [vr 7 0] mem (zkR0 (moRs mem)) := by
  refine zkCt_of hl ok_Mo_restart (by decide +kernel) rfl rfl (List.forall_mem_cons.mpr ⟨rfl, fun _ h => nomatch h⟩) (Nat.le_of_ble_eq_true rfl) ?_
  refine m_aload_n rfl rfl rfl ?_
  refine m_iconst rfl rfl ?_
  refine m_pi (k := 11) rfl rfl (Nat.le_of_ble_eq_true rfl) rfl rfl rfl rfl (by first | decide | assumption | (simp only [cnt]; omega)) ?_
  refine m_iconst rfl rfl ?_
  refine m_istore_n rfl rfl (Nat.le_of_ble_eq_true rfl) rfl ?_
  refine zk_loop (P := fun (j : Nat) (s : zkM) => zkW l G i_Mo_restart _ 0 0 7 [some (vr 7 0), some (vi j)] [] s) (I := fun _ _ => True) moR1 5 _ trivial (fun _ _ _ _ => trivial) (fun j s hj _ hk => ?_) (fun _ => ?_)
  · refine m_iload_n rfl rfl rfl ?_
    refine m_iconst rfl rfl ?_
    refine m_icmp_ge (tgt := 46) rfl rfl rfl (by omega) (by omega) (fun c9 => ?_) (fun c9 => ?_)
    · exfalso; omega
    · refine m_aload_n rfl rfl rfl ?_
      refine m_gr (k := 14) rfl rfl (Nat.le_of_ble_eq_true rfl) rfl rfl (by first | decide | assumption | (simp only [cnt]; omega)) ?_
      refine m_iload_n rfl rfl rfl ?_
      refine m_iconst rfl rfl ?_
      refine m_iasn (n := j) rfl rfl (Nat.le_of_ble_eq_true rfl) rfl (by first | decide | assumption | (simp only [cnt]; omega)) (by omega) (by simp only [aln]; omega) ?_
      refine m_aload_n rfl rfl rfl ?_
      refine m_gr (k := 15) rfl rfl (Nat.le_of_ble_eq_true rfl) rfl rfl (by first | decide | assumption | (simp only [cnt]; omega)) ?_
      refine m_iload_n rfl rfl rfl ?_
      refine m_iconst rfl rfl ?_
      refine m_iasn (n := j) rfl rfl (Nat.le_of_ble_eq_true rfl) rfl (by first | decide | assumption | (simp only [cnt]; omega)) (by omega) (by simp only [aln]; omega) ?_
      refine m_aload_n rfl rfl rfl ?_
      refine m_gr (k := 16) rfl rfl (Nat.le_of_ble_eq_true rfl) rfl rfl (by first | decide | assumption | (simp only [cnt]; omega)) ?_
      refine m_iload_n rfl rfl rfl ?_
      refine m_iconst rfl rfl ?_
      refine m_iasn (n := j) rfl rfl (Nat.le_of_ble_eq_true rfl) rfl (by first | decide | assumption | (simp only [cnt]; omega)) (by omega) (by simp only [aln]; omega) ?_
      refine m_aload_n rfl rfl rfl ?_
      refine m_gr (k := 18) rfl rfl (Nat.le_of_ble_eq_true rfl) rfl rfl (by first | decide | assumption | (simp only [cnt]; omega)) ?_
      refine m_iload_n rfl rfl rfl ?_
      refine m_iconst rfl rfl ?_
      refine m_iasn (n := j) rfl rfl (Nat.le_of_ble_eq_true rfl) rfl (by first | decide | assumption | (simp only [cnt]; omega)) (by omega) (by simp only [aln]; omega) ?_
      refine m_iinc rfl rfl rfl (Nat.le_of_ble_eq_true rfl) rfl ?_
      refine m_goto (tgt := 7) rfl rfl rfl ?_
      exact hk
  · refine m_iload_n rfl rfl rfl ?_
    refine m_iconst rfl rfl ?_
    refine m_icmp_ge (tgt := 46) rfl rfl rfl (by omega) (by omega) (fun c9 => ?_) (fun c9 => ?_)
    · refine m_iconst rfl rfl ?_
      refine m_istore_n rfl rfl (Nat.le_of_ble_eq_true rfl) rfl ?_
      refine zk_loop (P := fun (j : Nat) (s : zkM) => zkW l G i_Mo_restart _ 0 0 48 [some (vr 7 0), some (vi j)] [] s) (I := fun _ _ => True) moR2 30 _ trivial (fun _ _ _ _ => trivial) (fun j s hj _ hk => ?_) (fun _ => ?_)
      · refine m_iload_n rfl rfl rfl ?_
        refine m_bipush rfl rfl (by decide) ?_
        refine m_icmp_ge (tgt := 67) rfl rfl rfl (by omega) (by omega) (fun c51 => ?_) (fun c51 => ?_)
        · exfalso; omega
        · refine m_aload_n rfl rfl rfl ?_
          refine m_gr (k := 17) rfl rfl (Nat.le_of_ble_eq_true rfl) rfl rfl (by first | decide | assumption | (simp only [cnt]; omega)) ?_
          refine m_iload_n rfl rfl rfl ?_
          refine m_iconst rfl rfl ?_
          refine m_iasn (n := j) rfl rfl (Nat.le_of_ble_eq_true rfl) rfl (by first | decide | assumption | (simp only [cnt]; omega)) (by omega) (by simp only [aln]; omega) ?_
          refine m_iinc rfl rfl rfl (Nat.le_of_ble_eq_true rfl) rfl ?_
          refine m_goto (tgt := 48) rfl rfl rfl ?_
          exact hk
      · refine m_iload_n rfl rfl rfl ?_
        refine m_bipush rfl rfl (by decide) ?_
        refine m_icmp_ge (tgt := 67) rfl rfl rfl (by omega) (by omega) (fun c51 => ?_) (fun c51 => ?_)
        · refine m_aload_n rfl rfl rfl ?_
          refine m_aload_n rfl rfl rfl ?_
          refine m_gi (k := 7) rfl rfl (Nat.le_of_ble_eq_true rfl) rfl rfl (by first | decide | assumption | (simp only [cnt]; omega)) ?_
          refine m_pi (k := 19) rfl rfl (Nat.le_of_ble_eq_true rfl) rfl rfl rfl rfl (by first | decide | assumption | (simp only [cnt]; omega)) ?_
          refine m_aload_n rfl rfl rfl ?_
          refine m_iconst rfl rfl ?_
          refine m_pi (k := 20) rfl rfl (Nat.le_of_ble_eq_true rfl) rfl rfl rfl rfl (by first | decide | assumption | (simp only [cnt]; omega)) ?_
          refine m_aload_n rfl rfl rfl ?_
          refine m_iconst rfl rfl ?_
          refine m_pi (k := 22) rfl rfl (Nat.le_of_ble_eq_true rfl) rfl rfl rfl rfl (by first | decide | assumption | (simp only [cnt]; omega)) ?_
          refine m_aload_n rfl rfl rfl ?_
          refine m_iconst rfl rfl ?_
          refine m_pi (k := 26) rfl rfl (Nat.le_of_ble_eq_true rfl) rfl rfl rfl rfl (by first | decide | assumption | (simp only [cnt]; omega)) ?_
          refine m_iconst rfl rfl ?_
          refine m_istore_n rfl rfl (Nat.le_of_ble_eq_true rfl) rfl ?_
          refine zk_loop (P := fun (j : Nat) (s : zkM) => zkW l G i_Mo_restart _ 0 0 92 [some (vr 7 0), some (vi j)] [] s) (I := fun _ _ => True) moR3 12 _ trivial (fun _ _ _ _ => trivial) (fun j s hj _ hk => ?_) (fun _ => ?_)
          · refine m_iload_n rfl rfl rfl ?_
            refine m_bipush rfl rfl (by decide) ?_
            refine m_icmp_ge (tgt := 127) rfl rfl rfl (by omega) (by omega) (fun c95 => ?_) (fun c95 => ?_)
            · exfalso; omega
            · refine m_aload_n rfl rfl rfl ?_
              refine m_gr (k := 23) rfl rfl (Nat.le_of_ble_eq_true rfl) rfl rfl (by first | decide | assumption | (simp only [cnt]; omega)) ?_
              refine m_iload_n rfl rfl rfl ?_
              refine m_aload_n rfl rfl rfl ?_
              refine m_gr (k := 10) rfl rfl (Nat.le_of_ble_eq_true rfl) rfl rfl (by first | decide | assumption | (simp only [cnt]; omega)) ?_
              refine m_iconst rfl rfl ?_
              refine m_iload_n rfl rfl rfl ?_
              refine m_imul rfl rfl ?_
              refine m_iconst rfl rfl ?_
              refine m_iadd rfl rfl ?_
              refine m_ialx (n := 2 * j + 1) (y := s 33 _ (2 * j + 1)) rfl rfl (Nat.le_of_ble_eq_true rfl) rfl (by first | decide | assumption | (simp only [cnt]; omega)) (by omega) (by simp only [aln]; omega) rfl ?_
              refine m_iasn (n := j) rfl rfl (Nat.le_of_ble_eq_true rfl) rfl (by first | decide | assumption | (simp only [cnt]; omega)) (by omega) (by simp only [aln]; omega) ?_
              refine m_aload_n rfl rfl rfl ?_
              refine m_gr (k := 24) rfl rfl (Nat.le_of_ble_eq_true rfl) rfl rfl (by first | decide | assumption | (simp only [cnt]; omega)) ?_
              refine m_iload_n rfl rfl rfl ?_
              refine m_iconst rfl rfl ?_
              refine m_iasn (n := j) rfl rfl (Nat.le_of_ble_eq_true rfl) rfl (by first | decide | assumption | (simp only [cnt]; omega)) (by omega) (by simp only [aln]; omega) ?_
              refine m_iinc rfl rfl rfl (Nat.le_of_ble_eq_true rfl) rfl ?_
              refine m_goto (tgt := 92) rfl rfl rfl ?_
              exact hk
          · refine m_iload_n rfl rfl rfl ?_
            refine m_bipush rfl rfl (by decide) ?_
            refine m_icmp_ge (tgt := 127) rfl rfl rfl (by omega) (by omega) (fun c95 => ?_) (fun c95 => ?_)
            · refine m_vret rfl rfl rfl (Nat.le_of_ble_eq_true rfl) (Nat.le_of_ble_eq_true rfl) ?_
              exact ⟨rfl, rfl⟩
            · exfalso; omega
        · exfalso; omega
    · exfalso; omega

def moClear (m : zkM) : Int × zkM := (m 7 0 2, moRs (mset (mset (mset (mset (mset (mset m 7 0 0 0) 7 0 1 0) 7 0 2 0) 7 0 6 0) 7 0 7 0) 7 0 9 0))
set_option maxRecDepth 10000 in
theorem c_moclear {l : Launch} {G : zkG} {mem : zkM} (hl : l.stackTraces = false) : zkCt l G i_Mo_clear 1 0 0 [vr 7 0] mem (zkR1 (vi (moClear mem).1) (moClear mem).2) := by
  refine zkCt_of hl ok_Mo_clear (by decide +kernel) rfl rfl (List.forall_mem_cons.mpr ⟨rfl, fun _ h => nomatch h⟩) (Nat.le_of_ble_eq_true rfl) ?_
  refine m_aload_n rfl rfl rfl ?_
  refine m_iconst rfl rfl ?_
  refine m_pi (k := 0) rfl rfl (Nat.le_of_ble_eq_true rfl) rfl rfl rfl rfl (by first | decide | assumption | (simp only [cnt]; omega)) ?_
  refine m_aload_n rfl rfl rfl ?_
  refine m_gix (k := 2) (x := mem 7 _ 2) rfl rfl (Nat.le_of_ble_eq_true rfl) rfl rfl (by first | decide | assumption | (simp only [cnt]; omega)) rfl ?_
  refine m_istore_n rfl rfl (Nat.le_of_ble_eq_true rfl) rfl ?_
  refine m_aload_n rfl rfl rfl ?_
  refine m_iconst rfl rfl ?_
  refine m_pi (k := 1) rfl rfl (Nat.le_of_ble_eq_true rfl) rfl rfl rfl rfl (by first | decide | assumption | (simp only [cnt]; omega)) ?_
  refine m_aload_n rfl rfl rfl ?_
  refine m_iconst rfl rfl ?_
  refine m_pi (k := 2) rfl rfl (Nat.le_of_ble_eq_true rfl) rfl rfl rfl rfl (by first | decide | assumption | (simp only [cnt]; omega)) ?_
  refine m_aload_n rfl rfl rfl ?_
  refine m_iconst rfl rfl ?_
  refine m_pi (k := 6) rfl rfl (Nat.le_of_ble_eq_true rfl) rfl rfl rfl rfl (by first | decide | assumption | (simp only [cnt]; omega)) ?_
  refine m_aload_n rfl rfl rfl ?_
  refine m_iconst rfl rfl ?_
  refine m_pi (k := 7) rfl rfl (Nat.le_of_ble_eq_true rfl) rfl rfl rfl rfl (by first | decide | assumption | (simp only [cnt]; omega)) ?_
  refine m_aload_n rfl rfl rfl ?_
  refine m_iconst rfl rfl ?_
  refine m_pi (k := 9) rfl rfl (Nat.le_of_ble_eq_true rfl) rfl rfl rfl rfl (by first | decide | assumption | (simp only [cnt]; omega)) ?_
  refine m_aload_n rfl rfl rfl ?_
  refine m_cv0 rfl rfl lk_7_107 (c_restart hl) rfl (by first | decide | assumption | (simp only [cnt]; omega)) (Nat.le_of_ble_eq_true rfl) rfl rfl (Nat.le_of_ble_eq_true rfl) (Nat.le_of_ble_eq_true rfl) (Nat.le_of_ble_eq_true rfl) (Nat.le_of_ble_eq_true rfl) (Nat.le_of_ble_eq_true rfl) ?_
  refine m_iload_n rfl rfl rfl ?_
  refine m_iret rfl rfl rfl (Nat.le_of_ble_eq_true rfl) (Nat.le_of_ble_eq_true rfl) ?_
  exact ⟨rfl, rfl⟩

def moAddTask (m : zkM) (p pe dl of : Int) : Int × zkM :=
  if ¬ (1 ≤ p ∧ p ≤ 9) ∨ ¬ (1 ≤ pe ∧ pe ≤ 60) ∨ ¬ (1 ≤ dl ∧ dl ≤ pe) ∨ ¬ (0 ≤ of ∧ of ≤ 60) then (0, mset (mset m 7 0 0 0) 7 0 0 1)
  else if m 7 0 11 ≠ 0 ∨ m 7 0 2 = 5 then (0, mset (mset m 7 0 0 0) 7 0 0 2)
  else if moTk m p = true ∨ m 7 0 6 = p then (0, mset (mset m 7 0 0 0) 7 0 0 3)
  else (m 7 0 2 + 1 - 1, mset (mset (mset (mset (mset (mset (mset m 7 0 0 0) 30 0 (4 * moN m) p) 30 0 (4 * moN m + 1) pe) 30 0 (4 * moN m + 2) dl) 30 0 (4 * moN m + 3) of) 31 0 (moN m) 0) 7 0 2 (m 7 0 2 + 1))
set_option maxRecDepth 10000 in
theorem c_moaddTask {l : Launch} {G : zkG} {mem : zkM} (hl : l.stackTraces = false) {p pe dl of : Int} (hA : moA mem) (hp : inR p) (hpe : inR pe) (hdl : inR dl) (hof : inR of) (hck : inR (mem 7 0 11)) : zkCt l G i_Mo_addTask 2 0 0 [vr 7 0, vi p, vi pe, vi dl, vi of] mem (zkR1 (vi (moAddTask mem p pe dl of).1) (moAddTask mem p pe dl of).2) := by
  refine zkCt_of hl ok_Mo_addTask (by decide +kernel) rfl rfl (List.forall_mem_cons.mpr ⟨rfl, (List.forall_mem_cons.mpr ⟨rfl, (List.forall_mem_cons.mpr ⟨rfl, (List.forall_mem_cons.mpr ⟨rfl, (List.forall_mem_cons.mpr ⟨rfl, fun _ h => nomatch h⟩)⟩)⟩)⟩)⟩) (Nat.le_of_ble_eq_true rfl) ?_
  have hn := moA_n hA
  obtain ⟨-, -, -, -, -, g6, g7, g8, g9⟩ := id hA
  refine m_aload_n rfl rfl rfl ?_
  refine m_iconst rfl rfl ?_
  refine m_pi (k := 0) rfl rfl (Nat.le_of_ble_eq_true rfl) rfl rfl rfl rfl (by first | decide | assumption | (simp only [cnt]; omega)) ?_
  refine m_iload_n rfl rfl rfl ?_
  refine m_iconst rfl rfl ?_
  refine m_bipush rfl rfl (by decide) ?_
  refine m_cs1 rfl rfl lk_7_75 (c_isIn hl (by omega) (by omega) (by omega)) rfl rfl (Nat.le_of_ble_eq_true rfl) (Nat.le_of_ble_eq_true rfl) (Nat.le_of_ble_eq_true rfl) (Nat.le_of_ble_eq_true rfl) (Nat.le_of_ble_eq_true rfl) ?_
  refine m_if_eq_d (tgt := 45) rfl rfl rfl (fun c12 => ?_) (fun c12 => ?_)
  · refine m_aload_n rfl rfl rfl ?_
    refine m_iconst rfl rfl ?_
    refine m_cv1 rfl rfl lk_7_114 (c_fail hl) rfl (by first | decide | assumption | (simp only [cnt]; omega)) (Nat.le_of_ble_eq_true rfl) rfl rfl (Nat.le_of_ble_eq_true rfl) (Nat.le_of_ble_eq_true rfl) (Nat.le_of_ble_eq_true rfl) (Nat.le_of_ble_eq_true rfl) (Nat.le_of_ble_eq_true rfl) ?_
    refine m_iret rfl rfl rfl (Nat.le_of_ble_eq_true rfl) (Nat.le_of_ble_eq_true rfl) ?_
    unfold moAddTask
    rw [if_pos (by omega)]
    exact ⟨rfl, rfl⟩
  · refine m_iload_n rfl rfl rfl ?_
    refine m_iconst rfl rfl ?_
    refine m_bipush rfl rfl (by decide) ?_
    refine m_cs1 rfl rfl lk_7_75 (c_isIn hl (by omega) (by omega) (by omega)) rfl rfl (Nat.le_of_ble_eq_true rfl) (Nat.le_of_ble_eq_true rfl) (Nat.le_of_ble_eq_true rfl) (Nat.le_of_ble_eq_true rfl) (Nat.le_of_ble_eq_true rfl) ?_
    refine m_if_eq_d (tgt := 45) rfl rfl rfl (fun c22 => ?_) (fun c22 => ?_)
    · refine m_aload_n rfl rfl rfl ?_
      refine m_iconst rfl rfl ?_
      refine m_cv1 rfl rfl lk_7_114 (c_fail hl) rfl (by first | decide | assumption | (simp only [cnt]; omega)) (Nat.le_of_ble_eq_true rfl) rfl rfl (Nat.le_of_ble_eq_true rfl) (Nat.le_of_ble_eq_true rfl) (Nat.le_of_ble_eq_true rfl) (Nat.le_of_ble_eq_true rfl) (Nat.le_of_ble_eq_true rfl) ?_
      refine m_iret rfl rfl rfl (Nat.le_of_ble_eq_true rfl) (Nat.le_of_ble_eq_true rfl) ?_
      unfold moAddTask
      rw [if_pos (by omega)]
      exact ⟨rfl, rfl⟩
    · refine m_iload_n rfl rfl rfl ?_
      refine m_iconst rfl rfl ?_
      refine m_iload_n rfl rfl rfl ?_
      refine m_cs1 rfl rfl lk_7_75 (c_isIn hl (by omega) (by omega) (by omega)) rfl rfl (Nat.le_of_ble_eq_true rfl) (Nat.le_of_ble_eq_true rfl) (Nat.le_of_ble_eq_true rfl) (Nat.le_of_ble_eq_true rfl) (Nat.le_of_ble_eq_true rfl) ?_
      refine m_if_eq_d (tgt := 45) rfl rfl rfl (fun c31 => ?_) (fun c31 => ?_)
      · refine m_aload_n rfl rfl rfl ?_
        refine m_iconst rfl rfl ?_
        refine m_cv1 rfl rfl lk_7_114 (c_fail hl) rfl (by first | decide | assumption | (simp only [cnt]; omega)) (Nat.le_of_ble_eq_true rfl) rfl rfl (Nat.le_of_ble_eq_true rfl) (Nat.le_of_ble_eq_true rfl) (Nat.le_of_ble_eq_true rfl) (Nat.le_of_ble_eq_true rfl) (Nat.le_of_ble_eq_true rfl) ?_
        refine m_iret rfl rfl rfl (Nat.le_of_ble_eq_true rfl) (Nat.le_of_ble_eq_true rfl) ?_
        unfold moAddTask
        rw [if_pos (by omega)]
        exact ⟨rfl, rfl⟩
      · refine m_iload rfl rfl rfl ?_
        refine m_iconst rfl rfl ?_
        refine m_bipush rfl rfl (by decide) ?_
        refine m_cs1 rfl rfl lk_7_75 (c_isIn hl (by omega) (by omega) (by omega)) rfl rfl (Nat.le_of_ble_eq_true rfl) (Nat.le_of_ble_eq_true rfl) (Nat.le_of_ble_eq_true rfl) (Nat.le_of_ble_eq_true rfl) (Nat.le_of_ble_eq_true rfl) ?_
        refine m_if_ne_d (tgt := 51) rfl rfl rfl (fun c42 => ?_) (fun c42 => ?_)
        · refine m_aload_n rfl rfl rfl ?_
          refine m_gix (k := 11) (x := mem 7 _ 11) rfl rfl (Nat.le_of_ble_eq_true rfl) rfl rfl (by first | decide | assumption | (simp only [cnt]; omega)) rfl ?_
          refine m_if_ne (tgt := 66) rfl rfl rfl (by omega) (fun c55 => ?_) (fun c55 => ?_)
          · refine m_aload_n rfl rfl rfl ?_
            refine m_iconst rfl rfl ?_
            refine m_cv1 rfl rfl lk_7_114 (c_fail hl) rfl (by first | decide | assumption | (simp only [cnt]; omega)) (Nat.le_of_ble_eq_true rfl) rfl rfl (Nat.le_of_ble_eq_true rfl) (Nat.le_of_ble_eq_true rfl) (Nat.le_of_ble_eq_true rfl) (Nat.le_of_ble_eq_true rfl) (Nat.le_of_ble_eq_true rfl) ?_
            refine m_iret rfl rfl rfl (Nat.le_of_ble_eq_true rfl) (Nat.le_of_ble_eq_true rfl) ?_
            unfold moAddTask
            rw [if_neg (by omega), if_pos (by omega)]
            exact ⟨rfl, rfl⟩
          · refine m_aload_n rfl rfl rfl ?_
            refine m_gix (k := 2) (x := mem 7 _ 2) rfl rfl (Nat.le_of_ble_eq_true rfl) rfl rfl (by first | decide | assumption | (simp only [cnt]; omega)) rfl ?_
            refine m_iconst rfl rfl ?_
            refine m_icmp_ne (tgt := 72) rfl rfl rfl (by omega) (by omega) (fun c63 => ?_) (fun c63 => ?_)
            · refine m_aload_n rfl rfl rfl ?_
              refine m_iload_n rfl rfl rfl ?_
              refine m_cv1 rfl rfl lk_7_117 (show zkCt l G i_Mo_isTaken _ 0 0 _ _ (zkR1 (vi (b2i (moTk mem p))) _) from c_isTaken hl (show moA _ from hA) (by omega)) rfl (by first | decide | assumption | (simp only [cnt]; omega)) (Nat.le_of_ble_eq_true rfl) rfl rfl (Nat.le_of_ble_eq_true rfl) (Nat.le_of_ble_eq_true rfl) (Nat.le_of_ble_eq_true rfl) (Nat.le_of_ble_eq_true rfl) (Nat.le_of_ble_eq_true rfl) ?_
              refine m_if_ne_b (tgt := 88) rfl rfl rfl (fun c77 => ?_) (fun c77 => ?_)
              · refine m_aload_n rfl rfl rfl ?_
                refine m_iconst rfl rfl ?_
                refine m_cv1 rfl rfl lk_7_114 (c_fail hl) rfl (by first | decide | assumption | (simp only [cnt]; omega)) (Nat.le_of_ble_eq_true rfl) rfl rfl (Nat.le_of_ble_eq_true rfl) (Nat.le_of_ble_eq_true rfl) (Nat.le_of_ble_eq_true rfl) (Nat.le_of_ble_eq_true rfl) (Nat.le_of_ble_eq_true rfl) ?_
                refine m_iret rfl rfl rfl (Nat.le_of_ble_eq_true rfl) (Nat.le_of_ble_eq_true rfl) ?_
                unfold moAddTask
                rw [if_neg (by omega), if_neg (by omega), if_pos (by first | exact Or.inl c77 | exact Or.inr c85)]
                exact ⟨rfl, rfl⟩
              · refine m_aload_n rfl rfl rfl ?_
                refine m_gix (k := 6) (x := mem 7 _ 6) rfl rfl (Nat.le_of_ble_eq_true rfl) rfl rfl (by first | decide | assumption | (simp only [cnt]; omega)) rfl ?_
                refine m_iload_n rfl rfl rfl ?_
                refine m_icmp_ne (tgt := 94) rfl rfl rfl (by omega) (by omega) (fun c85 => ?_) (fun c85 => ?_)
                · refine m_aload_n rfl rfl rfl ?_
                  refine m_gr (k := 3) rfl rfl (Nat.le_of_ble_eq_true rfl) rfl rfl (by first | decide | assumption | (simp only [cnt]; omega)) ?_
                  refine m_iconst rfl rfl ?_
                  refine m_aload_n rfl rfl rfl ?_
                  refine m_gix (k := 2) (x := mem 7 _ 2) rfl rfl (Nat.le_of_ble_eq_true rfl) rfl rfl (by first | decide | assumption | (simp only [cnt]; omega)) rfl ?_
                  refine m_imul rfl rfl ?_
                  refine m_iload_n rfl rfl rfl ?_
                  refine m_iasn (n := 4 * moN mem) rfl rfl (Nat.le_of_ble_eq_true rfl) rfl (by first | decide | assumption | (simp only [cnt]; omega)) (by omega) (by simp only [aln]; omega) ?_
                  refine m_aload_n rfl rfl rfl ?_
                  refine m_gr (k := 3) rfl rfl (Nat.le_of_ble_eq_true rfl) rfl rfl (by first | decide | assumption | (simp only [cnt]; omega)) ?_
                  refine m_iconst rfl rfl ?_
                  refine m_aload_n rfl rfl rfl ?_
                  refine m_gix (k := 2) (x := mem 7 _ 2) rfl rfl (Nat.le_of_ble_eq_true rfl) rfl rfl (by first | decide | assumption | (simp only [cnt]; omega)) rfl ?_
                  refine m_imul rfl rfl ?_
                  refine m_iconst rfl rfl ?_
                  refine m_iadd rfl rfl ?_
                  refine m_iload_n rfl rfl rfl ?_
                  refine m_iasn (n := 4 * moN mem + 1) rfl rfl (Nat.le_of_ble_eq_true rfl) rfl (by first | decide | assumption | (simp only [cnt]; omega)) (by omega) (by simp only [aln]; omega) ?_
                  refine m_aload_n rfl rfl rfl ?_
                  refine m_gr (k := 3) rfl rfl (Nat.le_of_ble_eq_true rfl) rfl rfl (by first | decide | assumption | (simp only [cnt]; omega)) ?_
                  refine m_iconst rfl rfl ?_
                  refine m_aload_n rfl rfl rfl ?_
                  refine m_gix (k := 2) (x := mem 7 _ 2) rfl rfl (Nat.le_of_ble_eq_true rfl) rfl rfl (by first | decide | assumption | (simp only [cnt]; omega)) rfl ?_
                  refine m_imul rfl rfl ?_
                  refine m_iconst rfl rfl ?_
                  refine m_iadd rfl rfl ?_
                  refine m_iload_n rfl rfl rfl ?_
                  refine m_iasn (n := 4 * moN mem + 2) rfl rfl (Nat.le_of_ble_eq_true rfl) rfl (by first | decide | assumption | (simp only [cnt]; omega)) (by omega) (by simp only [aln]; omega) ?_
                  refine m_aload_n rfl rfl rfl ?_
                  refine m_gr (k := 3) rfl rfl (Nat.le_of_ble_eq_true rfl) rfl rfl (by first | decide | assumption | (simp only [cnt]; omega)) ?_
                  refine m_iconst rfl rfl ?_
                  refine m_aload_n rfl rfl rfl ?_
                  refine m_gix (k := 2) (x := mem 7 _ 2) rfl rfl (Nat.le_of_ble_eq_true rfl) rfl rfl (by first | decide | assumption | (simp only [cnt]; omega)) rfl ?_
                  refine m_imul rfl rfl ?_
                  refine m_iconst rfl rfl ?_
                  refine m_iadd rfl rfl ?_
                  refine m_iload rfl rfl rfl ?_
                  refine m_iasn (n := 4 * moN mem + 3) rfl rfl (Nat.le_of_ble_eq_true rfl) rfl (by first | decide | assumption | (simp only [cnt]; omega)) (by omega) (by simp only [aln]; omega) ?_
                  refine m_aload_n rfl rfl rfl ?_
                  refine m_gr (k := 4) rfl rfl (Nat.le_of_ble_eq_true rfl) rfl rfl (by first | decide | assumption | (simp only [cnt]; omega)) ?_
                  refine m_aload_n rfl rfl rfl ?_
                  refine m_gix (k := 2) (x := mem 7 _ 2) rfl rfl (Nat.le_of_ble_eq_true rfl) rfl rfl (by first | decide | assumption | (simp only [cnt]; omega)) rfl ?_
                  refine m_iconst rfl rfl ?_
                  refine m_iasn (n := moN mem) rfl rfl (Nat.le_of_ble_eq_true rfl) rfl (by first | decide | assumption | (simp only [cnt]; omega)) (by omega) (by simp only [aln]; omega) ?_
                  refine m_aload_n rfl rfl rfl ?_
                  refine m_dup rfl rfl rfl ?_
                  refine m_gix (k := 2) (x := mem 7 _ 2) rfl rfl (Nat.le_of_ble_eq_true rfl) rfl rfl (by first | decide | assumption | (simp only [cnt]; omega)) rfl ?_
                  refine m_iconst rfl rfl ?_
                  refine m_iadd rfl rfl ?_
                  refine m_pi (k := 2) rfl rfl (Nat.le_of_ble_eq_true rfl) rfl rfl rfl rfl (by first | decide | assumption | (simp only [cnt]; omega)) ?_
                  refine m_aload_n rfl rfl rfl ?_
                  refine m_gi (k := 2) rfl rfl (Nat.le_of_ble_eq_true rfl) rfl rfl (by first | decide | assumption | (simp only [cnt]; omega)) ?_
                  rw [ms_s]
                  refine m_iconst rfl rfl ?_
                  refine m_isub rfl rfl ?_
                  refine m_iret rfl rfl rfl (Nat.le_of_ble_eq_true rfl) (Nat.le_of_ble_eq_true rfl) ?_
                  unfold moAddTask
                  rw [if_neg (by omega), if_neg (by omega), if_neg (by rintro (h | h); (rw [c77] at h; cases h); exact c85 h)]
                  exact ⟨rfl, rfl⟩
                · refine m_aload_n rfl rfl rfl ?_
                  refine m_iconst rfl rfl ?_
                  refine m_cv1 rfl rfl lk_7_114 (c_fail hl) rfl (by first | decide | assumption | (simp only [cnt]; omega)) (Nat.le_of_ble_eq_true rfl) rfl rfl (Nat.le_of_ble_eq_true rfl) (Nat.le_of_ble_eq_true rfl) (Nat.le_of_ble_eq_true rfl) (Nat.le_of_ble_eq_true rfl) (Nat.le_of_ble_eq_true rfl) ?_
                  refine m_iret rfl rfl rfl (Nat.le_of_ble_eq_true rfl) (Nat.le_of_ble_eq_true rfl) ?_
                  unfold moAddTask
                  rw [if_neg (by omega), if_neg (by omega), if_pos (by first | exact Or.inl c77 | exact Or.inr c85)]
                  exact ⟨rfl, rfl⟩
            · refine m_aload_n rfl rfl rfl ?_
              refine m_iconst rfl rfl ?_
              refine m_cv1 rfl rfl lk_7_114 (c_fail hl) rfl (by first | decide | assumption | (simp only [cnt]; omega)) (Nat.le_of_ble_eq_true rfl) rfl rfl (Nat.le_of_ble_eq_true rfl) (Nat.le_of_ble_eq_true rfl) (Nat.le_of_ble_eq_true rfl) (Nat.le_of_ble_eq_true rfl) (Nat.le_of_ble_eq_true rfl) ?_
              refine m_iret rfl rfl rfl (Nat.le_of_ble_eq_true rfl) (Nat.le_of_ble_eq_true rfl) ?_
              unfold moAddTask
              rw [if_neg (by omega), if_pos (by omega)]
              exact ⟨rfl, rfl⟩
        · refine m_aload_n rfl rfl rfl ?_
          refine m_iconst rfl rfl ?_
          refine m_cv1 rfl rfl lk_7_114 (c_fail hl) rfl (by first | decide | assumption | (simp only [cnt]; omega)) (Nat.le_of_ble_eq_true rfl) rfl rfl (Nat.le_of_ble_eq_true rfl) (Nat.le_of_ble_eq_true rfl) (Nat.le_of_ble_eq_true rfl) (Nat.le_of_ble_eq_true rfl) (Nat.le_of_ble_eq_true rfl) ?_
          refine m_iret rfl rfl rfl (Nat.le_of_ble_eq_true rfl) (Nat.le_of_ble_eq_true rfl) ?_
          unfold moAddTask
          rw [if_pos (by omega)]
          exact ⟨rfl, rfl⟩

def moAddSeg (m : zkM) (x r le : Int) : Int × zkM :=
  if ¬ (0 ≤ x ∧ x ≤ m 7 0 2 - 1) then (0, mset m 7 0 0 1)
  else if ¬ (-1 ≤ r ∧ r ≤ 3) ∨ ¬ (1 ≤ le ∧ le ≤ 9) then (0, mset m 7 0 0 2)
  else if m 7 0 11 ≠ 0 ∨ m 31 0 x.toNat = 6 then (0, mset m 7 0 0 3)
  else (m 31 0 x.toNat + 1, mset (mset (mset (mset m 7 0 0 0) 32 0 (2 * (6 * x.toNat + moS m x.toNat)) r) 32 0 (2 * (6 * x.toNat + moS m x.toNat) + 1) le) 31 0 x.toNat (m 31 0 x.toNat + 1))
set_option maxRecDepth 10000 in
theorem c_moaddSegment {l : Launch} {G : zkG} {mem : zkM} (hl : l.stackTraces = false) {x r le : Int} (hA : moA mem) (hx : inR x) (hr : inR r) (hle : inR le) (hck : inR (mem 7 0 11)) : zkCt l G i_Mo_addSegment 2 0 0 [vr 7 0, vi x, vi r, vi le] mem (zkR1 (vi (moAddSeg mem x r le).1) (moAddSeg mem x r le).2) := by
  refine zkCt_of hl ok_Mo_addSegment (by decide +kernel) rfl rfl (List.forall_mem_cons.mpr ⟨rfl, (List.forall_mem_cons.mpr ⟨rfl, (List.forall_mem_cons.mpr ⟨rfl, (List.forall_mem_cons.mpr ⟨rfl, fun _ h => nomatch h⟩)⟩)⟩)⟩) (Nat.le_of_ble_eq_true rfl) ?_
  have hn := moA_n hA
  have hm := hA.1
  refine m_aload_n rfl rfl rfl ?_
  refine m_aload_n rfl rfl rfl ?_
  refine m_iload_n rfl rfl rfl ?_
  refine m_cv1 rfl rfl lk_7_121 (c_isTask hl (by omega) (by omega)) rfl (by first | decide | assumption | (simp only [cnt]; omega)) (Nat.le_of_ble_eq_true rfl) rfl rfl (Nat.le_of_ble_eq_true rfl) (Nat.le_of_ble_eq_true rfl) (Nat.le_of_ble_eq_true rfl) (Nat.le_of_ble_eq_true rfl) (Nat.le_of_ble_eq_true rfl) ?_
  refine m_if_ne_d (tgt := 13) rfl rfl rfl (fun c6 => ?_) (fun c6 => ?_)
  · obtain ⟨i, rfl⟩ : ∃ i : Nat, x = i := ⟨x.toNat, by omega⟩
    have hs := moA_s hA (i := i) (by omega)
    refine m_iload_n rfl rfl rfl ?_
    refine m_iconst rfl rfl ?_
    refine m_iconst rfl rfl ?_
    refine m_cs1 rfl rfl lk_7_75 (c_isIn hl (by omega) (by omega) (by omega)) rfl rfl (Nat.le_of_ble_eq_true rfl) (Nat.le_of_ble_eq_true rfl) (Nat.le_of_ble_eq_true rfl) (Nat.le_of_ble_eq_true rfl) (Nat.le_of_ble_eq_true rfl) ?_
    refine m_if_eq_d (tgt := 32) rfl rfl rfl (fun c19 => ?_) (fun c19 => ?_)
    · refine m_iconst rfl rfl ?_
      refine m_goto (tgt := 59) rfl rfl rfl ?_
      refine m_pi (k := 0) rfl rfl (Nat.le_of_ble_eq_true rfl) rfl rfl rfl rfl (by first | decide | assumption | (simp only [cnt]; omega)) ?_
      refine m_aload_n rfl rfl rfl ?_
      refine m_gix (k := 0) (x := 2) rfl rfl (Nat.le_of_ble_eq_true rfl) rfl rfl (by first | decide | assumption | (simp only [cnt]; omega)) rfl ?_
      refine m_if_eq (tgt := 71) rfl rfl rfl (by omega) (fun c66 => ?_) (fun c66 => ?_)
      · exfalso; omega
      · refine m_iconst rfl rfl ?_
        refine m_iret rfl rfl rfl (Nat.le_of_ble_eq_true rfl) (Nat.le_of_ble_eq_true rfl) ?_
        unfold moAddSeg
        first | (rw [if_pos (by omega)]; exact ⟨rfl, rfl⟩) | (rw [if_neg (by omega), if_pos (by omega)]; exact ⟨rfl, rfl⟩) | (rw [if_neg (by omega), if_neg (by omega), if_pos (by simp only [Int.toNat_natCast]; omega)]; exact ⟨rfl, rfl⟩)
    · refine m_iload_n rfl rfl rfl ?_
      refine m_iconst rfl rfl ?_
      refine m_bipush rfl rfl (by decide) ?_
      refine m_cs1 rfl rfl lk_7_75 (c_isIn hl (by omega) (by omega) (by omega)) rfl rfl (Nat.le_of_ble_eq_true rfl) (Nat.le_of_ble_eq_true rfl) (Nat.le_of_ble_eq_true rfl) (Nat.le_of_ble_eq_true rfl) (Nat.le_of_ble_eq_true rfl) ?_
      refine m_if_ne_d (tgt := 36) rfl rfl rfl (fun c29 => ?_) (fun c29 => ?_)
      · refine m_aload_n rfl rfl rfl ?_
        refine m_gix (k := 11) (x := mem 7 _ 11) rfl rfl (Nat.le_of_ble_eq_true rfl) rfl rfl (by first | decide | assumption | (simp only [cnt]; omega)) rfl ?_
        refine m_if_ne (tgt := 54) rfl rfl rfl (by omega) (fun c40 => ?_) (fun c40 => ?_)
        · refine m_iconst rfl rfl ?_
          refine m_goto (tgt := 59) rfl rfl rfl ?_
          refine m_pi (k := 0) rfl rfl (Nat.le_of_ble_eq_true rfl) rfl rfl rfl rfl (by first | decide | assumption | (simp only [cnt]; omega)) ?_
          refine m_aload_n rfl rfl rfl ?_
          refine m_gix (k := 0) (x := 3) rfl rfl (Nat.le_of_ble_eq_true rfl) rfl rfl (by first | decide | assumption | (simp only [cnt]; omega)) rfl ?_
          refine m_if_eq (tgt := 71) rfl rfl rfl (by omega) (fun c66 => ?_) (fun c66 => ?_)
          · exfalso; omega
          · refine m_iconst rfl rfl ?_
            refine m_iret rfl rfl rfl (Nat.le_of_ble_eq_true rfl) (Nat.le_of_ble_eq_true rfl) ?_
            unfold moAddSeg
            first | (rw [if_pos (by omega)]; exact ⟨rfl, rfl⟩) | (rw [if_neg (by omega), if_pos (by omega)]; exact ⟨rfl, rfl⟩) | (rw [if_neg (by omega), if_neg (by omega), if_pos (by simp only [Int.toNat_natCast]; omega)]; exact ⟨rfl, rfl⟩)
        · refine m_aload_n rfl rfl rfl ?_
          refine m_gr (k := 4) rfl rfl (Nat.le_of_ble_eq_true rfl) rfl rfl (by first | decide | assumption | (simp only [cnt]; omega)) ?_
          refine m_iload_n rfl rfl rfl ?_
          refine m_ialx (n := i) (y := mem 31 _ (i)) rfl rfl (Nat.le_of_ble_eq_true rfl) rfl (by first | decide | assumption | (simp only [cnt]; omega)) (by omega) (by simp only [aln]; omega) rfl ?_
          refine m_bipush rfl rfl (by decide) ?_
          refine m_icmp_ne (tgt := 58) rfl rfl rfl (by omega) (by omega) (fun c51 => ?_) (fun c51 => ?_)
          · refine m_iconst rfl rfl ?_
            refine m_pi (k := 0) rfl rfl (Nat.le_of_ble_eq_true rfl) rfl rfl rfl rfl (by first | decide | assumption | (simp only [cnt]; omega)) ?_
            refine m_aload_n rfl rfl rfl ?_
            refine m_gix (k := 0) (x := 0) rfl rfl (Nat.le_of_ble_eq_true rfl) rfl rfl (by first | decide | assumption | (simp only [cnt]; omega)) rfl ?_
            refine m_if_eq (tgt := 71) rfl rfl rfl (by omega) (fun c66 => ?_) (fun c66 => ?_)
            · refine m_iconst rfl rfl ?_
              refine m_bipush rfl rfl (by decide) ?_
              refine m_iload_n rfl rfl rfl ?_
              refine m_imul rfl rfl ?_
              refine m_aload_n rfl rfl rfl ?_
              refine m_gr (k := 4) rfl rfl (Nat.le_of_ble_eq_true rfl) rfl rfl (by first | decide | assumption | (simp only [cnt]; omega)) ?_
              refine m_iload_n rfl rfl rfl ?_
              refine m_ialx (n := i) (y := mem 31 _ (i)) rfl rfl (Nat.le_of_ble_eq_true rfl) rfl (by first | decide | assumption | (simp only [cnt]; omega)) (by omega) (by simp only [aln]; omega) rfl ?_
              refine m_iadd rfl rfl ?_
              refine m_imul rfl rfl ?_
              refine m_istore rfl rfl (Nat.le_of_ble_eq_true rfl) rfl ?_
              refine m_aload_n rfl rfl rfl ?_
              refine m_gr (k := 5) rfl rfl (Nat.le_of_ble_eq_true rfl) rfl rfl (by first | decide | assumption | (simp only [cnt]; omega)) ?_
              refine m_iload rfl rfl rfl ?_
              refine m_iload_n rfl rfl rfl ?_
              refine m_iasn (n := 2 * (6 * i + moS mem i)) rfl rfl (Nat.le_of_ble_eq_true rfl) rfl (by first | decide | assumption | (simp only [cnt]; omega)) (by omega) (by simp only [aln]; omega) ?_
              refine m_aload_n rfl rfl rfl ?_
              refine m_gr (k := 5) rfl rfl (Nat.le_of_ble_eq_true rfl) rfl rfl (by first | decide | assumption | (simp only [cnt]; omega)) ?_
              refine m_iload rfl rfl rfl ?_
              refine m_iconst rfl rfl ?_
              refine m_iadd rfl rfl ?_
              refine m_iload_n rfl rfl rfl ?_
              refine m_iasn (n := 2 * (6 * i + moS mem i) + 1) rfl rfl (Nat.le_of_ble_eq_true rfl) rfl (by first | decide | assumption | (simp only [cnt]; omega)) (by omega) (by simp only [aln]; omega) ?_
              refine m_aload_n rfl rfl rfl ?_
              refine m_gr (k := 4) rfl rfl (Nat.le_of_ble_eq_true rfl) rfl rfl (by first | decide | assumption | (simp only [cnt]; omega)) ?_
              refine m_iload_n rfl rfl rfl ?_
              refine m_dup2 rfl rfl rfl rfl ?_
              refine m_ialx (n := i) (y := mem 31 _ (i)) rfl rfl (Nat.le_of_ble_eq_true rfl) rfl (by first | decide | assumption | (simp only [cnt]; omega)) (by omega) (by simp only [aln]; omega) rfl ?_
              refine m_iconst rfl rfl ?_
              refine m_iadd rfl rfl ?_
              refine m_iasn (n := i) rfl rfl (Nat.le_of_ble_eq_true rfl) rfl (by first | decide | assumption | (simp only [cnt]; omega)) (by omega) (by simp only [aln]; omega) ?_
              refine m_aload_n rfl rfl rfl ?_
              refine m_gr (k := 4) rfl rfl (Nat.le_of_ble_eq_true rfl) rfl rfl (by first | decide | assumption | (simp only [cnt]; omega)) ?_
              refine m_iload_n rfl rfl rfl ?_
              refine m_ialn (n := i) rfl rfl (Nat.le_of_ble_eq_true rfl) rfl (by first | decide | assumption | (simp only [cnt]; omega)) (by omega) (by simp only [aln]; omega) ?_
              rw [ms_s]
              refine m_iret rfl rfl rfl (Nat.le_of_ble_eq_true rfl) (Nat.le_of_ble_eq_true rfl) ?_
              unfold moAddSeg
              rw [if_neg (by omega), if_neg (by omega), if_neg (by simp only [Int.toNat_natCast]; omega)]
              simp only [Int.toNat_natCast]
              exact ⟨rfl, rfl⟩
            · exfalso; omega
          · refine m_iconst rfl rfl ?_
            refine m_goto (tgt := 59) rfl rfl rfl ?_
            refine m_pi (k := 0) rfl rfl (Nat.le_of_ble_eq_true rfl) rfl rfl rfl rfl (by first | decide | assumption | (simp only [cnt]; omega)) ?_
            refine m_aload_n rfl rfl rfl ?_
            refine m_gix (k := 0) (x := 3) rfl rfl (Nat.le_of_ble_eq_true rfl) rfl rfl (by first | decide | assumption | (simp only [cnt]; omega)) rfl ?_
            refine m_if_eq (tgt := 71) rfl rfl rfl (by omega) (fun c66 => ?_) (fun c66 => ?_)
            · exfalso; omega
            · refine m_iconst rfl rfl ?_
              refine m_iret rfl rfl rfl (Nat.le_of_ble_eq_true rfl) (Nat.le_of_ble_eq_true rfl) ?_
              unfold moAddSeg
              first | (rw [if_pos (by omega)]; exact ⟨rfl, rfl⟩) | (rw [if_neg (by omega), if_pos (by omega)]; exact ⟨rfl, rfl⟩) | (rw [if_neg (by omega), if_neg (by omega), if_pos (by simp only [Int.toNat_natCast]; omega)]; exact ⟨rfl, rfl⟩)
      · refine m_iconst rfl rfl ?_
        refine m_goto (tgt := 59) rfl rfl rfl ?_
        refine m_pi (k := 0) rfl rfl (Nat.le_of_ble_eq_true rfl) rfl rfl rfl rfl (by first | decide | assumption | (simp only [cnt]; omega)) ?_
        refine m_aload_n rfl rfl rfl ?_
        refine m_gix (k := 0) (x := 2) rfl rfl (Nat.le_of_ble_eq_true rfl) rfl rfl (by first | decide | assumption | (simp only [cnt]; omega)) rfl ?_
        refine m_if_eq (tgt := 71) rfl rfl rfl (by omega) (fun c66 => ?_) (fun c66 => ?_)
        · exfalso; omega
        · refine m_iconst rfl rfl ?_
          refine m_iret rfl rfl rfl (Nat.le_of_ble_eq_true rfl) (Nat.le_of_ble_eq_true rfl) ?_
          unfold moAddSeg
          first | (rw [if_pos (by omega)]; exact ⟨rfl, rfl⟩) | (rw [if_neg (by omega), if_pos (by omega)]; exact ⟨rfl, rfl⟩) | (rw [if_neg (by omega), if_neg (by omega), if_pos (by simp only [Int.toNat_natCast]; omega)]; exact ⟨rfl, rfl⟩)
  · refine m_iconst rfl rfl ?_
    refine m_goto (tgt := 59) rfl rfl rfl ?_
    refine m_pi (k := 0) rfl rfl (Nat.le_of_ble_eq_true rfl) rfl rfl rfl rfl (by first | decide | assumption | (simp only [cnt]; omega)) ?_
    refine m_aload_n rfl rfl rfl ?_
    refine m_gix (k := 0) (x := 1) rfl rfl (Nat.le_of_ble_eq_true rfl) rfl rfl (by first | decide | assumption | (simp only [cnt]; omega)) rfl ?_
    refine m_if_eq (tgt := 71) rfl rfl rfl (by omega) (fun c66 => ?_) (fun c66 => ?_)
    · exfalso; omega
    · refine m_iconst rfl rfl ?_
      refine m_iret rfl rfl rfl (Nat.le_of_ble_eq_true rfl) (Nat.le_of_ble_eq_true rfl) ?_
      unfold moAddSeg
      first | (rw [if_pos (by omega)]; exact ⟨rfl, rfl⟩) | (rw [if_neg (by omega), if_pos (by omega)]; exact ⟨rfl, rfl⟩) | (rw [if_neg (by omega), if_neg (by omega), if_pos (by simp only [Int.toNat_natCast]; omega)]; exact ⟨rfl, rfl⟩)

def moSetS (m : zkM) (p b pe : Int) : Bool × zkM :=
  if ¬ (1 ≤ p ∧ p ≤ 9) ∨ ¬ (1 ≤ b ∧ b ≤ 9) ∨ ¬ (1 ≤ pe ∧ pe ≤ 60) then (false, mset m 7 0 0 1)
  else if m 7 0 11 ≠ 0 then (false, mset m 7 0 0 2)
  else if moTk m p = true then (false, mset m 7 0 0 3)
  else (decide (0 < m 7 0 6), mset (mset (mset (mset (mset m 7 0 0 0) 7 0 6 p) 7 0 7 b) 7 0 8 pe) 7 0 19 b)
set_option maxRecDepth 10000 in
theorem c_mosetServer {l : Launch} {G : zkG} {mem : zkM} (hl : l.stackTraces = false) {p b pe : Int} (hA : moA mem) (hp : inR p) (hb : inR b) (hpe : inR pe) (hck : inR (mem 7 0 11)) : zkCt l G i_Mo_setServer 2 0 0 [vr 7 0, vi p, vi b, vi pe] mem (zkR1 (vi (b2i (moSetS mem p b pe).1)) (moSetS mem p b pe).2) := by
  refine zkCt_of hl ok_Mo_setServer (by decide +kernel) rfl rfl (List.forall_mem_cons.mpr ⟨rfl, (List.forall_mem_cons.mpr ⟨rfl, (List.forall_mem_cons.mpr ⟨rfl, (List.forall_mem_cons.mpr ⟨rfl, fun _ h => nomatch h⟩)⟩)⟩)⟩) (Nat.le_of_ble_eq_true rfl) ?_
  have hn := moA_n hA
  obtain ⟨-, -, -, -, -, g6, g7, g8, g9⟩ := id hA
  refine m_aload_n rfl rfl rfl ?_
  refine m_iload_n rfl rfl rfl ?_
  refine m_iconst rfl rfl ?_
  refine m_bipush rfl rfl (by decide) ?_
  refine m_cs1 rfl rfl lk_7_75 (c_isIn hl (by omega) (by omega) (by omega)) rfl rfl (Nat.le_of_ble_eq_true rfl) (Nat.le_of_ble_eq_true rfl) (Nat.le_of_ble_eq_true rfl) (Nat.le_of_ble_eq_true rfl) (Nat.le_of_ble_eq_true rfl) ?_
  refine m_if_eq_d (tgt := 31) rfl rfl rfl (fun c8 => ?_) (fun c8 => ?_)
  · refine m_iconst rfl rfl ?_
    refine m_goto (tgt := 59) rfl rfl rfl ?_
    refine m_pi (k := 0) rfl rfl (Nat.le_of_ble_eq_true rfl) rfl rfl rfl rfl (by first | decide | assumption | (simp only [cnt]; omega)) ?_
    refine m_aload_n rfl rfl rfl ?_
    refine m_gix (k := 0) (x := 1) rfl rfl (Nat.le_of_ble_eq_true rfl) rfl rfl (by first | decide | assumption | (simp only [cnt]; omega)) rfl ?_
    refine m_if_eq (tgt := 71) rfl rfl rfl (by omega) (fun c66 => ?_) (fun c66 => ?_)
    · exfalso; omega
    · refine m_iconst rfl rfl ?_
      refine m_z0 rfl rfl rfl (Nat.le_of_ble_eq_true rfl) (Nat.le_of_ble_eq_true rfl) ?_
      unfold moSetS
      first | (rw [if_pos (by omega)]; exact ⟨rfl, rfl⟩) | (rw [if_neg (by omega), if_pos (by omega)]; exact ⟨rfl, rfl⟩) | (rw [if_neg (by omega), if_neg (by omega), if_pos c51]; exact ⟨rfl, rfl⟩)
  · refine m_iload_n rfl rfl rfl ?_
    refine m_iconst rfl rfl ?_
    refine m_bipush rfl rfl (by decide) ?_
    refine m_cs1 rfl rfl lk_7_75 (c_isIn hl (by omega) (by omega) (by omega)) rfl rfl (Nat.le_of_ble_eq_true rfl) (Nat.le_of_ble_eq_true rfl) (Nat.le_of_ble_eq_true rfl) (Nat.le_of_ble_eq_true rfl) (Nat.le_of_ble_eq_true rfl) ?_
    refine m_if_eq_d (tgt := 31) rfl rfl rfl (fun c18 => ?_) (fun c18 => ?_)
    · refine m_iconst rfl rfl ?_
      refine m_goto (tgt := 59) rfl rfl rfl ?_
      refine m_pi (k := 0) rfl rfl (Nat.le_of_ble_eq_true rfl) rfl rfl rfl rfl (by first | decide | assumption | (simp only [cnt]; omega)) ?_
      refine m_aload_n rfl rfl rfl ?_
      refine m_gix (k := 0) (x := 1) rfl rfl (Nat.le_of_ble_eq_true rfl) rfl rfl (by first | decide | assumption | (simp only [cnt]; omega)) rfl ?_
      refine m_if_eq (tgt := 71) rfl rfl rfl (by omega) (fun c66 => ?_) (fun c66 => ?_)
      · exfalso; omega
      · refine m_iconst rfl rfl ?_
        refine m_z0 rfl rfl rfl (Nat.le_of_ble_eq_true rfl) (Nat.le_of_ble_eq_true rfl) ?_
        unfold moSetS
        first | (rw [if_pos (by omega)]; exact ⟨rfl, rfl⟩) | (rw [if_neg (by omega), if_pos (by omega)]; exact ⟨rfl, rfl⟩) | (rw [if_neg (by omega), if_neg (by omega), if_pos c51]; exact ⟨rfl, rfl⟩)
    · refine m_iload_n rfl rfl rfl ?_
      refine m_iconst rfl rfl ?_
      refine m_bipush rfl rfl (by decide) ?_
      refine m_cs1 rfl rfl lk_7_75 (c_isIn hl (by omega) (by omega) (by omega)) rfl rfl (Nat.le_of_ble_eq_true rfl) (Nat.le_of_ble_eq_true rfl) (Nat.le_of_ble_eq_true rfl) (Nat.le_of_ble_eq_true rfl) (Nat.le_of_ble_eq_true rfl) ?_
      refine m_if_ne_d (tgt := 35) rfl rfl rfl (fun c28 => ?_) (fun c28 => ?_)
      · refine m_aload_n rfl rfl rfl ?_
        refine m_gix (k := 11) (x := mem 7 _ 11) rfl rfl (Nat.le_of_ble_eq_true rfl) rfl rfl (by first | decide | assumption | (simp only [cnt]; omega)) rfl ?_
        refine m_if_eq (tgt := 46) rfl rfl rfl (by omega) (fun c39 => ?_) (fun c39 => ?_)
        · refine m_aload_n rfl rfl rfl ?_
          refine m_iload_n rfl rfl rfl ?_
          refine m_cv1 rfl rfl lk_7_117 (c_isTaken hl hA (by omega)) rfl (by first | decide | assumption | (simp only [cnt]; omega)) (Nat.le_of_ble_eq_true rfl) rfl rfl (Nat.le_of_ble_eq_true rfl) (Nat.le_of_ble_eq_true rfl) (Nat.le_of_ble_eq_true rfl) (Nat.le_of_ble_eq_true rfl) (Nat.le_of_ble_eq_true rfl) ?_
          refine m_if_eq_b (tgt := 58) rfl rfl rfl (fun c51 => ?_) (fun c51 => ?_)
          · refine m_iconst rfl rfl ?_
            refine m_pi (k := 0) rfl rfl (Nat.le_of_ble_eq_true rfl) rfl rfl rfl rfl (by first | decide | assumption | (simp only [cnt]; omega)) ?_
            refine m_aload_n rfl rfl rfl ?_
            refine m_gix (k := 0) (x := 0) rfl rfl (Nat.le_of_ble_eq_true rfl) rfl rfl (by first | decide | assumption | (simp only [cnt]; omega)) rfl ?_
            refine m_if_eq (tgt := 71) rfl rfl rfl (by omega) (fun c66 => ?_) (fun c66 => ?_)
            · refine m_aload_n rfl rfl rfl ?_
              refine m_cv1 rfl rfl lk_7_124 (show zkCt l G i_Mo_hasServer _ 0 0 _ _ (zkR1 (vi (b2i (decide (0 < mem 7 0 6)))) _) from c_hasServer hl (show inR (mem 7 0 6) by omega)) rfl (by first | decide | assumption | (simp only [cnt]; omega)) (Nat.le_of_ble_eq_true rfl) rfl rfl (Nat.le_of_ble_eq_true rfl) (Nat.le_of_ble_eq_true rfl) (Nat.le_of_ble_eq_true rfl) (Nat.le_of_ble_eq_true rfl) (Nat.le_of_ble_eq_true rfl) ?_
              refine m_istore rfl rfl (Nat.le_of_ble_eq_true rfl) rfl ?_
              refine m_aload_n rfl rfl rfl ?_
              refine m_iload_n rfl rfl rfl ?_
              refine m_pi (k := 6) rfl rfl (Nat.le_of_ble_eq_true rfl) rfl rfl rfl rfl (by first | decide | assumption | (simp only [cnt]; omega)) ?_
              refine m_aload_n rfl rfl rfl ?_
              refine m_iload_n rfl rfl rfl ?_
              refine m_pi (k := 7) rfl rfl (Nat.le_of_ble_eq_true rfl) rfl rfl rfl rfl (by first | decide | assumption | (simp only [cnt]; omega)) ?_
              refine m_aload_n rfl rfl rfl ?_
              refine m_iload_n rfl rfl rfl ?_
              refine m_pi (k := 8) rfl rfl (Nat.le_of_ble_eq_true rfl) rfl rfl rfl rfl (by first | decide | assumption | (simp only [cnt]; omega)) ?_
              refine m_aload_n rfl rfl rfl ?_
              refine m_iload_n rfl rfl rfl ?_
              refine m_pi (k := 19) rfl rfl (Nat.le_of_ble_eq_true rfl) rfl rfl rfl rfl (by first | decide | assumption | (simp only [cnt]; omega)) ?_
              refine m_iload rfl rfl rfl ?_
              refine m_zret rfl rfl rfl (Nat.le_of_ble_eq_true rfl) (Nat.le_of_ble_eq_true rfl) ?_
              unfold moSetS
              rw [if_neg (by omega), if_neg (by omega), if_neg (by rw [c51]; decide)]
              exact ⟨rfl, rfl⟩
            · exfalso; omega
          · refine m_iconst rfl rfl ?_
            refine m_goto (tgt := 59) rfl rfl rfl ?_
            refine m_pi (k := 0) rfl rfl (Nat.le_of_ble_eq_true rfl) rfl rfl rfl rfl (by first | decide | assumption | (simp only [cnt]; omega)) ?_
            refine m_aload_n rfl rfl rfl ?_
            refine m_gix (k := 0) (x := 3) rfl rfl (Nat.le_of_ble_eq_true rfl) rfl rfl (by first | decide | assumption | (simp only [cnt]; omega)) rfl ?_
            refine m_if_eq (tgt := 71) rfl rfl rfl (by omega) (fun c66 => ?_) (fun c66 => ?_)
            · exfalso; omega
            · refine m_iconst rfl rfl ?_
              refine m_z0 rfl rfl rfl (Nat.le_of_ble_eq_true rfl) (Nat.le_of_ble_eq_true rfl) ?_
              unfold moSetS
              first | (rw [if_pos (by omega)]; exact ⟨rfl, rfl⟩) | (rw [if_neg (by omega), if_pos (by omega)]; exact ⟨rfl, rfl⟩) | (rw [if_neg (by omega), if_neg (by omega), if_pos c51]; exact ⟨rfl, rfl⟩)
        · refine m_iconst rfl rfl ?_
          refine m_goto (tgt := 59) rfl rfl rfl ?_
          refine m_pi (k := 0) rfl rfl (Nat.le_of_ble_eq_true rfl) rfl rfl rfl rfl (by first | decide | assumption | (simp only [cnt]; omega)) ?_
          refine m_aload_n rfl rfl rfl ?_
          refine m_gix (k := 0) (x := 2) rfl rfl (Nat.le_of_ble_eq_true rfl) rfl rfl (by first | decide | assumption | (simp only [cnt]; omega)) rfl ?_
          refine m_if_eq (tgt := 71) rfl rfl rfl (by omega) (fun c66 => ?_) (fun c66 => ?_)
          · exfalso; omega
          · refine m_iconst rfl rfl ?_
            refine m_z0 rfl rfl rfl (Nat.le_of_ble_eq_true rfl) (Nat.le_of_ble_eq_true rfl) ?_
            unfold moSetS
            first | (rw [if_pos (by omega)]; exact ⟨rfl, rfl⟩) | (rw [if_neg (by omega), if_pos (by omega)]; exact ⟨rfl, rfl⟩) | (rw [if_neg (by omega), if_neg (by omega), if_pos c51]; exact ⟨rfl, rfl⟩)
      · refine m_iconst rfl rfl ?_
        refine m_goto (tgt := 59) rfl rfl rfl ?_
        refine m_pi (k := 0) rfl rfl (Nat.le_of_ble_eq_true rfl) rfl rfl rfl rfl (by first | decide | assumption | (simp only [cnt]; omega)) ?_
        refine m_aload_n rfl rfl rfl ?_
        refine m_gix (k := 0) (x := 1) rfl rfl (Nat.le_of_ble_eq_true rfl) rfl rfl (by first | decide | assumption | (simp only [cnt]; omega)) rfl ?_
        refine m_if_eq (tgt := 71) rfl rfl rfl (by omega) (fun c66 => ?_) (fun c66 => ?_)
        · exfalso; omega
        · refine m_iconst rfl rfl ?_
          refine m_z0 rfl rfl rfl (Nat.le_of_ble_eq_true rfl) (Nat.le_of_ble_eq_true rfl) ?_
          unfold moSetS
          first | (rw [if_pos (by omega)]; exact ⟨rfl, rfl⟩) | (rw [if_neg (by omega), if_pos (by omega)]; exact ⟨rfl, rfl⟩) | (rw [if_neg (by omega), if_neg (by omega), if_pos c51]; exact ⟨rfl, rfl⟩)

def moReq (m : zkM) (t le : Int) : Int × zkM :=
  if ¬ (0 ≤ t ∧ t ≤ 300) ∨ ¬ (1 ≤ le ∧ le ≤ 9) ∨ t < m 7 0 11 then (0, mset (mset m 7 0 0 0) 7 0 0 1)
  else if m 7 0 9 = 12 then (0, mset (mset m 7 0 0 0) 7 0 0 2)
  else (m 7 0 9 + 1 - 1, mset (mset (mset (mset (mset (mset m 7 0 0 0) 33 0 (2 * (m 7 0 9).toNat) t) 33 0 (2 * (m 7 0 9).toNat + 1) le) 41 0 (m 7 0 9).toNat le) 42 0 (m 7 0 9).toNat (-1)) 7 0 9 (m 7 0 9 + 1))
set_option maxRecDepth 10000 in
theorem c_morequest {l : Launch} {G : zkG} {mem : zkM} (hl : l.stackTraces = false) {t le : Int} (ht : inR t) (hle : inR le) (hq : 0 ≤ mem 7 0 9 ∧ mem 7 0 9 ≤ 12) (hck : inR (mem 7 0 11)) : zkCt l G i_Mo_request 1 0 0 [vr 7 0, vi t, vi le] mem (zkR1 (vi (moReq mem t le).1) (moReq mem t le).2) := by
  refine zkCt_of hl ok_Mo_request (by decide +kernel) rfl rfl (List.forall_mem_cons.mpr ⟨rfl, (List.forall_mem_cons.mpr ⟨rfl, (List.forall_mem_cons.mpr ⟨rfl, fun _ h => nomatch h⟩)⟩)⟩) (Nat.le_of_ble_eq_true rfl) ?_
  refine m_aload_n rfl rfl rfl ?_
  refine m_iconst rfl rfl ?_
  refine m_pi (k := 0) rfl rfl (Nat.le_of_ble_eq_true rfl) rfl rfl rfl rfl (by first | decide | assumption | (simp only [cnt]; omega)) ?_
  refine m_iload_n rfl rfl rfl ?_
  refine m_iconst rfl rfl ?_
  refine m_sipush rfl rfl (by decide) ?_
  refine m_cs1 rfl rfl lk_7_75 (c_isIn hl (by omega) (by omega) (by omega)) rfl rfl (Nat.le_of_ble_eq_true rfl) (Nat.le_of_ble_eq_true rfl) (Nat.le_of_ble_eq_true rfl) (Nat.le_of_ble_eq_true rfl) (Nat.le_of_ble_eq_true rfl) ?_
  refine m_if_eq_d (tgt := 34) rfl rfl rfl (fun c13 => ?_) (fun c13 => ?_)
  · refine m_aload_n rfl rfl rfl ?_
    refine m_iconst rfl rfl ?_
    refine m_cv1 rfl rfl lk_7_114 (c_fail hl) rfl (by first | decide | assumption | (simp only [cnt]; omega)) (Nat.le_of_ble_eq_true rfl) rfl rfl (Nat.le_of_ble_eq_true rfl) (Nat.le_of_ble_eq_true rfl) (Nat.le_of_ble_eq_true rfl) (Nat.le_of_ble_eq_true rfl) (Nat.le_of_ble_eq_true rfl) ?_
    refine m_iret rfl rfl rfl (Nat.le_of_ble_eq_true rfl) (Nat.le_of_ble_eq_true rfl) ?_
    unfold moReq
    rw [if_pos (by omega)]
    exact ⟨rfl, rfl⟩
  · refine m_iload_n rfl rfl rfl ?_
    refine m_iconst rfl rfl ?_
    refine m_bipush rfl rfl (by decide) ?_
    refine m_cs1 rfl rfl lk_7_75 (c_isIn hl (by omega) (by omega) (by omega)) rfl rfl (Nat.le_of_ble_eq_true rfl) (Nat.le_of_ble_eq_true rfl) (Nat.le_of_ble_eq_true rfl) (Nat.le_of_ble_eq_true rfl) (Nat.le_of_ble_eq_true rfl) ?_
    refine m_if_eq_d (tgt := 34) rfl rfl rfl (fun c23 => ?_) (fun c23 => ?_)
    · refine m_aload_n rfl rfl rfl ?_
      refine m_iconst rfl rfl ?_
      refine m_cv1 rfl rfl lk_7_114 (c_fail hl) rfl (by first | decide | assumption | (simp only [cnt]; omega)) (Nat.le_of_ble_eq_true rfl) rfl rfl (Nat.le_of_ble_eq_true rfl) (Nat.le_of_ble_eq_true rfl) (Nat.le_of_ble_eq_true rfl) (Nat.le_of_ble_eq_true rfl) (Nat.le_of_ble_eq_true rfl) ?_
      refine m_iret rfl rfl rfl (Nat.le_of_ble_eq_true rfl) (Nat.le_of_ble_eq_true rfl) ?_
      unfold moReq
      rw [if_pos (by omega)]
      exact ⟨rfl, rfl⟩
    · refine m_iload_n rfl rfl rfl ?_
      refine m_aload_n rfl rfl rfl ?_
      refine m_gix (k := 11) (x := mem 7 _ 11) rfl rfl (Nat.le_of_ble_eq_true rfl) rfl rfl (by first | decide | assumption | (simp only [cnt]; omega)) rfl ?_
      refine m_icmp_ge (tgt := 40) rfl rfl rfl (by omega) (by omega) (fun c31 => ?_) (fun c31 => ?_)
      · refine m_aload_n rfl rfl rfl ?_
        refine m_gix (k := 9) (x := mem 7 _ 9) rfl rfl (Nat.le_of_ble_eq_true rfl) rfl rfl (by first | decide | assumption | (simp only [cnt]; omega)) rfl ?_
        refine m_bipush rfl rfl (by decide) ?_
        refine m_icmp_ne (tgt := 55) rfl rfl rfl (by omega) (by omega) (fun c46 => ?_) (fun c46 => ?_)
        · refine m_aload_n rfl rfl rfl ?_
          refine m_gr (k := 10) rfl rfl (Nat.le_of_ble_eq_true rfl) rfl rfl (by first | decide | assumption | (simp only [cnt]; omega)) ?_
          refine m_iconst rfl rfl ?_
          refine m_aload_n rfl rfl rfl ?_
          refine m_gix (k := 9) (x := mem 7 _ 9) rfl rfl (Nat.le_of_ble_eq_true rfl) rfl rfl (by first | decide | assumption | (simp only [cnt]; omega)) rfl ?_
          refine m_imul rfl rfl ?_
          refine m_iload_n rfl rfl rfl ?_
          refine m_iasn (n := 2 * (mem 7 0 9).toNat) rfl rfl (Nat.le_of_ble_eq_true rfl) rfl (by first | decide | assumption | (simp only [cnt]; omega)) (by omega) (by simp only [aln]; omega) ?_
          refine m_aload_n rfl rfl rfl ?_
          refine m_gr (k := 10) rfl rfl (Nat.le_of_ble_eq_true rfl) rfl rfl (by first | decide | assumption | (simp only [cnt]; omega)) ?_
          refine m_iconst rfl rfl ?_
          refine m_aload_n rfl rfl rfl ?_
          refine m_gix (k := 9) (x := mem 7 _ 9) rfl rfl (Nat.le_of_ble_eq_true rfl) rfl rfl (by first | decide | assumption | (simp only [cnt]; omega)) rfl ?_
          refine m_imul rfl rfl ?_
          refine m_iconst rfl rfl ?_
          refine m_iadd rfl rfl ?_
          refine m_iload_n rfl rfl rfl ?_
          refine m_iasn (n := 2 * (mem 7 0 9).toNat + 1) rfl rfl (Nat.le_of_ble_eq_true rfl) rfl (by first | decide | assumption | (simp only [cnt]; omega)) (by omega) (by simp only [aln]; omega) ?_
          refine m_aload_n rfl rfl rfl ?_
          refine m_gr (k := 23) rfl rfl (Nat.le_of_ble_eq_true rfl) rfl rfl (by first | decide | assumption | (simp only [cnt]; omega)) ?_
          refine m_aload_n rfl rfl rfl ?_
          refine m_gix (k := 9) (x := mem 7 _ 9) rfl rfl (Nat.le_of_ble_eq_true rfl) rfl rfl (by first | decide | assumption | (simp only [cnt]; omega)) rfl ?_
          refine m_iload_n rfl rfl rfl ?_
          refine m_iasn (n := (mem 7 0 9).toNat) rfl rfl (Nat.le_of_ble_eq_true rfl) rfl (by first | decide | assumption | (simp only [cnt]; omega)) (by omega) (by simp only [aln]; omega) ?_
          refine m_aload_n rfl rfl rfl ?_
          refine m_gr (k := 24) rfl rfl (Nat.le_of_ble_eq_true rfl) rfl rfl (by first | decide | assumption | (simp only [cnt]; omega)) ?_
          refine m_aload_n rfl rfl rfl ?_
          refine m_gix (k := 9) (x := mem 7 _ 9) rfl rfl (Nat.le_of_ble_eq_true rfl) rfl rfl (by first | decide | assumption | (simp only [cnt]; omega)) rfl ?_
          refine m_iconst rfl rfl ?_
          refine m_iasn (n := (mem 7 0 9).toNat) rfl rfl (Nat.le_of_ble_eq_true rfl) rfl (by first | decide | assumption | (simp only [cnt]; omega)) (by omega) (by simp only [aln]; omega) ?_
          refine m_aload_n rfl rfl rfl ?_
          refine m_dup rfl rfl rfl ?_
          refine m_gix (k := 9) (x := mem 7 _ 9) rfl rfl (Nat.le_of_ble_eq_true rfl) rfl rfl (by first | decide | assumption | (simp only [cnt]; omega)) rfl ?_
          refine m_iconst rfl rfl ?_
          refine m_iadd rfl rfl ?_
          refine m_pi (k := 9) rfl rfl (Nat.le_of_ble_eq_true rfl) rfl rfl rfl rfl (by first | decide | assumption | (simp only [cnt]; omega)) ?_
          refine m_aload_n rfl rfl rfl ?_
          refine m_gi (k := 9) rfl rfl (Nat.le_of_ble_eq_true rfl) rfl rfl (by first | decide | assumption | (simp only [cnt]; omega)) ?_
          rw [ms_s]
          refine m_iconst rfl rfl ?_
          refine m_isub rfl rfl ?_
          refine m_iret rfl rfl rfl (Nat.le_of_ble_eq_true rfl) (Nat.le_of_ble_eq_true rfl) ?_
          unfold moReq
          rw [if_neg (by omega), if_neg (by omega)]
          exact ⟨rfl, rfl⟩
        · refine m_aload_n rfl rfl rfl ?_
          refine m_iconst rfl rfl ?_
          refine m_cv1 rfl rfl lk_7_114 (c_fail hl) rfl (by first | decide | assumption | (simp only [cnt]; omega)) (Nat.le_of_ble_eq_true rfl) rfl rfl (Nat.le_of_ble_eq_true rfl) (Nat.le_of_ble_eq_true rfl) (Nat.le_of_ble_eq_true rfl) (Nat.le_of_ble_eq_true rfl) (Nat.le_of_ble_eq_true rfl) ?_
          refine m_iret rfl rfl rfl (Nat.le_of_ble_eq_true rfl) (Nat.le_of_ble_eq_true rfl) ?_
          unfold moReq
          rw [if_neg (by omega), if_pos (by omega)]
          exact ⟨rfl, rfl⟩
      · refine m_aload_n rfl rfl rfl ?_
        refine m_iconst rfl rfl ?_
        refine m_cv1 rfl rfl lk_7_114 (c_fail hl) rfl (by first | decide | assumption | (simp only [cnt]; omega)) (Nat.le_of_ble_eq_true rfl) rfl rfl (Nat.le_of_ble_eq_true rfl) (Nat.le_of_ble_eq_true rfl) (Nat.le_of_ble_eq_true rfl) (Nat.le_of_ble_eq_true rfl) (Nat.le_of_ble_eq_true rfl) ?_
        refine m_iret rfl rfl rfl (Nat.le_of_ble_eq_true rfl) (Nat.le_of_ble_eq_true rfl) ?_
        unfold moReq
        rw [if_pos (by omega)]
        exact ⟨rfl, rfl⟩

def moSetP (m : zkM) (p : Int) : Int × zkM := if ¬ (0 ≤ p ∧ p ≤ 2) then (0, mset (mset m 7 0 0 0) 7 0 0 1) else (m 7 0 1, mset (mset m 7 0 0 0) 7 0 1 p)
set_option maxRecDepth 10000 in
theorem c_mosetPolicy {l : Launch} {G : zkG} {mem : zkM} (hl : l.stackTraces = false) {p : Int} (hp : inR p) : zkCt l G i_Mo_setPolicy 1 0 0 [vr 7 0, vi p] mem (zkR1 (vi (moSetP mem p).1) (moSetP mem p).2) := by
  refine zkCt_of hl ok_Mo_setPolicy (by decide +kernel) rfl rfl (List.forall_mem_cons.mpr ⟨rfl, (List.forall_mem_cons.mpr ⟨rfl, fun _ h => nomatch h⟩)⟩) (Nat.le_of_ble_eq_true rfl) ?_
  refine m_aload_n rfl rfl rfl ?_
  refine m_iconst rfl rfl ?_
  refine m_pi (k := 0) rfl rfl (Nat.le_of_ble_eq_true rfl) rfl rfl rfl rfl (by first | decide | assumption | (simp only [cnt]; omega)) ?_
  refine m_iload_n rfl rfl rfl ?_
  refine m_iconst rfl rfl ?_
  refine m_iconst rfl rfl ?_
  refine m_cs1 rfl rfl lk_7_75 (c_isIn hl (by omega) (by omega) (by omega)) rfl rfl (Nat.le_of_ble_eq_true rfl) (Nat.le_of_ble_eq_true rfl) (Nat.le_of_ble_eq_true rfl) (Nat.le_of_ble_eq_true rfl) (Nat.le_of_ble_eq_true rfl) ?_
  refine m_if_ne_d (tgt := 20) rfl rfl rfl (fun c11 => ?_) (fun c11 => ?_)
  · refine m_aload_n rfl rfl rfl ?_
    refine m_gix (k := 1) (x := mem 7 _ 1) rfl rfl (Nat.le_of_ble_eq_true rfl) rfl rfl (by first | decide | assumption | (simp only [cnt]; omega)) rfl ?_
    refine m_istore_n rfl rfl (Nat.le_of_ble_eq_true rfl) rfl ?_
    refine m_aload_n rfl rfl rfl ?_
    refine m_iload_n rfl rfl rfl ?_
    refine m_pi (k := 1) rfl rfl (Nat.le_of_ble_eq_true rfl) rfl rfl rfl rfl (by first | decide | assumption | (simp only [cnt]; omega)) ?_
    refine m_iload_n rfl rfl rfl ?_
    refine m_iret rfl rfl rfl (Nat.le_of_ble_eq_true rfl) (Nat.le_of_ble_eq_true rfl) ?_
    unfold moSetP
    rw [if_neg (by omega)]
    exact ⟨rfl, rfl⟩
  · refine m_aload_n rfl rfl rfl ?_
    refine m_iconst rfl rfl ?_
    refine m_cv1 rfl rfl lk_7_114 (c_fail hl) rfl (by first | decide | assumption | (simp only [cnt]; omega)) (Nat.le_of_ble_eq_true rfl) rfl rfl (Nat.le_of_ble_eq_true rfl) (Nat.le_of_ble_eq_true rfl) (Nat.le_of_ble_eq_true rfl) (Nat.le_of_ble_eq_true rfl) (Nat.le_of_ble_eq_true rfl) ?_
    refine m_iret rfl rfl rfl (Nat.le_of_ble_eq_true rfl) (Nat.le_of_ble_eq_true rfl) ?_
    unfold moSetP
    rw [if_pos (by omega)]
    exact ⟨rfl, rfl⟩

set_option maxRecDepth 10000 in
theorem c_motaskCount {l : Launch} {G : zkG} {mem : zkM} (hl : l.stackTraces = false) : zkCt l G i_Mo_taskCount 0 0 0 [vr 7 0] mem (zkR1 (vi (mem 7 0 2)) (mset mem 7 0 0 0)) := by
  refine zkCt_of hl ok_Mo_taskCount (by decide +kernel) rfl rfl (List.forall_mem_cons.mpr ⟨rfl, fun _ h => nomatch h⟩) (Nat.le_of_ble_eq_true rfl) ?_
  refine m_aload_n rfl rfl rfl ?_
  refine m_iconst rfl rfl ?_
  refine m_pi (k := 0) rfl rfl (Nat.le_of_ble_eq_true rfl) rfl rfl rfl rfl (by first | decide | assumption | (simp only [cnt]; omega)) ?_
  refine m_aload_n rfl rfl rfl ?_
  refine m_gix (k := 2) (x := mem 7 _ 2) rfl rfl (Nat.le_of_ble_eq_true rfl) rfl rfl (by first | decide | assumption | (simp only [cnt]; omega)) rfl ?_
  refine m_iret rfl rfl rfl (Nat.le_of_ble_eq_true rfl) (Nat.le_of_ble_eq_true rfl) ?_
  exact ⟨rfl, rfl⟩

set_option maxRecDepth 10000 in
theorem c_moclock {l : Launch} {G : zkG} {mem : zkM} (hl : l.stackTraces = false) : zkCt l G i_Mo_clock 0 0 0 [vr 7 0] mem (zkR1 (vi (mem 7 0 11)) (mset mem 7 0 0 0)) := by
  refine zkCt_of hl ok_Mo_clock (by decide +kernel) rfl rfl (List.forall_mem_cons.mpr ⟨rfl, fun _ h => nomatch h⟩) (Nat.le_of_ble_eq_true rfl) ?_
  refine m_aload_n rfl rfl rfl ?_
  refine m_iconst rfl rfl ?_
  refine m_pi (k := 0) rfl rfl (Nat.le_of_ble_eq_true rfl) rfl rfl rfl rfl (by first | decide | assumption | (simp only [cnt]; omega)) ?_
  refine m_aload_n rfl rfl rfl ?_
  refine m_gix (k := 11) (x := mem 7 _ 11) rfl rfl (Nat.le_of_ble_eq_true rfl) rfl rfl (by first | decide | assumption | (simp only [cnt]; omega)) rfl ?_
  refine m_iret rfl rfl rfl (Nat.le_of_ble_eq_true rfl) (Nat.le_of_ble_eq_true rfl) ?_
  exact ⟨rfl, rfl⟩

def moTask (m : zkM) (x w : Int) : Int × zkM := if ¬ (0 ≤ x ∧ x ≤ m 7 0 2 - 1) then (0, mset m 7 0 0 1) else if ¬ (0 ≤ w ∧ w ≤ 5) then (0, mset m 7 0 0 2)
  else (if w < 4 then m 30 0 (4 * x.toNat + w.toNat) else if w = 4 then m 31 0 x.toNat else moDe m x.toNat, mset m 7 0 0 0)
set_option maxRecDepth 10000 in
theorem c_motask {l : Launch} {G : zkG} {mem : zkM} (hl : l.stackTraces = false) {x w : Int} (hA : moA mem) (hx : inR x) (hw : inR w) : zkCt l G i_Mo_task 2 0 0 [vr 7 0, vi x, vi w] mem (zkR1 (vi (moTask mem x w).1) (moTask mem x w).2) := by
  refine zkCt_of hl ok_Mo_task (by decide +kernel) rfl rfl (List.forall_mem_cons.mpr ⟨rfl, (List.forall_mem_cons.mpr ⟨rfl, (List.forall_mem_cons.mpr ⟨rfl, fun _ h => nomatch h⟩)⟩)⟩) (Nat.le_of_ble_eq_true rfl) ?_
  have hn := moA_n hA
  have hm := hA.1
  refine m_aload_n rfl rfl rfl ?_
  refine m_aload_n rfl rfl rfl ?_
  refine m_iload_n rfl rfl rfl ?_
  refine m_cv1 rfl rfl lk_7_121 (c_isTask hl (by omega) (by omega)) rfl (by first | decide | assumption | (simp only [cnt]; omega)) (Nat.le_of_ble_eq_true rfl) rfl rfl (Nat.le_of_ble_eq_true rfl) (Nat.le_of_ble_eq_true rfl) (Nat.le_of_ble_eq_true rfl) (Nat.le_of_ble_eq_true rfl) (Nat.le_of_ble_eq_true rfl) ?_
  refine m_if_ne_d (tgt := 13) rfl rfl rfl (fun c6 => ?_) (fun c6 => ?_)
  · refine m_iload_n rfl rfl rfl ?_
    refine m_iconst rfl rfl ?_
    refine m_iconst rfl rfl ?_
    refine m_cs1 rfl rfl lk_7_75 (c_isIn hl (by omega) (by omega) (by omega)) rfl rfl (Nat.le_of_ble_eq_true rfl) (Nat.le_of_ble_eq_true rfl) (Nat.le_of_ble_eq_true rfl) (Nat.le_of_ble_eq_true rfl) (Nat.le_of_ble_eq_true rfl) ?_
    refine m_if_ne_d (tgt := 26) rfl rfl rfl (fun c19 => ?_) (fun c19 => ?_)
    · refine m_iconst rfl rfl ?_
      refine m_pi (k := 0) rfl rfl (Nat.le_of_ble_eq_true rfl) rfl rfl rfl rfl (by first | decide | assumption | (simp only [cnt]; omega)) ?_
      refine m_aload_n rfl rfl rfl ?_
      refine m_gix (k := 0) (x := 0) rfl rfl (Nat.le_of_ble_eq_true rfl) rfl rfl (by first | decide | assumption | (simp only [cnt]; omega)) rfl ?_
      refine m_if_eq (tgt := 39) rfl rfl rfl (by omega) (fun c34 => ?_) (fun c34 => ?_)
      · refine m_iload_n rfl rfl rfl ?_
        refine m_iconst rfl rfl ?_
        refine m_icmp_ge (tgt := 57) rfl rfl rfl (by omega) (by omega) (fun c41 => ?_) (fun c41 => ?_)
        · refine m_iload_n rfl rfl rfl ?_
          refine m_iconst rfl rfl ?_
          refine m_icmp_ne (tgt := 71) rfl rfl rfl (by omega) (by omega) (fun c59 => ?_) (fun c59 => ?_)
          · refine m_aload_n rfl rfl rfl ?_
            refine m_iload_n rfl rfl rfl ?_
            refine m_cv1 rfl rfl lk_7_131 (show zkCt l G i_Mo_demandOf _ 0 0 _ _ (zkR1 (vi (moDe mem x.toNat)) _) from c_demandOf hl (show moA _ from hA) (i := x.toNat) (by omega) (by omega)) rfl (by first | decide | assumption | (simp only [cnt]; omega)) (Nat.le_of_ble_eq_true rfl) rfl rfl (Nat.le_of_ble_eq_true rfl) (Nat.le_of_ble_eq_true rfl) (Nat.le_of_ble_eq_true rfl) (Nat.le_of_ble_eq_true rfl) (Nat.le_of_ble_eq_true rfl) ?_
            refine m_iret rfl rfl rfl (Nat.le_of_ble_eq_true rfl) (Nat.le_of_ble_eq_true rfl) ?_
            unfold moTask
            rw [if_neg (by omega), if_neg (by omega)]
            first | (rw [if_pos (by omega)]; exact ⟨rfl, rfl⟩) | (rw [if_neg (by omega), if_pos (by omega)]; exact ⟨rfl, rfl⟩) | (rw [if_neg (by omega), if_neg (by omega)]; exact ⟨rfl, rfl⟩)
          · refine m_aload_n rfl rfl rfl ?_
            refine m_gr (k := 4) rfl rfl (Nat.le_of_ble_eq_true rfl) rfl rfl (by first | decide | assumption | (simp only [cnt]; omega)) ?_
            refine m_iload_n rfl rfl rfl ?_
            refine m_ialx (n := x.toNat) (y := mem 31 _ (x.toNat)) rfl rfl (Nat.le_of_ble_eq_true rfl) rfl (by first | decide | assumption | (simp only [cnt]; omega)) (by omega) (by simp only [aln]; omega) rfl ?_
            refine m_goto (tgt := 76) rfl rfl rfl ?_
            refine m_iret rfl rfl rfl (Nat.le_of_ble_eq_true rfl) (Nat.le_of_ble_eq_true rfl) ?_
            unfold moTask
            rw [if_neg (by omega), if_neg (by omega)]
            first | (rw [if_pos (by omega)]; exact ⟨rfl, rfl⟩) | (rw [if_neg (by omega), if_pos (by omega)]; exact ⟨rfl, rfl⟩) | (rw [if_neg (by omega), if_neg (by omega)]; exact ⟨rfl, rfl⟩)
        · refine m_aload_n rfl rfl rfl ?_
          refine m_gr (k := 3) rfl rfl (Nat.le_of_ble_eq_true rfl) rfl rfl (by first | decide | assumption | (simp only [cnt]; omega)) ?_
          refine m_iconst rfl rfl ?_
          refine m_iload_n rfl rfl rfl ?_
          refine m_imul rfl rfl ?_
          refine m_iload_n rfl rfl rfl ?_
          refine m_iadd rfl rfl ?_
          refine m_ialx (n := 4 * x.toNat + w.toNat) (y := mem 30 _ (4 * x.toNat + w.toNat)) rfl rfl (Nat.le_of_ble_eq_true rfl) rfl (by first | decide | assumption | (simp only [cnt]; omega)) (by omega) (by simp only [aln]; omega) rfl ?_
          refine m_goto (tgt := 76) rfl rfl rfl ?_
          refine m_iret rfl rfl rfl (Nat.le_of_ble_eq_true rfl) (Nat.le_of_ble_eq_true rfl) ?_
          unfold moTask
          rw [if_neg (by omega), if_neg (by omega)]
          first | (rw [if_pos (by omega)]; exact ⟨rfl, rfl⟩) | (rw [if_neg (by omega), if_pos (by omega)]; exact ⟨rfl, rfl⟩) | (rw [if_neg (by omega), if_neg (by omega)]; exact ⟨rfl, rfl⟩)
      · exfalso; omega
    · refine m_iconst rfl rfl ?_
      refine m_goto (tgt := 27) rfl rfl rfl ?_
      refine m_pi (k := 0) rfl rfl (Nat.le_of_ble_eq_true rfl) rfl rfl rfl rfl (by first | decide | assumption | (simp only [cnt]; omega)) ?_
      refine m_aload_n rfl rfl rfl ?_
      refine m_gix (k := 0) (x := 2) rfl rfl (Nat.le_of_ble_eq_true rfl) rfl rfl (by first | decide | assumption | (simp only [cnt]; omega)) rfl ?_
      refine m_if_eq (tgt := 39) rfl rfl rfl (by omega) (fun c34 => ?_) (fun c34 => ?_)
      · exfalso; omega
      · refine m_iconst rfl rfl ?_
        refine m_iret rfl rfl rfl (Nat.le_of_ble_eq_true rfl) (Nat.le_of_ble_eq_true rfl) ?_
        unfold moTask
        first | (rw [if_pos (by omega)]; exact ⟨rfl, rfl⟩) | (rw [if_neg (by omega), if_pos (by omega)]; exact ⟨rfl, rfl⟩)
  · refine m_iconst rfl rfl ?_
    refine m_goto (tgt := 27) rfl rfl rfl ?_
    refine m_pi (k := 0) rfl rfl (Nat.le_of_ble_eq_true rfl) rfl rfl rfl rfl (by first | decide | assumption | (simp only [cnt]; omega)) ?_
    refine m_aload_n rfl rfl rfl ?_
    refine m_gix (k := 0) (x := 1) rfl rfl (Nat.le_of_ble_eq_true rfl) rfl rfl (by first | decide | assumption | (simp only [cnt]; omega)) rfl ?_
    refine m_if_eq (tgt := 39) rfl rfl rfl (by omega) (fun c34 => ?_) (fun c34 => ?_)
    · exfalso; omega
    · refine m_iconst rfl rfl ?_
      refine m_iret rfl rfl rfl (Nat.le_of_ble_eq_true rfl) (Nat.le_of_ble_eq_true rfl) ?_
      unfold moTask
      first | (rw [if_pos (by omega)]; exact ⟨rfl, rfl⟩) | (rw [if_neg (by omega), if_pos (by omega)]; exact ⟨rfl, rfl⟩)

def moCeil (m : zkM) (r : Int) : Int × zkM := if 0 ≤ r ∧ r ≤ 3 then (moCe m r, mset m 7 0 0 0) else (0, mset (mset m 7 0 0 0) 7 0 0 1)
set_option maxRecDepth 10000 in
theorem c_moceiling {l : Launch} {G : zkG} {mem : zkM} (hl : l.stackTraces = false) {r : Int} (hA : moA mem) (hr : inR r) : zkCt l G i_Mo_ceiling 2 0 0 [vr 7 0, vi r] mem (zkR1 (vi (moCeil mem r).1) (moCeil mem r).2) := by
  refine zkCt_of hl ok_Mo_ceiling (by decide +kernel) rfl rfl (List.forall_mem_cons.mpr ⟨rfl, (List.forall_mem_cons.mpr ⟨rfl, fun _ h => nomatch h⟩)⟩) (Nat.le_of_ble_eq_true rfl) ?_
  refine m_aload_n rfl rfl rfl ?_
  refine m_iconst rfl rfl ?_
  refine m_pi (k := 0) rfl rfl (Nat.le_of_ble_eq_true rfl) rfl rfl rfl rfl (by first | decide | assumption | (simp only [cnt]; omega)) ?_
  refine m_iload_n rfl rfl rfl ?_
  refine m_iconst rfl rfl ?_
  refine m_iconst rfl rfl ?_
  refine m_cs1 rfl rfl lk_7_75 (c_isIn hl (by omega) (by omega) (by omega)) rfl rfl (Nat.le_of_ble_eq_true rfl) (Nat.le_of_ble_eq_true rfl) (Nat.le_of_ble_eq_true rfl) (Nat.le_of_ble_eq_true rfl) (Nat.le_of_ble_eq_true rfl) ?_
  refine m_if_eq_d (tgt := 22) rfl rfl rfl (fun c11 => ?_) (fun c11 => ?_)
  · refine m_aload_n rfl rfl rfl ?_
    refine m_iconst rfl rfl ?_
    refine m_cv1 rfl rfl lk_7_114 (c_fail hl) rfl (by first | decide | assumption | (simp only [cnt]; omega)) (Nat.le_of_ble_eq_true rfl) rfl rfl (Nat.le_of_ble_eq_true rfl) (Nat.le_of_ble_eq_true rfl) (Nat.le_of_ble_eq_true rfl) (Nat.le_of_ble_eq_true rfl) (Nat.le_of_ble_eq_true rfl) ?_
    refine m_iret rfl rfl rfl (Nat.le_of_ble_eq_true rfl) (Nat.le_of_ble_eq_true rfl) ?_
    unfold moCeil
    first | (rw [if_pos (by omega)]; exact ⟨rfl, rfl⟩) | (rw [if_neg (by omega)]; exact ⟨rfl, rfl⟩)
  · refine m_aload_n rfl rfl rfl ?_
    refine m_iload_n rfl rfl rfl ?_
    refine m_cv1 rfl rfl lk_7_142 (show zkCt l G i_Mo_ceilingOf _ 0 0 _ _ (zkR1 (vi (moCe mem r)) _) from c_ceilingOf hl (show moA _ from hA) (by omega)) rfl (by first | decide | assumption | (simp only [cnt]; omega)) (Nat.le_of_ble_eq_true rfl) rfl rfl (Nat.le_of_ble_eq_true rfl) (Nat.le_of_ble_eq_true rfl) (Nat.le_of_ble_eq_true rfl) (Nat.le_of_ble_eq_true rfl) (Nat.le_of_ble_eq_true rfl) ?_
    refine m_goto (tgt := 27) rfl rfl rfl ?_
    refine m_iret rfl rfl rfl (Nat.le_of_ble_eq_true rfl) (Nat.le_of_ble_eq_true rfl) ?_
    unfold moCeil
    first | (rw [if_pos (by omega)]; exact ⟨rfl, rfl⟩) | (rw [if_neg (by omega)]; exact ⟨rfl, rfl⟩)

def moBlk (m : zkM) (x : Int) : Int × zkM := if 0 ≤ x ∧ x ≤ m 7 0 2 - 1 then (moBl m x.toNat, mset m 7 0 0 0) else (0, mset (mset m 7 0 0 0) 7 0 0 1)
set_option maxRecDepth 10000 in
theorem c_moblocking {l : Launch} {G : zkG} {mem : zkM} (hl : l.stackTraces = false) {x : Int} (hA : moA mem) (hx : inR x) : zkCt l G i_Mo_blocking 3 0 0 [vr 7 0, vi x] mem (zkR1 (vi (moBlk mem x).1) (moBlk mem x).2) := by
  refine zkCt_of hl ok_Mo_blocking (by decide +kernel) rfl rfl (List.forall_mem_cons.mpr ⟨rfl, (List.forall_mem_cons.mpr ⟨rfl, fun _ h => nomatch h⟩)⟩) (Nat.le_of_ble_eq_true rfl) ?_
  have hn := moA_n hA
  have hm := hA.1
  refine m_aload_n rfl rfl rfl ?_
  refine m_iconst rfl rfl ?_
  refine m_pi (k := 0) rfl rfl (Nat.le_of_ble_eq_true rfl) rfl rfl rfl rfl (by first | decide | assumption | (simp only [cnt]; omega)) ?_
  refine m_aload_n rfl rfl rfl ?_
  refine m_iload_n rfl rfl rfl ?_
  refine m_cv1 rfl rfl lk_7_121 (show zkCt l G i_Mo_isTask _ 0 0 _ _ (zkR1 (vi (b2i (decide (0 ≤ x ∧ x ≤ mem 7 0 2 - 1)))) _) from c_isTask hl (by omega) (show 0 ≤ mem 7 0 2 ∧ mem 7 0 2 ≤ 5 by omega)) rfl (by first | decide | assumption | (simp only [cnt]; omega)) (Nat.le_of_ble_eq_true rfl) rfl rfl (Nat.le_of_ble_eq_true rfl) (Nat.le_of_ble_eq_true rfl) (Nat.le_of_ble_eq_true rfl) (Nat.le_of_ble_eq_true rfl) (Nat.le_of_ble_eq_true rfl) ?_
  refine m_if_eq_d (tgt := 21) rfl rfl rfl (fun c10 => ?_) (fun c10 => ?_)
  · refine m_aload_n rfl rfl rfl ?_
    refine m_iconst rfl rfl ?_
    refine m_cv1 rfl rfl lk_7_114 (c_fail hl) rfl (by first | decide | assumption | (simp only [cnt]; omega)) (Nat.le_of_ble_eq_true rfl) rfl rfl (Nat.le_of_ble_eq_true rfl) (Nat.le_of_ble_eq_true rfl) (Nat.le_of_ble_eq_true rfl) (Nat.le_of_ble_eq_true rfl) (Nat.le_of_ble_eq_true rfl) ?_
    refine m_iret rfl rfl rfl (Nat.le_of_ble_eq_true rfl) (Nat.le_of_ble_eq_true rfl) ?_
    unfold moBlk
    first | (rw [if_pos (by omega)]; exact ⟨rfl, rfl⟩) | (rw [if_neg (by omega)]; exact ⟨rfl, rfl⟩)
  · refine m_aload_n rfl rfl rfl ?_
    refine m_iload_n rfl rfl rfl ?_
    refine m_cv1 rfl rfl lk_7_145 (show zkCt l G i_Mo_blockingOf _ 0 0 _ _ (zkR1 (vi (moBl mem x.toNat)) _) from c_blockingOf hl (show moA _ from hA) (i := x.toNat) (by omega) (by omega)) rfl (by first | decide | assumption | (simp only [cnt]; omega)) (Nat.le_of_ble_eq_true rfl) rfl rfl (Nat.le_of_ble_eq_true rfl) (Nat.le_of_ble_eq_true rfl) (Nat.le_of_ble_eq_true rfl) (Nat.le_of_ble_eq_true rfl) (Nat.le_of_ble_eq_true rfl) ?_
    refine m_goto (tgt := 26) rfl rfl rfl ?_
    refine m_iret rfl rfl rfl (Nat.le_of_ble_eq_true rfl) (Nat.le_of_ble_eq_true rfl) ?_
    unfold moBlk
    first | (rw [if_pos (by omega)]; exact ⟨rfl, rfl⟩) | (rw [if_neg (by omega)]; exact ⟨rfl, rfl⟩)

def moBnd (m : zkM) (x : Int) : Int × zkM := if ¬ (0 ≤ x ∧ x ≤ m 7 0 2 - 1) then (0, mset m 7 0 0 1) else if m 31 0 x.toNat = 0 then (0, mset m 7 0 0 2)
  else if moBd m x.toNat = -1 then (0, mset (mset m 7 0 0 0) 7 0 0 3) else (moBd m x.toNat, mset m 7 0 0 0)
set_option maxRecDepth 10000 in
theorem c_mobound {l : Launch} {G : zkG} {mem : zkM} (hl : l.stackTraces = false) {x : Int} (hA : moA mem) (hx : inR x) : zkCt l G i_Mo_bound 5 0 0 [vr 7 0, vi x] mem (zkR1 (vi (moBnd mem x).1) (moBnd mem x).2) := by
  refine zkCt_of hl ok_Mo_bound (by decide +kernel) rfl rfl (List.forall_mem_cons.mpr ⟨rfl, (List.forall_mem_cons.mpr ⟨rfl, fun _ h => nomatch h⟩)⟩) (Nat.le_of_ble_eq_true rfl) ?_
  have hn := moA_n hA
  have hm := hA.1
  have hbd := moBd_b mem x.toNat
  refine m_aload_n rfl rfl rfl ?_
  refine m_aload_n rfl rfl rfl ?_
  refine m_iload_n rfl rfl rfl ?_
  refine m_cv1 rfl rfl lk_7_121 (c_isTask hl (by omega) (by omega)) rfl (by first | decide | assumption | (simp only [cnt]; omega)) (Nat.le_of_ble_eq_true rfl) rfl rfl (Nat.le_of_ble_eq_true rfl) (Nat.le_of_ble_eq_true rfl) (Nat.le_of_ble_eq_true rfl) (Nat.le_of_ble_eq_true rfl) (Nat.le_of_ble_eq_true rfl) ?_
  refine m_if_ne_d (tgt := 13) rfl rfl rfl (fun c6 => ?_) (fun c6 => ?_)
  · have hs := moA_s hA (i := x.toNat) (by omega)
    refine m_aload_n rfl rfl rfl ?_
    refine m_gr (k := 4) rfl rfl (Nat.le_of_ble_eq_true rfl) rfl rfl (by first | decide | assumption | (simp only [cnt]; omega)) ?_
    refine m_iload_n rfl rfl rfl ?_
    refine m_ialx (n := x.toNat) (y := mem 31 _ (x.toNat)) rfl rfl (Nat.le_of_ble_eq_true rfl) rfl (by first | decide | assumption | (simp only [cnt]; omega)) (by omega) (by simp only [aln]; omega) rfl ?_
    refine m_if_ne (tgt := 26) rfl rfl rfl (by omega) (fun c19 => ?_) (fun c19 => ?_)
    · refine m_iconst rfl rfl ?_
      refine m_pi (k := 0) rfl rfl (Nat.le_of_ble_eq_true rfl) rfl rfl rfl rfl (by first | decide | assumption | (simp only [cnt]; omega)) ?_
      refine m_aload_n rfl rfl rfl ?_
      refine m_gix (k := 0) (x := 0) rfl rfl (Nat.le_of_ble_eq_true rfl) rfl rfl (by first | decide | assumption | (simp only [cnt]; omega)) rfl ?_
      refine m_if_eq (tgt := 39) rfl rfl rfl (by omega) (fun c34 => ?_) (fun c34 => ?_)
      · refine m_aload_n rfl rfl rfl ?_
        refine m_iload_n rfl rfl rfl ?_
        refine m_cv1 rfl rfl lk_7_157 (show zkCt l G i_Mo_boundOf _ 0 0 _ _ (zkR1 (vi (moBd mem x.toNat)) _) from c_boundOf hl (show moA _ from hA) (i := x.toNat) (by omega) (by omega)) rfl (by first | decide | assumption | (simp only [cnt]; omega)) (Nat.le_of_ble_eq_true rfl) rfl rfl (Nat.le_of_ble_eq_true rfl) (Nat.le_of_ble_eq_true rfl) (Nat.le_of_ble_eq_true rfl) (Nat.le_of_ble_eq_true rfl) (Nat.le_of_ble_eq_true rfl) ?_
        refine m_istore_n rfl rfl (Nat.le_of_ble_eq_true rfl) rfl ?_
        refine m_iload_n rfl rfl rfl ?_
        refine m_iconst rfl rfl ?_
        refine m_icmp_ne (tgt := 58) rfl rfl rfl (by omega) (by omega) (fun c47 => ?_) (fun c47 => ?_)
        · refine m_iload_n rfl rfl rfl ?_
          refine m_iret rfl rfl rfl (Nat.le_of_ble_eq_true rfl) (Nat.le_of_ble_eq_true rfl) ?_
          unfold moBnd
          rw [if_neg (by omega), if_neg (by omega)]
          first | (rw [if_pos (by omega)]; exact ⟨rfl, rfl⟩) | (rw [if_neg (by omega)]; exact ⟨rfl, rfl⟩)
        · refine m_aload_n rfl rfl rfl ?_
          refine m_iconst rfl rfl ?_
          refine m_cv1 rfl rfl lk_7_114 (c_fail hl) rfl (by first | decide | assumption | (simp only [cnt]; omega)) (Nat.le_of_ble_eq_true rfl) rfl rfl (Nat.le_of_ble_eq_true rfl) (Nat.le_of_ble_eq_true rfl) (Nat.le_of_ble_eq_true rfl) (Nat.le_of_ble_eq_true rfl) (Nat.le_of_ble_eq_true rfl) ?_
          refine m_goto (tgt := 59) rfl rfl rfl ?_
          refine m_iret rfl rfl rfl (Nat.le_of_ble_eq_true rfl) (Nat.le_of_ble_eq_true rfl) ?_
          unfold moBnd
          rw [if_neg (by omega), if_neg (by omega)]
          first | (rw [if_pos (by omega)]; exact ⟨rfl, rfl⟩) | (rw [if_neg (by omega)]; exact ⟨rfl, rfl⟩)
      · exfalso; omega
    · refine m_iconst rfl rfl ?_
      refine m_goto (tgt := 27) rfl rfl rfl ?_
      refine m_pi (k := 0) rfl rfl (Nat.le_of_ble_eq_true rfl) rfl rfl rfl rfl (by first | decide | assumption | (simp only [cnt]; omega)) ?_
      refine m_aload_n rfl rfl rfl ?_
      refine m_gix (k := 0) (x := 2) rfl rfl (Nat.le_of_ble_eq_true rfl) rfl rfl (by first | decide | assumption | (simp only [cnt]; omega)) rfl ?_
      refine m_if_eq (tgt := 39) rfl rfl rfl (by omega) (fun c34 => ?_) (fun c34 => ?_)
      · exfalso; omega
      · refine m_iconst rfl rfl ?_
        refine m_iret rfl rfl rfl (Nat.le_of_ble_eq_true rfl) (Nat.le_of_ble_eq_true rfl) ?_
        unfold moBnd
        first | (rw [if_pos (by omega)]; exact ⟨rfl, rfl⟩) | (rw [if_neg (by omega), if_pos (by omega)]; exact ⟨rfl, rfl⟩)
  · refine m_iconst rfl rfl ?_
    refine m_goto (tgt := 27) rfl rfl rfl ?_
    refine m_pi (k := 0) rfl rfl (Nat.le_of_ble_eq_true rfl) rfl rfl rfl rfl (by first | decide | assumption | (simp only [cnt]; omega)) ?_
    refine m_aload_n rfl rfl rfl ?_
    refine m_gix (k := 0) (x := 1) rfl rfl (Nat.le_of_ble_eq_true rfl) rfl rfl (by first | decide | assumption | (simp only [cnt]; omega)) rfl ?_
    refine m_if_eq (tgt := 39) rfl rfl rfl (by omega) (fun c34 => ?_) (fun c34 => ?_)
    · exfalso; omega
    · refine m_iconst rfl rfl ?_
      refine m_iret rfl rfl rfl (Nat.le_of_ble_eq_true rfl) (Nat.le_of_ble_eq_true rfl) ?_
      unfold moBnd
      first | (rw [if_pos (by omega)]; exact ⟨rfl, rfl⟩) | (rw [if_neg (by omega), if_pos (by omega)]; exact ⟨rfl, rfl⟩)

def moWo (m : zkM) (i : Nat) (t o : Int) : Int := if moBl m i ≤ t ∧ 0 < o + moCm m i t then o + moCm m i t - 1 else o + moCm m i t
def moWw (m : zkM) (i : Nat) (t o w : Int) : Int := if moBl m i ≤ t ∧ ¬ 0 < o + moCm m i t then w - 1 else w
def moWtf (m : zkM) (i : Nat) : Nat → Int → Int → Int → Int
  | 0, _, _, _ => -1
  | k + 1, t, o, w => if moWw m i t o w = 0 then t + 1 else moWtf m i k (t + 1) (moWo m i t o) (moWw m i t o w)
def moWt (m : zkM) (i : Nat) : Int := moWtf m i 1000 0 0 (moDe m i)
def moWit (m : zkM) (x : Int) : Int × zkM := if ¬ (0 ≤ x ∧ x ≤ m 7 0 2 - 1) then (0, mset m 7 0 0 1) else if m 31 0 x.toNat = 0 then (0, mset m 7 0 0 2)
  else if moWt m x.toNat = -1 then (0, mset (mset m 7 0 0 0) 7 0 0 3) else (moWt m x.toNat, mset m 7 0 0 0)
def moWq (m : zkM) (x : Int) (r : Int) : Int × zkM := if r = -1 then (0, mset (mset m 7 0 0 0) 7 0 0 3) else (r, mset m 7 0 0 0)
theorem moWtf_b {m : zkM} {i : Nat} : ∀ (k : Nat) (t o w : Int), 0 ≤ t → t + k = 1000 → -1 ≤ moWtf m i k t o w ∧ moWtf m i k t o w ≤ 1000
  | 0, _, _, _, _, _ => by unfold moWtf; omega
  | k + 1, t, o, w, h1, h2 => by
    unfold moWtf
    split
    · omega
    · exact moWtf_b k _ _ _ (by omega) (by omega)
set_option maxHeartbeats 1000000 in
set_option maxRecDepth 10000 in
theorem w_witness {l : Launch} {G : zkG} {mem : zkM} (hl : l.stackTraces = false) {i : Nat} (hA : moA mem) (hi : i < 5) : ∀ (k : Nat) (t o w : Int), 0 ≤ t → t + k = 1000 → (0 ≤ o ∧ o ≤ 279 * t) → (-t ≤ w ∧ w ≤ 60) → zkW l G i_Mo_witness (zkKm G 5 0 0 (zkR1 (vi (moWq mem i (moWtf mem i k t o w)).1) (moWq mem i (moWtf mem i k t o w)).2)) 0 0 57 [some (vr 7 0), some (vi i), some (vi (moBl mem i)), some (vi o), some (vi w), some (vi t)] [] (mset mem 7 0 0 0) := by
  have hbl := moBl_b hA i
  intro k
  induction k with
  | zero =>
    intro t o w h1 h2 h3 h4
    refine m_iload rfl rfl rfl ?_
    refine m_sipush rfl rfl (by decide) ?_
    refine m_icmp_ge (tgt := 116) rfl rfl rfl (by omega) (by omega) (fun c62 => ?_) (fun c62 => ?_)
    · refine m_aload_n rfl rfl rfl ?_
      refine m_iconst rfl rfl ?_
      refine m_cv1 rfl rfl lk_7_114 (c_fail hl) rfl (by first | decide | assumption | (simp only [cnt]; omega)) (Nat.le_of_ble_eq_true rfl) rfl rfl (Nat.le_of_ble_eq_true rfl) (Nat.le_of_ble_eq_true rfl) (Nat.le_of_ble_eq_true rfl) (Nat.le_of_ble_eq_true rfl) (Nat.le_of_ble_eq_true rfl) ?_
      refine m_iret rfl rfl rfl (Nat.le_of_ble_eq_true rfl) (Nat.le_of_ble_eq_true rfl) ?_
      exact ⟨rfl, rfl⟩
    · exfalso; omega
  | succ k ih =>
    intro t o w h1 h2 h3 h4
    have hcm := moCm_b hA i t
    refine m_iload rfl rfl rfl ?_
    refine m_sipush rfl rfl (by decide) ?_
    refine m_icmp_ge (tgt := 116) rfl rfl rfl (by omega) (by omega) (fun c62 => ?_) (fun c62 => ?_)
    · exfalso; omega
    · refine m_iload_n rfl rfl rfl ?_
      refine m_aload_n rfl rfl rfl ?_
      refine m_iload_n rfl rfl rfl ?_
      refine m_iload rfl rfl rfl ?_
      refine m_cv1 rfl rfl lk_7_160 (show zkCt l G i_Mo_comes _ 0 0 _ _ (zkR1 (vi (moCm mem i t)) _) from c_comes hl (show moA _ from hA) (i := i) rfl (by omega) (by omega)) rfl (by first | decide | assumption | (simp only [cnt]; omega)) (Nat.le_of_ble_eq_true rfl) rfl rfl (Nat.le_of_ble_eq_true rfl) (Nat.le_of_ble_eq_true rfl) (Nat.le_of_ble_eq_true rfl) (Nat.le_of_ble_eq_true rfl) (Nat.le_of_ble_eq_true rfl) ?_
      refine m_iadd rfl rfl ?_
      refine m_istore_n rfl rfl (Nat.le_of_ble_eq_true rfl) rfl ?_
      refine m_iload rfl rfl rfl ?_
      refine m_iload_n rfl rfl rfl ?_
      refine m_icmp_lt (tgt := 91) rfl rfl rfl (by omega) (by omega) (fun c78 => ?_) (fun c78 => ?_)
      · refine m_iload rfl rfl rfl ?_
        refine m_iload_n rfl rfl rfl ?_
        refine m_icmp_lt (tgt := 100) rfl rfl rfl (by omega) (by omega) (fun c94 => ?_) (fun c94 => ?_)
        · refine m_iload rfl rfl rfl ?_
          refine m_if_ne (tgt := 110) rfl rfl rfl (by omega) (fun c102 => ?_) (fun c102 => ?_)
          · refine m_iinc rfl rfl rfl (Nat.le_of_ble_eq_true rfl) rfl ?_
            refine m_goto (tgt := 57) rfl rfl rfl ?_
            unfold moWtf
            first | (exfalso; omega) | (have e1 : moWo mem i t o = o + moCm mem i t - 1 := if_pos (by omega); have e2 : moWw mem i t o w = w := if_neg (by omega); rw [e1, e2, if_neg (by omega)]; exact ih _ _ _ (by omega) (by omega) (by omega) (by omega)) | (have e1 : moWo mem i t o = o + moCm mem i t := if_neg (by omega); have e2 : moWw mem i t o w = w - 1 := if_pos (by omega); rw [e1, e2, if_neg (by omega)]; exact ih _ _ _ (by omega) (by omega) (by omega) (by omega)) | (have e1 : moWo mem i t o = o + moCm mem i t := if_neg (by omega); have e2 : moWw mem i t o w = w := if_neg (by omega); rw [e1, e2, if_neg (by omega)]; exact ih _ _ _ (by omega) (by omega) (by omega) (by omega))
          · refine m_iload rfl rfl rfl ?_
            refine m_iconst rfl rfl ?_
            refine m_iadd rfl rfl ?_
            refine m_iret rfl rfl rfl (Nat.le_of_ble_eq_true rfl) (Nat.le_of_ble_eq_true rfl) ?_
            unfold moWtf
            first | rw [if_pos (show moWw mem i t o w = 0 by unfold moWw; rw [if_pos (by omega)]; omega)] | rw [if_pos (show moWw mem i t o w = 0 by unfold moWw; rw [if_neg (by omega)]; omega)]
            unfold moWq
            rw [if_neg (by omega)]
            exact ⟨rfl, rfl⟩
        · refine m_iinc rfl rfl rfl (Nat.le_of_ble_eq_true rfl) rfl ?_
          refine m_iload rfl rfl rfl ?_
          refine m_if_ne (tgt := 110) rfl rfl rfl (by omega) (fun c102 => ?_) (fun c102 => ?_)
          · refine m_iinc rfl rfl rfl (Nat.le_of_ble_eq_true rfl) rfl ?_
            refine m_goto (tgt := 57) rfl rfl rfl ?_
            unfold moWtf
            first | (exfalso; omega) | (have e1 : moWo mem i t o = o + moCm mem i t - 1 := if_pos (by omega); have e2 : moWw mem i t o w = w := if_neg (by omega); rw [e1, e2, if_neg (by omega)]; exact ih _ _ _ (by omega) (by omega) (by omega) (by omega)) | (have e1 : moWo mem i t o = o + moCm mem i t := if_neg (by omega); have e2 : moWw mem i t o w = w - 1 := if_pos (by omega); rw [e1, e2, if_neg (by omega)]; exact ih _ _ _ (by omega) (by omega) (by omega) (by omega)) | (have e1 : moWo mem i t o = o + moCm mem i t := if_neg (by omega); have e2 : moWw mem i t o w = w := if_neg (by omega); rw [e1, e2, if_neg (by omega)]; exact ih _ _ _ (by omega) (by omega) (by omega) (by omega))
          · refine m_iload rfl rfl rfl ?_
            refine m_iconst rfl rfl ?_
            refine m_iadd rfl rfl ?_
            refine m_iret rfl rfl rfl (Nat.le_of_ble_eq_true rfl) (Nat.le_of_ble_eq_true rfl) ?_
            unfold moWtf
            first | rw [if_pos (show moWw mem i t o w = 0 by unfold moWw; rw [if_pos (by omega)]; omega)] | rw [if_pos (show moWw mem i t o w = 0 by unfold moWw; rw [if_neg (by omega)]; omega)]
            unfold moWq
            rw [if_neg (by omega)]
            exact ⟨rfl, rfl⟩
      · refine m_iload_n rfl rfl rfl ?_
        refine m_if_le (tgt := 91) rfl rfl rfl (by omega) (fun c82 => ?_) (fun c82 => ?_)
        · refine m_iload rfl rfl rfl ?_
          refine m_iload_n rfl rfl rfl ?_
          refine m_icmp_lt (tgt := 100) rfl rfl rfl (by omega) (by omega) (fun c94 => ?_) (fun c94 => ?_)
          · refine m_iload rfl rfl rfl ?_
            refine m_if_ne (tgt := 110) rfl rfl rfl (by omega) (fun c102 => ?_) (fun c102 => ?_)
            · refine m_iinc rfl rfl rfl (Nat.le_of_ble_eq_true rfl) rfl ?_
              refine m_goto (tgt := 57) rfl rfl rfl ?_
              unfold moWtf
              first | (exfalso; omega) | (have e1 : moWo mem i t o = o + moCm mem i t - 1 := if_pos (by omega); have e2 : moWw mem i t o w = w := if_neg (by omega); rw [e1, e2, if_neg (by omega)]; exact ih _ _ _ (by omega) (by omega) (by omega) (by omega)) | (have e1 : moWo mem i t o = o + moCm mem i t := if_neg (by omega); have e2 : moWw mem i t o w = w - 1 := if_pos (by omega); rw [e1, e2, if_neg (by omega)]; exact ih _ _ _ (by omega) (by omega) (by omega) (by omega)) | (have e1 : moWo mem i t o = o + moCm mem i t := if_neg (by omega); have e2 : moWw mem i t o w = w := if_neg (by omega); rw [e1, e2, if_neg (by omega)]; exact ih _ _ _ (by omega) (by omega) (by omega) (by omega))
            · refine m_iload rfl rfl rfl ?_
              refine m_iconst rfl rfl ?_
              refine m_iadd rfl rfl ?_
              refine m_iret rfl rfl rfl (Nat.le_of_ble_eq_true rfl) (Nat.le_of_ble_eq_true rfl) ?_
              unfold moWtf
              first | rw [if_pos (show moWw mem i t o w = 0 by unfold moWw; rw [if_pos (by omega)]; omega)] | rw [if_pos (show moWw mem i t o w = 0 by unfold moWw; rw [if_neg (by omega)]; omega)]
              unfold moWq
              rw [if_neg (by omega)]
              exact ⟨rfl, rfl⟩
          · refine m_iinc rfl rfl rfl (Nat.le_of_ble_eq_true rfl) rfl ?_
            refine m_iload rfl rfl rfl ?_
            refine m_if_ne (tgt := 110) rfl rfl rfl (by omega) (fun c102 => ?_) (fun c102 => ?_)
            · refine m_iinc rfl rfl rfl (Nat.le_of_ble_eq_true rfl) rfl ?_
              refine m_goto (tgt := 57) rfl rfl rfl ?_
              unfold moWtf
              first | (exfalso; omega) | (have e1 : moWo mem i t o = o + moCm mem i t - 1 := if_pos (by omega); have e2 : moWw mem i t o w = w := if_neg (by omega); rw [e1, e2, if_neg (by omega)]; exact ih _ _ _ (by omega) (by omega) (by omega) (by omega)) | (have e1 : moWo mem i t o = o + moCm mem i t := if_neg (by omega); have e2 : moWw mem i t o w = w - 1 := if_pos (by omega); rw [e1, e2, if_neg (by omega)]; exact ih _ _ _ (by omega) (by omega) (by omega) (by omega)) | (have e1 : moWo mem i t o = o + moCm mem i t := if_neg (by omega); have e2 : moWw mem i t o w = w := if_neg (by omega); rw [e1, e2, if_neg (by omega)]; exact ih _ _ _ (by omega) (by omega) (by omega) (by omega))
            · refine m_iload rfl rfl rfl ?_
              refine m_iconst rfl rfl ?_
              refine m_iadd rfl rfl ?_
              refine m_iret rfl rfl rfl (Nat.le_of_ble_eq_true rfl) (Nat.le_of_ble_eq_true rfl) ?_
              unfold moWtf
              first | rw [if_pos (show moWw mem i t o w = 0 by unfold moWw; rw [if_pos (by omega)]; omega)] | rw [if_pos (show moWw mem i t o w = 0 by unfold moWw; rw [if_neg (by omega)]; omega)]
              unfold moWq
              rw [if_neg (by omega)]
              exact ⟨rfl, rfl⟩
        · refine m_iinc rfl rfl rfl (Nat.le_of_ble_eq_true rfl) rfl ?_
          refine m_goto (tgt := 100) rfl rfl rfl ?_
          refine m_iload rfl rfl rfl ?_
          refine m_if_ne (tgt := 110) rfl rfl rfl (by omega) (fun c102 => ?_) (fun c102 => ?_)
          · refine m_iinc rfl rfl rfl (Nat.le_of_ble_eq_true rfl) rfl ?_
            refine m_goto (tgt := 57) rfl rfl rfl ?_
            unfold moWtf
            first | (exfalso; omega) | (have e1 : moWo mem i t o = o + moCm mem i t - 1 := if_pos (by omega); have e2 : moWw mem i t o w = w := if_neg (by omega); rw [e1, e2, if_neg (by omega)]; exact ih _ _ _ (by omega) (by omega) (by omega) (by omega)) | (have e1 : moWo mem i t o = o + moCm mem i t := if_neg (by omega); have e2 : moWw mem i t o w = w - 1 := if_pos (by omega); rw [e1, e2, if_neg (by omega)]; exact ih _ _ _ (by omega) (by omega) (by omega) (by omega)) | (have e1 : moWo mem i t o = o + moCm mem i t := if_neg (by omega); have e2 : moWw mem i t o w = w := if_neg (by omega); rw [e1, e2, if_neg (by omega)]; exact ih _ _ _ (by omega) (by omega) (by omega) (by omega))
          · refine m_iload rfl rfl rfl ?_
            refine m_iconst rfl rfl ?_
            refine m_iadd rfl rfl ?_
            refine m_iret rfl rfl rfl (Nat.le_of_ble_eq_true rfl) (Nat.le_of_ble_eq_true rfl) ?_
            unfold moWtf
            first | rw [if_pos (show moWw mem i t o w = 0 by unfold moWw; rw [if_pos (by omega)]; omega)] | rw [if_pos (show moWw mem i t o w = 0 by unfold moWw; rw [if_neg (by omega)]; omega)]
            unfold moWq
            rw [if_neg (by omega)]
            exact ⟨rfl, rfl⟩

set_option maxRecDepth 10000 in
theorem c_mowitness {l : Launch} {G : zkG} {mem : zkM} (hl : l.stackTraces = false) {x : Int} (hA : moA mem) (hx : inR x) : zkCt l G i_Mo_witness 5 0 0 [vr 7 0, vi x] mem (zkR1 (vi (moWit mem x).1) (moWit mem x).2) := by
  refine zkCt_of hl ok_Mo_witness (by decide +kernel) rfl rfl (List.forall_mem_cons.mpr ⟨rfl, (List.forall_mem_cons.mpr ⟨rfl, fun _ h => nomatch h⟩)⟩) (Nat.le_of_ble_eq_true rfl) ?_
  have hn := moA_n hA
  have hm := hA.1
  refine m_aload_n rfl rfl rfl ?_
  refine m_aload_n rfl rfl rfl ?_
  refine m_iload_n rfl rfl rfl ?_
  refine m_cv1 rfl rfl lk_7_121 (c_isTask hl (by omega) (by omega)) rfl (by first | decide | assumption | (simp only [cnt]; omega)) (Nat.le_of_ble_eq_true rfl) rfl rfl (Nat.le_of_ble_eq_true rfl) (Nat.le_of_ble_eq_true rfl) (Nat.le_of_ble_eq_true rfl) (Nat.le_of_ble_eq_true rfl) (Nat.le_of_ble_eq_true rfl) ?_
  refine m_if_ne_d (tgt := 13) rfl rfl rfl (fun c6 => ?_) (fun c6 => ?_)
  · obtain ⟨i, rfl⟩ : ∃ i : Nat, x = i := ⟨x.toNat, by omega⟩
    have hs := moA_s hA (i := i) (by omega)
    refine m_aload_n rfl rfl rfl ?_
    refine m_gr (k := 4) rfl rfl (Nat.le_of_ble_eq_true rfl) rfl rfl (by first | decide | assumption | (simp only [cnt]; omega)) ?_
    refine m_iload_n rfl rfl rfl ?_
    refine m_ialx (n := i) (y := mem 31 _ (i)) rfl rfl (Nat.le_of_ble_eq_true rfl) rfl (by first | decide | assumption | (simp only [cnt]; omega)) (by omega) (by simp only [aln]; omega) rfl ?_
    refine m_if_ne (tgt := 26) rfl rfl rfl (by omega) (fun c19 => ?_) (fun c19 => ?_)
    · refine m_iconst rfl rfl ?_
      refine m_pi (k := 0) rfl rfl (Nat.le_of_ble_eq_true rfl) rfl rfl rfl rfl (by first | decide | assumption | (simp only [cnt]; omega)) ?_
      refine m_aload_n rfl rfl rfl ?_
      refine m_gix (k := 0) (x := 0) rfl rfl (Nat.le_of_ble_eq_true rfl) rfl rfl (by first | decide | assumption | (simp only [cnt]; omega)) rfl ?_
      refine m_if_eq (tgt := 39) rfl rfl rfl (by omega) (fun c34 => ?_) (fun c34 => ?_)
      · refine m_aload_n rfl rfl rfl ?_
        refine m_iload_n rfl rfl rfl ?_
        refine m_cv1 rfl rfl lk_7_145 (show zkCt l G i_Mo_blockingOf _ 0 0 _ _ (zkR1 (vi (moBl mem i)) _) from c_blockingOf hl (show moA _ from hA) (i := i) rfl (by omega)) rfl (by first | decide | assumption | (simp only [cnt]; omega)) (Nat.le_of_ble_eq_true rfl) rfl rfl (Nat.le_of_ble_eq_true rfl) (Nat.le_of_ble_eq_true rfl) (Nat.le_of_ble_eq_true rfl) (Nat.le_of_ble_eq_true rfl) (Nat.le_of_ble_eq_true rfl) ?_
        refine m_istore_n rfl rfl (Nat.le_of_ble_eq_true rfl) rfl ?_
        refine m_iconst rfl rfl ?_
        refine m_istore_n rfl rfl (Nat.le_of_ble_eq_true rfl) rfl ?_
        refine m_aload_n rfl rfl rfl ?_
        refine m_iload_n rfl rfl rfl ?_
        refine m_cv1 rfl rfl lk_7_131 (show zkCt l G i_Mo_demandOf _ 0 0 _ _ (zkR1 (vi (moDe mem i)) _) from c_demandOf hl (show moA _ from hA) (i := i) rfl (by omega)) rfl (by first | decide | assumption | (simp only [cnt]; omega)) (Nat.le_of_ble_eq_true rfl) rfl rfl (Nat.le_of_ble_eq_true rfl) (Nat.le_of_ble_eq_true rfl) (Nat.le_of_ble_eq_true rfl) (Nat.le_of_ble_eq_true rfl) (Nat.le_of_ble_eq_true rfl) ?_
        refine m_istore rfl rfl (Nat.le_of_ble_eq_true rfl) rfl ?_
        refine m_iconst rfl rfl ?_
        refine m_istore rfl rfl (Nat.le_of_ble_eq_true rfl) rfl ?_
        have hde := moDe_b hA (i := i) (by omega)
        unfold moWit
        rw [if_neg (by omega), if_neg (by simp only [Int.toNat_natCast]; omega)]
        exact w_witness hl hA (by omega) 1000 0 0 (moDe mem i) (by omega) (by omega) (by omega) (by omega)
      · exfalso; omega
    · refine m_iconst rfl rfl ?_
      refine m_goto (tgt := 27) rfl rfl rfl ?_
      refine m_pi (k := 0) rfl rfl (Nat.le_of_ble_eq_true rfl) rfl rfl rfl rfl (by first | decide | assumption | (simp only [cnt]; omega)) ?_
      refine m_aload_n rfl rfl rfl ?_
      refine m_gix (k := 0) (x := 2) rfl rfl (Nat.le_of_ble_eq_true rfl) rfl rfl (by first | decide | assumption | (simp only [cnt]; omega)) rfl ?_
      refine m_if_eq (tgt := 39) rfl rfl rfl (by omega) (fun c34 => ?_) (fun c34 => ?_)
      · exfalso; omega
      · refine m_iconst rfl rfl ?_
        refine m_iret rfl rfl rfl (Nat.le_of_ble_eq_true rfl) (Nat.le_of_ble_eq_true rfl) ?_
        unfold moWit
        first | (rw [if_pos (by omega)]; exact ⟨rfl, rfl⟩) | (rw [if_neg (by omega), if_pos (by simp only [Int.toNat_natCast]; omega)]; exact ⟨rfl, rfl⟩)
  · refine m_iconst rfl rfl ?_
    refine m_goto (tgt := 27) rfl rfl rfl ?_
    refine m_pi (k := 0) rfl rfl (Nat.le_of_ble_eq_true rfl) rfl rfl rfl rfl (by first | decide | assumption | (simp only [cnt]; omega)) ?_
    refine m_aload_n rfl rfl rfl ?_
    refine m_gix (k := 0) (x := 1) rfl rfl (Nat.le_of_ble_eq_true rfl) rfl rfl (by first | decide | assumption | (simp only [cnt]; omega)) rfl ?_
    refine m_if_eq (tgt := 39) rfl rfl rfl (by omega) (fun c34 => ?_) (fun c34 => ?_)
    · exfalso; omega
    · refine m_iconst rfl rfl ?_
      refine m_iret rfl rfl rfl (Nat.le_of_ble_eq_true rfl) (Nat.le_of_ble_eq_true rfl) ?_
      unfold moWit
      first | (rw [if_pos (by omega)]; exact ⟨rfl, rfl⟩) | (rw [if_neg (by omega), if_pos (by simp only [Int.toNat_natCast]; omega)]; exact ⟨rfl, rfl⟩)

def moSf (m : zkM) (j : Nat) (s : Bool) : Bool := s && (decide ((if m 31 0 j = 0 then 1 else moBd m j) ≠ -1) && decide ((if m 31 0 j = 0 then 1 else moBd m j) ≤ m 30 0 (4 * j + 2)))
def moSch (m : zkM) : Bool := lp (moSf m) (moN m) true
set_option maxRecDepth 10000 in
theorem c_moisSched {l : Launch} {G : zkG} {mem : zkM} (hl : l.stackTraces = false) (hA : moA mem) : zkCt l G i_Mo_isSchedulable 5 0 0 [vr 7 0] mem (zkR1 (vi (b2i (moSch mem))) (mset mem 7 0 0 0)) := by
  refine zkCt_of hl ok_Mo_isSchedulable (by decide +kernel) rfl rfl (List.forall_mem_cons.mpr ⟨rfl, fun _ h => nomatch h⟩) (Nat.le_of_ble_eq_true rfl) ?_
  have hn := moA_n hA
  have hm := hA.1
  refine m_aload_n rfl rfl rfl ?_
  refine m_iconst rfl rfl ?_
  refine m_pi (k := 0) rfl rfl (Nat.le_of_ble_eq_true rfl) rfl rfl rfl rfl (by first | decide | assumption | (simp only [cnt]; omega)) ?_
  refine m_iconst rfl rfl ?_
  refine m_istore_n rfl rfl (Nat.le_of_ble_eq_true rfl) rfl ?_
  refine m_iconst rfl rfl ?_
  refine m_istore_n rfl rfl (Nat.le_of_ble_eq_true rfl) rfl ?_
  refine zk_loop (P := fun (j : Nat) (s : Bool) => zkW l G i_Mo_isSchedulable _ 0 0 9 [some (vr 7 0), some (vi (b2i s)), some (vi j), none] [] (mset mem 7 0 0 0)) (I := fun _ _ => True) (moSf mem) (moN mem) true trivial (fun _ _ _ _ => trivial) (fun j s hj _ hk => ?_) (fun _ => ?_)
  · have hs := moA_s hA (i := j) (by omega)
    have hd := (hA.2.2.1 j (by omega)).2.2.1
    have hbd := moBd_b mem j
    unfold moSf at hk
    refine m_iload_n rfl rfl rfl ?_
    refine m_aload_n rfl rfl rfl ?_
    refine m_gix (k := 2) (x := mem 7 _ 2) rfl rfl (Nat.le_of_ble_eq_true rfl) rfl rfl (by first | decide | assumption | (simp only [cnt]; omega)) rfl ?_
    refine m_icmp_ge (tgt := 71) rfl rfl rfl (by omega) (by omega) (fun c14 => ?_) (fun c14 => ?_)
    · exfalso; omega
    · refine m_aload_n rfl rfl rfl ?_
      refine m_gr (k := 4) rfl rfl (Nat.le_of_ble_eq_true rfl) rfl rfl (by first | decide | assumption | (simp only [cnt]; omega)) ?_
      refine m_iload_n rfl rfl rfl ?_
      refine m_ialx (n := j) (y := mem 31 _ (j)) rfl rfl (Nat.le_of_ble_eq_true rfl) rfl (by first | decide | assumption | (simp only [cnt]; omega)) (by omega) (by simp only [aln]; omega) rfl ?_
      refine m_if_ne (tgt := 30) rfl rfl rfl (by omega) (fun c23 => ?_) (fun c23 => ?_)
      · refine m_aload_n rfl rfl rfl ?_
        refine m_iload_n rfl rfl rfl ?_
        refine m_cv1 rfl rfl lk_7_157 (show zkCt l G i_Mo_boundOf _ 0 0 _ _ (zkR1 (vi (moBd mem j)) _) from c_boundOf hl (show moA _ from hA) (i := j) rfl (by omega)) rfl (by first | decide | assumption | (simp only [cnt]; omega)) (Nat.le_of_ble_eq_true rfl) rfl rfl (Nat.le_of_ble_eq_true rfl) (Nat.le_of_ble_eq_true rfl) (Nat.le_of_ble_eq_true rfl) (Nat.le_of_ble_eq_true rfl) (Nat.le_of_ble_eq_true rfl) ?_
        refine m_istore_n rfl rfl (Nat.le_of_ble_eq_true rfl) rfl ?_
        refine m_iload_n rfl rfl rfl ?_
        refine m_if_eq_b (tgt := 63) rfl rfl rfl (fun c37 => ?_) (fun c37 => ?_)
        · refine m_iconst rfl rfl ?_
          refine m_istore_n rfl rfl (Nat.le_of_ble_eq_true rfl) rfl ?_
          refine m_iinc rfl rfl rfl (Nat.le_of_ble_eq_true rfl) rfl ?_
          refine m_goto (tgt := 9) rfl rfl rfl ?_
          refine zk_fg 3 ?_
          subst c37
          first | rw [if_pos (by omega)] at hk | rw [if_neg (by omega)] at hk
          first | exact hk | (rw [df (by omega)] at hk; exact hk) | (rw [dt (by omega), df (by omega)] at hk; exact hk) | (rw [dt (by omega), dt (by omega)] at hk; exact hk)
        · refine m_iload_n rfl rfl rfl ?_
          refine m_iconst rfl rfl ?_
          refine m_icmp_eq (tgt := 63) rfl rfl rfl (by omega) (by omega) (fun c42 => ?_) (fun c42 => ?_)
          · refine m_iconst rfl rfl ?_
            refine m_istore_n rfl rfl (Nat.le_of_ble_eq_true rfl) rfl ?_
            refine m_iinc rfl rfl rfl (Nat.le_of_ble_eq_true rfl) rfl ?_
            refine m_goto (tgt := 9) rfl rfl rfl ?_
            refine zk_fg 3 ?_
            subst c37
            first | rw [if_pos (by omega)] at hk | rw [if_neg (by omega)] at hk
            first | exact hk | (rw [df (by omega)] at hk; exact hk) | (rw [dt (by omega), df (by omega)] at hk; exact hk) | (rw [dt (by omega), dt (by omega)] at hk; exact hk)
          · refine m_iload_n rfl rfl rfl ?_
            refine m_aload_n rfl rfl rfl ?_
            refine m_gr (k := 3) rfl rfl (Nat.le_of_ble_eq_true rfl) rfl rfl (by first | decide | assumption | (simp only [cnt]; omega)) ?_
            refine m_iconst rfl rfl ?_
            refine m_iload_n rfl rfl rfl ?_
            refine m_imul rfl rfl ?_
            refine m_iconst rfl rfl ?_
            refine m_iadd rfl rfl ?_
            refine m_ialx (n := 4 * j + 2) (y := mem 30 _ (4 * j + 2)) rfl rfl (Nat.le_of_ble_eq_true rfl) rfl (by first | decide | assumption | (simp only [cnt]; omega)) (by omega) (by simp only [aln]; omega) rfl ?_
            refine m_icmp_gt (tgt := 63) rfl rfl rfl (by omega) (by omega) (fun c56 => ?_) (fun c56 => ?_)
            · refine m_iconst rfl rfl ?_
              refine m_istore_n rfl rfl (Nat.le_of_ble_eq_true rfl) rfl ?_
              refine m_iinc rfl rfl rfl (Nat.le_of_ble_eq_true rfl) rfl ?_
              refine m_goto (tgt := 9) rfl rfl rfl ?_
              refine zk_fg 3 ?_
              subst c37
              first | rw [if_pos (by omega)] at hk | rw [if_neg (by omega)] at hk
              first | exact hk | (rw [df (by omega)] at hk; exact hk) | (rw [dt (by omega), df (by omega)] at hk; exact hk) | (rw [dt (by omega), dt (by omega)] at hk; exact hk)
            · refine m_iconst rfl rfl ?_
              refine m_goto (tgt := 64) rfl rfl rfl ?_
              refine m_istore_n rfl rfl (Nat.le_of_ble_eq_true rfl) rfl ?_
              refine m_iinc rfl rfl rfl (Nat.le_of_ble_eq_true rfl) rfl ?_
              refine m_goto (tgt := 9) rfl rfl rfl ?_
              refine zk_fg 3 ?_
              subst c37
              first | rw [if_pos (by omega)] at hk | rw [if_neg (by omega)] at hk
              first | exact hk | (rw [df (by omega)] at hk; exact hk) | (rw [dt (by omega), df (by omega)] at hk; exact hk) | (rw [dt (by omega), dt (by omega)] at hk; exact hk)
      · refine m_iconst rfl rfl ?_
        refine m_goto (tgt := 35) rfl rfl rfl ?_
        refine m_istore_n rfl rfl (Nat.le_of_ble_eq_true rfl) rfl ?_
        refine m_iload_n rfl rfl rfl ?_
        refine m_if_eq_b (tgt := 63) rfl rfl rfl (fun c37 => ?_) (fun c37 => ?_)
        · refine m_iconst rfl rfl ?_
          refine m_istore_n rfl rfl (Nat.le_of_ble_eq_true rfl) rfl ?_
          refine m_iinc rfl rfl rfl (Nat.le_of_ble_eq_true rfl) rfl ?_
          refine m_goto (tgt := 9) rfl rfl rfl ?_
          refine zk_fg 3 ?_
          subst c37
          first | rw [if_pos (by omega)] at hk | rw [if_neg (by omega)] at hk
          first | exact hk | (rw [df (by omega)] at hk; exact hk) | (rw [dt (by omega), df (by omega)] at hk; exact hk) | (rw [dt (by omega), dt (by omega)] at hk; exact hk)
        · refine m_iload_n rfl rfl rfl ?_
          refine m_iconst rfl rfl ?_
          refine m_icmp_eq (tgt := 63) rfl rfl rfl (by omega) (by omega) (fun c42 => ?_) (fun c42 => ?_)
          · exfalso; omega
          · refine m_iload_n rfl rfl rfl ?_
            refine m_aload_n rfl rfl rfl ?_
            refine m_gr (k := 3) rfl rfl (Nat.le_of_ble_eq_true rfl) rfl rfl (by first | decide | assumption | (simp only [cnt]; omega)) ?_
            refine m_iconst rfl rfl ?_
            refine m_iload_n rfl rfl rfl ?_
            refine m_imul rfl rfl ?_
            refine m_iconst rfl rfl ?_
            refine m_iadd rfl rfl ?_
            refine m_ialx (n := 4 * j + 2) (y := mem 30 _ (4 * j + 2)) rfl rfl (Nat.le_of_ble_eq_true rfl) rfl (by first | decide | assumption | (simp only [cnt]; omega)) (by omega) (by simp only [aln]; omega) rfl ?_
            refine m_icmp_gt (tgt := 63) rfl rfl rfl (by omega) (by omega) (fun c56 => ?_) (fun c56 => ?_)
            · refine m_iconst rfl rfl ?_
              refine m_istore_n rfl rfl (Nat.le_of_ble_eq_true rfl) rfl ?_
              refine m_iinc rfl rfl rfl (Nat.le_of_ble_eq_true rfl) rfl ?_
              refine m_goto (tgt := 9) rfl rfl rfl ?_
              refine zk_fg 3 ?_
              subst c37
              first | rw [if_pos (by omega)] at hk | rw [if_neg (by omega)] at hk
              first | exact hk | (rw [df (by omega)] at hk; exact hk) | (rw [dt (by omega), df (by omega)] at hk; exact hk) | (rw [dt (by omega), dt (by omega)] at hk; exact hk)
            · refine m_iconst rfl rfl ?_
              refine m_goto (tgt := 64) rfl rfl rfl ?_
              refine m_istore_n rfl rfl (Nat.le_of_ble_eq_true rfl) rfl ?_
              refine m_iinc rfl rfl rfl (Nat.le_of_ble_eq_true rfl) rfl ?_
              refine m_goto (tgt := 9) rfl rfl rfl ?_
              refine zk_fg 3 ?_
              subst c37
              first | rw [if_pos (by omega)] at hk | rw [if_neg (by omega)] at hk
              first | exact hk | (rw [df (by omega)] at hk; exact hk) | (rw [dt (by omega), df (by omega)] at hk; exact hk) | (rw [dt (by omega), dt (by omega)] at hk; exact hk)
  · refine m_iload_n rfl rfl rfl ?_
    refine m_aload_n rfl rfl rfl ?_
    refine m_gix (k := 2) (x := mem 7 _ 2) rfl rfl (Nat.le_of_ble_eq_true rfl) rfl rfl (by first | decide | assumption | (simp only [cnt]; omega)) rfl ?_
    refine m_icmp_ge (tgt := 71) rfl rfl rfl (by omega) (by omega) (fun c14 => ?_) (fun c14 => ?_)
    · refine m_iload_n rfl rfl rfl ?_
      refine m_zret rfl rfl rfl (Nat.le_of_ble_eq_true rfl) (Nat.le_of_ble_eq_true rfl) ?_
      exact ⟨rfl, rfl⟩
    · exfalso; omega

