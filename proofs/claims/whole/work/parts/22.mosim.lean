/-! the reference: the simulation's steps -/
def moF1 (k : Nat) (q : Nat × zkM) : Nat × zkM :=
  if q.2 43 0 (2 * k) ≤ q.2 7 0 11 then (q.1, mset q.2 7 0 19 (q.2 7 0 19 + q.2 43 0 (2 * k + 1)))
  else (q.1 + 1, mset (mset q.2 43 0 (2 * q.1) (q.2 43 0 (2 * k))) 43 0 (2 * q.1 + 1) ((mset q.2 43 0 (2 * q.1) (q.2 43 0 (2 * k))) 43 0 (2 * k + 1)))
def moRepl (m : zkM) : zkM := mset (lp moF1 (m 7 0 26).toNat (0, m)).2 7 0 26 ((lp moF1 (m 7 0 26).toNat (0, m)).1 : Int)
def moI1 (m : zkM) (j : Nat) (q : Nat × zkM) : Prop := q.1 ≤ j ∧ q.2 7 0 26 = m 7 0 26 ∧ q.2 7 0 11 = m 7 0 11 ∧ ∀ k, k < 800 → inR (q.2 43 0 k)
theorem moI1_s {m : zkM} {j : Nat} {q : Nat × zkM} (hj : j < 399) (h : moI1 m j q) : moI1 m (j + 1) (moF1 j q) := by
  obtain ⟨h1, h2, h3, h4⟩ := h
  unfold moF1
  split
  · refine ⟨by dsimp only; omega, h2, h3, h4⟩
  · refine ⟨by dsimp only; omega, h2, h3, fun k hk => ?_⟩
    have a1 := h4 (2 * j) (by omega)
    have a2 := h4 (2 * j + 1) (by omega)
    have a3 := h4 k hk
    simp only [mset]
    split
    · split <;> omega
    · split <;> omega
set_option maxRecDepth 10000 in
theorem c_motakeRepl {l : Launch} {G : zkG} {mem : zkM} (hl : l.stackTraces = false) (h1 : 0 ≤ mem 7 0 26 ∧ mem 7 0 26 ≤ 399) (h2 : inR (mem 7 0 11)) (h3 : ∀ k, k < 800 → inR (mem 43 0 k)) : zkCt l G i_Mo_takeReplenishments 0 0 0 [vr 7 0] mem (zkR0 (moRepl mem)) := by
  refine zkCt_of hl ok_Mo_takeReplenishments (by decide +kernel) rfl rfl (List.forall_mem_cons.mpr ⟨rfl, fun _ h => nomatch h⟩) (Nat.le_of_ble_eq_true rfl) ?_
  refine m_iconst rfl rfl ?_
  refine m_istore_n rfl rfl (Nat.le_of_ble_eq_true rfl) rfl ?_
  refine m_iconst rfl rfl ?_
  refine m_istore_n rfl rfl (Nat.le_of_ble_eq_true rfl) rfl ?_
  refine zk_loop (P := fun (j : Nat) (q : Nat × zkM) => zkW l G i_Mo_takeReplenishments _ 0 0 4 [some (vr 7 0), some (vi q.1), some (vi j)] [] q.2) (I := moI1 mem) moF1 (mem 7 0 26).toNat (0, mem) ⟨by omega, rfl, rfl, h3⟩ (fun j q hj hI => moI1_s (by omega) hI) (fun j q hj hI hk => ?_) (fun hI => ?_)
  · obtain ⟨kp, s⟩ := q
    obtain ⟨i1, i2, i3, i4⟩ := hI
    dsimp only at i1 i2 i3 i4 hk ⊢
    have a1 := i4 (2 * j) (by omega)
    unfold moF1 at hk
    dsimp only at hk
    refine m_iload_n rfl rfl rfl ?_
    refine m_aload_n rfl rfl rfl ?_
    refine m_gix (k := 26) (x := s 7 _ 26) rfl rfl (Nat.le_of_ble_eq_true rfl) rfl rfl (by first | decide | assumption | (simp only [cnt]; omega)) rfl ?_
    refine m_icmp_ge (tgt := 94) rfl rfl rfl (by omega) (by omega) (fun c9 => ?_) (fun c9 => ?_)
    · exfalso; omega
    · refine m_aload_n rfl rfl rfl ?_
      refine m_gr (k := 25) rfl rfl (Nat.le_of_ble_eq_true rfl) rfl rfl (by first | decide | assumption | (simp only [cnt]; omega)) ?_
      refine m_iconst rfl rfl ?_
      refine m_iload_n rfl rfl rfl ?_
      refine m_imul rfl rfl ?_
      refine m_ialx (n := 2 * j) (y := s 43 _ (2 * j)) rfl rfl (Nat.le_of_ble_eq_true rfl) rfl (by first | decide | assumption | (simp only [cnt]; omega)) (by omega) (by simp only [aln]; omega) rfl ?_
      refine m_aload_n rfl rfl rfl ?_
      refine m_gix (k := 11) (x := s 7 _ 11) rfl rfl (Nat.le_of_ble_eq_true rfl) rfl rfl (by first | decide | assumption | (simp only [cnt]; omega)) rfl ?_
      refine m_icmp_gt (tgt := 49) rfl rfl rfl (by omega) (by omega) (fun c24 => ?_) (fun c24 => ?_)
      · refine m_aload_n rfl rfl rfl ?_
        refine m_gr (k := 25) rfl rfl (Nat.le_of_ble_eq_true rfl) rfl rfl (by first | decide | assumption | (simp only [cnt]; omega)) ?_
        refine m_iconst rfl rfl ?_
        refine m_iload_n rfl rfl rfl ?_
        refine m_imul rfl rfl ?_
        refine m_aload_n rfl rfl rfl ?_
        refine m_gr (k := 25) rfl rfl (Nat.le_of_ble_eq_true rfl) rfl rfl (by first | decide | assumption | (simp only [cnt]; omega)) ?_
        refine m_iconst rfl rfl ?_
        refine m_iload_n rfl rfl rfl ?_
        refine m_imul rfl rfl ?_
        refine m_ialx (n := 2 * j) (y := s 43 _ (2 * j)) rfl rfl (Nat.le_of_ble_eq_true rfl) rfl (by first | decide | assumption | (simp only [cnt]; omega)) (by omega) (by simp only [aln]; omega) rfl ?_
        refine m_iasn (n := 2 * kp) rfl rfl (Nat.le_of_ble_eq_true rfl) rfl (by first | decide | assumption | (simp only [cnt]; omega)) (by omega) (by simp only [aln]; omega) ?_
        refine m_aload_n rfl rfl rfl ?_
        refine m_gr (k := 25) rfl rfl (Nat.le_of_ble_eq_true rfl) rfl rfl (by first | decide | assumption | (simp only [cnt]; omega)) ?_
        refine m_iconst rfl rfl ?_
        refine m_iload_n rfl rfl rfl ?_
        refine m_imul rfl rfl ?_
        refine m_iconst rfl rfl ?_
        refine m_iadd rfl rfl ?_
        refine m_aload_n rfl rfl rfl ?_
        refine m_gr (k := 25) rfl rfl (Nat.le_of_ble_eq_true rfl) rfl rfl (by first | decide | assumption | (simp only [cnt]; omega)) ?_
        refine m_iconst rfl rfl ?_
        refine m_iload_n rfl rfl rfl ?_
        refine m_imul rfl rfl ?_
        refine m_iconst rfl rfl ?_
        refine m_iadd rfl rfl ?_
        refine m_ialn (n := 2 * j + 1) rfl rfl (Nat.le_of_ble_eq_true rfl) rfl (by first | decide | assumption | (simp only [cnt]; omega)) (by omega) (by simp only [aln]; omega) ?_
        refine m_iasn (n := 2 * kp + 1) rfl rfl (Nat.le_of_ble_eq_true rfl) rfl (by first | decide | assumption | (simp only [cnt]; omega)) (by omega) (by simp only [aln]; omega) ?_
        refine m_iinc rfl rfl rfl (Nat.le_of_ble_eq_true rfl) rfl ?_
        refine m_iinc rfl rfl rfl (Nat.le_of_ble_eq_true rfl) rfl ?_
        refine m_goto (tgt := 4) rfl rfl rfl ?_
        first | (rw [if_pos (by omega)] at hk; exact hk) | (rw [if_neg (by omega)] at hk; exact hk)
      · refine m_aload_n rfl rfl rfl ?_
        refine m_dup rfl rfl rfl ?_
        refine m_gix (k := 19) (x := s 7 _ 19) rfl rfl (Nat.le_of_ble_eq_true rfl) rfl rfl (by first | decide | assumption | (simp only [cnt]; omega)) rfl ?_
        refine m_aload_n rfl rfl rfl ?_
        refine m_gr (k := 25) rfl rfl (Nat.le_of_ble_eq_true rfl) rfl rfl (by first | decide | assumption | (simp only [cnt]; omega)) ?_
        refine m_iconst rfl rfl ?_
        refine m_iload_n rfl rfl rfl ?_
        refine m_imul rfl rfl ?_
        refine m_iconst rfl rfl ?_
        refine m_iadd rfl rfl ?_
        refine m_ialx (n := 2 * j + 1) (y := s 43 _ (2 * j + 1)) rfl rfl (Nat.le_of_ble_eq_true rfl) rfl (by first | decide | assumption | (simp only [cnt]; omega)) (by omega) (by simp only [aln]; omega) rfl ?_
        refine m_iadd rfl rfl ?_
        refine m_pi (k := 19) rfl rfl (Nat.le_of_ble_eq_true rfl) rfl rfl rfl rfl (by first | decide | assumption | (simp only [cnt]; omega)) ?_
        refine m_goto (tgt := 88) rfl rfl rfl ?_
        refine m_iinc rfl rfl rfl (Nat.le_of_ble_eq_true rfl) rfl ?_
        refine m_goto (tgt := 4) rfl rfl rfl ?_
        first | (rw [if_pos (by omega)] at hk; exact hk) | (rw [if_neg (by omega)] at hk; exact hk)
  · obtain ⟨i1, i2, i3, i4⟩ := hI
    refine m_iload_n rfl rfl rfl ?_
    refine m_aload_n rfl rfl rfl ?_
    refine m_gi (k := 26) rfl rfl (Nat.le_of_ble_eq_true rfl) rfl rfl (by first | decide | assumption | (simp only [cnt]; omega)) ?_
    refine m_icmp_ge (tgt := 94) rfl rfl rfl (by omega) (by omega) (fun c9 => ?_) (fun c9 => ?_)
    · refine m_aload_n rfl rfl rfl ?_
      refine m_iload_n rfl rfl rfl ?_
      refine m_pi (k := 26) rfl rfl (Nat.le_of_ble_eq_true rfl) rfl rfl rfl rfl (by first | decide | assumption | (simp only [cnt]; omega)) ?_
      refine m_vret rfl rfl rfl (Nat.le_of_ble_eq_true rfl) (Nat.le_of_ble_eq_true rfl) ?_
      exact ⟨rfl, rfl⟩
    · exfalso; omega

def moF2 (t : Nat) (s : zkM) : zkM :=
  if 0 < s 31 0 t ∧ 0 ≤ s 7 0 11 - s 30 0 (4 * t + 3) ∧ (s 7 0 11 - s 30 0 (4 * t + 3)) % moPe s t = 0 then (if s 38 0 t = 1 then mset (mset s 38 0 t 0) 39 0 (6 * t + 3) (s 39 0 (6 * t + 3) + 1) else mset (mset s 35 0 (401 * t + (s 36 0 t).toNat) (s 7 0 11)) 36 0 t (s 36 0 t + 1)) else s
def moRel (m : zkM) : zkM := lp moF2 (moN m) m
def moI2 (m : zkM) (j : Nat) (s : zkM) : Prop := (∀ t i k, t ≠ 35 → t ≠ 36 → t ≠ 38 → t ≠ 39 → s t i k = m t i k) ∧ ∀ t, j ≤ t → s 36 0 t = m 36 0 t ∧ s 38 0 t = m 38 0 t
theorem moI2_s {m : zkM} {j : Nat} {s : zkM} (h : moI2 m j s) : moI2 m (j + 1) (moF2 j s) := by
  obtain ⟨h1, h2⟩ := h
  unfold moF2
  split
  · split
    · refine ⟨fun t i k a b c d => ?_, fun t ht => ?_⟩
      · rw [ms_t d, ms_t c]; exact h1 t i k a b c d
      · rw [ms_t (by decide), ms_t (by decide), ms_t (by decide), ms_k (by omega)]; exact h2 t (by omega)
    · refine ⟨fun t i k a b c d => ?_, fun t ht => ?_⟩
      · rw [ms_t b, ms_t a]; exact h1 t i k a b c d
      · rw [ms_k (by omega), ms_t (by decide), ms_t (by decide), ms_t (by decide)]; exact h2 t (by omega)
  · exact ⟨h1, fun t ht => h2 t (by omega)⟩
theorem moA_cfg {m s : zkM} (h : moA m) (e : ∀ t i k, t = 7 ∨ t = 30 ∨ t = 31 ∨ t = 32 → s t i k = m t i k) : moA s := by
  unfold moA moRe moLe at *
  simp only [e 7 _ _ (by decide), e 30 _ _ (by decide), e 31 _ _ (by decide), e 32 _ _ (by decide)]
  exact h
set_option maxRecDepth 10000 in
theorem c_morelease {l : Launch} {G : zkG} {mem : zkM} (hl : l.stackTraces = false) (hA : moA mem) (hc : 0 ≤ mem 7 0 11 ∧ mem 7 0 11 ≤ 400) (h1 : ∀ t, t < 5 → 0 ≤ mem 36 0 t ∧ mem 36 0 t ≤ 400) (h2 : ∀ t, t < 5 → inR (mem 38 0 t)) : zkCt l G i_Mo_release 1 0 0 [vr 7 0] mem (zkR0 (moRel mem)) := by
  refine zkCt_of hl ok_Mo_release (by decide +kernel) rfl rfl (List.forall_mem_cons.mpr ⟨rfl, fun _ h => nomatch h⟩) (Nat.le_of_ble_eq_true rfl) ?_
  have hn := moA_n hA
  refine m_iconst rfl rfl ?_
  refine m_istore_n rfl rfl (Nat.le_of_ble_eq_true rfl) rfl ?_
  refine zk_loop (P := fun (j : Nat) (s : zkM) => zkW l G i_Mo_release _ 0 0 2 [some (vr 7 0), some (vi j), none] [] s) (I := moI2 mem) moF2 (moN mem) mem ⟨fun _ _ _ _ _ _ _ => rfl, fun _ _ => ⟨rfl, rfl⟩⟩ (fun j s hj hI => moI2_s hI) (fun j s hj hI hk => ?_) (fun hI => ?_)
  · obtain ⟨i1, i2⟩ := id hI
    have hA' : moA s := moA_cfg hA (fun t i k h => i1 t i k (by omega) (by omega) (by omega) (by omega))
    have e1 := i1 7 0 2 (by decide) (by decide) (by decide) (by decide)
    have e2 := i1 7 0 11 (by decide) (by decide) (by decide) (by decide)
    have e3 := (i2 j (Nat.le_refl _))
    have e4 := h1 j (by omega)
    have e5 := h2 j (by omega)
    have hs := moA_s hA' (i := j) (by omega)
    have ho := (hA'.2.2.1 j (by omega)).2.2.2
    have he := moA_e hA' (i := j) (by omega)
    have he1 := moA_e1 hA' (i := j) (by have := moA_n hA'; omega)
    unfold moF2 at hk
    refine m_iload_n rfl rfl rfl ?_
    refine m_aload_n rfl rfl rfl ?_
    refine m_gix (k := 2) (x := s 7 _ 2) rfl rfl (Nat.le_of_ble_eq_true rfl) rfl rfl (by first | decide | assumption | (simp only [cnt]; omega)) rfl ?_
    refine m_icmp_ge (tgt := 121) rfl rfl rfl (by omega) (by omega) (fun c7 => ?_) (fun c7 => ?_)
    · exfalso; omega
    · refine m_aload_n rfl rfl rfl ?_
      refine m_gix (k := 11) (x := s 7 _ 11) rfl rfl (Nat.le_of_ble_eq_true rfl) rfl rfl (by first | decide | assumption | (simp only [cnt]; omega)) rfl ?_
      refine m_aload_n rfl rfl rfl ?_
      refine m_gr (k := 3) rfl rfl (Nat.le_of_ble_eq_true rfl) rfl rfl (by first | decide | assumption | (simp only [cnt]; omega)) ?_
      refine m_iconst rfl rfl ?_
      refine m_iload_n rfl rfl rfl ?_
      refine m_imul rfl rfl ?_
      refine m_iconst rfl rfl ?_
      refine m_iadd rfl rfl ?_
      refine m_ialx (n := 4 * j + 3) (y := s 30 _ (4 * j + 3)) rfl rfl (Nat.le_of_ble_eq_true rfl) rfl (by first | decide | assumption | (simp only [cnt]; omega)) (by omega) (by simp only [aln]; omega) rfl ?_
      refine m_isub rfl rfl ?_
      refine m_istore_n rfl rfl (Nat.le_of_ble_eq_true rfl) rfl ?_
      refine m_aload_n rfl rfl rfl ?_
      refine m_gr (k := 4) rfl rfl (Nat.le_of_ble_eq_true rfl) rfl rfl (by first | decide | assumption | (simp only [cnt]; omega)) ?_
      refine m_iload_n rfl rfl rfl ?_
      refine m_ialx (n := j) (y := s 31 _ (j)) rfl rfl (Nat.le_of_ble_eq_true rfl) rfl (by first | decide | assumption | (simp only [cnt]; omega)) (by omega) (by simp only [aln]; omega) rfl ?_
      refine m_if_le (tgt := 115) rfl rfl rfl (by omega) (fun c32 => ?_) (fun c32 => ?_)
      · refine m_iinc rfl rfl rfl (Nat.le_of_ble_eq_true rfl) rfl ?_
        refine m_goto (tgt := 2) rfl rfl rfl ?_
        refine zk_fg 2 ?_
        first | (rw [if_neg (by omega)] at hk; exact hk) | (rw [if_pos (by omega), if_pos (by omega)] at hk; exact hk) | (rw [if_pos (by omega), if_neg (by omega)] at hk; exact hk)
      · refine m_iload_n rfl rfl rfl ?_
        refine m_if_lt (tgt := 115) rfl rfl rfl (by omega) (fun c36 => ?_) (fun c36 => ?_)
        · refine m_iinc rfl rfl rfl (Nat.le_of_ble_eq_true rfl) rfl ?_
          refine m_goto (tgt := 2) rfl rfl rfl ?_
          refine zk_fg 2 ?_
          first | (rw [if_neg (by omega)] at hk; exact hk) | (rw [if_pos (by omega), if_pos (by omega)] at hk; exact hk) | (rw [if_pos (by omega), if_neg (by omega)] at hk; exact hk)
        · have hm := Int.emod_nonneg (s 7 0 11 - s 30 0 (4 * j + 3)) (b := moPe s j) (by omega)
          have hm2 := Int.emod_lt_of_pos (s 7 0 11 - s 30 0 (4 * j + 3)) (b := moPe s j) (by omega)
          refine m_iload_n rfl rfl rfl ?_
          refine m_aload_n rfl rfl rfl ?_
          refine m_iload_n rfl rfl rfl ?_
          refine m_cv1 rfl rfl lk_7_148 (c_periodOf hl (i := _) rfl (by omega)) rfl (by first | decide | assumption | (simp only [cnt]; omega)) (Nat.le_of_ble_eq_true rfl) rfl rfl (Nat.le_of_ble_eq_true rfl) (Nat.le_of_ble_eq_true rfl) (Nat.le_of_ble_eq_true rfl) (Nat.le_of_ble_eq_true rfl) (Nat.le_of_ble_eq_true rfl) ?_
          refine m_irem rfl rfl (by omega) (by omega) (by omega) (by omega) ?_
          refine m_if_ne (tgt := 115) rfl rfl rfl (by omega) (fun c46 => ?_) (fun c46 => ?_)
          · refine m_iinc rfl rfl rfl (Nat.le_of_ble_eq_true rfl) rfl ?_
            refine m_goto (tgt := 2) rfl rfl rfl ?_
            refine zk_fg 2 ?_
            first | (rw [if_neg (by omega)] at hk; exact hk) | (rw [if_pos (by omega), if_pos (by omega)] at hk; exact hk) | (rw [if_pos (by omega), if_neg (by omega)] at hk; exact hk)
          · refine m_aload_n rfl rfl rfl ?_
            refine m_gr (k := 16) rfl rfl (Nat.le_of_ble_eq_true rfl) rfl rfl (by first | decide | assumption | (simp only [cnt]; omega)) ?_
            refine m_iload_n rfl rfl rfl ?_
            refine m_ialx (n := j) (y := s 38 _ (j)) rfl rfl (Nat.le_of_ble_eq_true rfl) rfl (by first | decide | assumption | (simp only [cnt]; omega)) (by omega) (by simp only [aln]; omega) rfl ?_
            refine m_iconst rfl rfl ?_
            refine m_icmp_ne (tgt := 84) rfl rfl rfl (by omega) (by omega) (fun c56 => ?_) (fun c56 => ?_)
            · refine m_aload_n rfl rfl rfl ?_
              refine m_gr (k := 13) rfl rfl (Nat.le_of_ble_eq_true rfl) rfl rfl (by first | decide | assumption | (simp only [cnt]; omega)) ?_
              refine m_sipush rfl rfl (by decide) ?_
              refine m_iload_n rfl rfl rfl ?_
              refine m_imul rfl rfl ?_
              refine m_aload_n rfl rfl rfl ?_
              refine m_gr (k := 14) rfl rfl (Nat.le_of_ble_eq_true rfl) rfl rfl (by first | decide | assumption | (simp only [cnt]; omega)) ?_
              refine m_iload_n rfl rfl rfl ?_
              refine m_ialx (n := j) (y := s 36 _ (j)) rfl rfl (Nat.le_of_ble_eq_true rfl) rfl (by first | decide | assumption | (simp only [cnt]; omega)) (by omega) (by simp only [aln]; omega) rfl ?_
              refine m_iadd rfl rfl ?_
              refine m_aload_n rfl rfl rfl ?_
              refine m_gix (k := 11) (x := s 7 _ 11) rfl rfl (Nat.le_of_ble_eq_true rfl) rfl rfl (by first | decide | assumption | (simp only [cnt]; omega)) rfl ?_
              refine m_iasn (n := 401 * j + (s 36 0 j).toNat) rfl rfl (Nat.le_of_ble_eq_true rfl) rfl (by first | decide | assumption | (simp only [cnt]; omega)) (by omega) (by simp only [aln]; omega) ?_
              refine m_aload_n rfl rfl rfl ?_
              refine m_gr (k := 14) rfl rfl (Nat.le_of_ble_eq_true rfl) rfl rfl (by first | decide | assumption | (simp only [cnt]; omega)) ?_
              refine m_iload_n rfl rfl rfl ?_
              refine m_dup2 rfl rfl rfl rfl ?_
              refine m_ialx (n := j) (y := s 36 _ (j)) rfl rfl (Nat.le_of_ble_eq_true rfl) rfl (by first | decide | assumption | (simp only [cnt]; omega)) (by omega) (by simp only [aln]; omega) rfl ?_
              refine m_iconst rfl rfl ?_
              refine m_iadd rfl rfl ?_
              refine m_iasn (n := j) rfl rfl (Nat.le_of_ble_eq_true rfl) rfl (by first | decide | assumption | (simp only [cnt]; omega)) (by omega) (by simp only [aln]; omega) ?_
              refine m_iinc rfl rfl rfl (Nat.le_of_ble_eq_true rfl) rfl ?_
              refine m_goto (tgt := 2) rfl rfl rfl ?_
              refine zk_fg 2 ?_
              first | (rw [if_neg (by omega)] at hk; exact hk) | (rw [if_pos (by omega), if_pos (by omega)] at hk; exact hk) | (rw [if_pos (by omega), if_neg (by omega)] at hk; exact hk)
            · refine m_aload_n rfl rfl rfl ?_
              refine m_gr (k := 16) rfl rfl (Nat.le_of_ble_eq_true rfl) rfl rfl (by first | decide | assumption | (simp only [cnt]; omega)) ?_
              refine m_iload_n rfl rfl rfl ?_
              refine m_iconst rfl rfl ?_
              refine m_iasn (n := j) rfl rfl (Nat.le_of_ble_eq_true rfl) rfl (by first | decide | assumption | (simp only [cnt]; omega)) (by omega) (by simp only [aln]; omega) ?_
              refine m_aload_n rfl rfl rfl ?_
              refine m_gr (k := 17) rfl rfl (Nat.le_of_ble_eq_true rfl) rfl rfl (by first | decide | assumption | (simp only [cnt]; omega)) ?_
              refine m_bipush rfl rfl (by decide) ?_
              refine m_iload_n rfl rfl rfl ?_
              refine m_imul rfl rfl ?_
              refine m_iconst rfl rfl ?_
              refine m_iadd rfl rfl ?_
              refine m_dup2 rfl rfl rfl rfl ?_
              refine m_ialx (n := 6 * j + 3) (y := s 39 _ (6 * j + 3)) rfl rfl (Nat.le_of_ble_eq_true rfl) rfl (by first | decide | assumption | (simp only [cnt]; omega)) (by omega) (by simp only [aln]; omega) rfl ?_
              refine m_iconst rfl rfl ?_
              refine m_iadd rfl rfl ?_
              refine m_iasn (n := 6 * j + 3) rfl rfl (Nat.le_of_ble_eq_true rfl) rfl (by first | decide | assumption | (simp only [cnt]; omega)) (by omega) (by simp only [aln]; omega) ?_
              refine m_goto (tgt := 115) rfl rfl rfl ?_
              refine m_iinc rfl rfl rfl (Nat.le_of_ble_eq_true rfl) rfl ?_
              refine m_goto (tgt := 2) rfl rfl rfl ?_
              refine zk_fg 2 ?_
              first | (rw [if_neg (by omega)] at hk; exact hk) | (rw [if_pos (by omega), if_pos (by omega)] at hk; exact hk) | (rw [if_pos (by omega), if_neg (by omega)] at hk; exact hk)
  · obtain ⟨i1, i2⟩ := id hI
    have e1 := i1 7 0 2 (by decide) (by decide) (by decide) (by decide)
    refine m_iload_n rfl rfl rfl ?_
    refine m_aload_n rfl rfl rfl ?_
    refine m_gi (k := 2) rfl rfl (Nat.le_of_ble_eq_true rfl) rfl rfl (by first | decide | assumption | (simp only [cnt]; omega)) ?_
    refine m_icmp_ge (tgt := 121) rfl rfl rfl (by omega) (by omega) (fun c7 => ?_) (fun c7 => ?_)
    · refine m_vret rfl rfl rfl (Nat.le_of_ble_eq_true rfl) (Nat.le_of_ble_eq_true rfl) ?_
      exact ⟨rfl, rfl⟩
    · exfalso; omega

def moF3 (t ix : Nat) (j : Nat) (s : zkM) : zkM := mset s 35 0 (401 * t + (ix + j)) (s 35 0 (401 * t + (ix + j) + 1))
def moTJ2 (m : zkM) (t ix : Nat) : zkM := lp (moF3 t ix) ((m 36 0 t - 1).toNat - ix) (mset m 36 0 t (m 36 0 t - 1))
def moTJ (m : zkM) (t ix : Nat) : zkM := mset (moTJ2 m t ix) 37 0 t (if ix = 0 then 0 else moTJ2 m t ix 37 0 t)
theorem moF3_o {t ix : Nat} {n : Nat} {m : zkM} {t' : Nat} (h : t' ≠ 35) (i k : Nat) : lp (moF3 t ix) n m t' i k = m t' i k := by
  induction n with
  | zero => rfl
  | succ n ih =>
    show moF3 t ix n (lp (moF3 t ix) n m) t' i k = _
    unfold moF3
    rw [ms_t h]
    exact ih
set_option maxRecDepth 10000 in
theorem c_motakeJob {l : Launch} {G : zkG} {mem : zkM} (hl : l.stackTraces = false) {x y : Int} {t ix : Nat} (hx : x = t) (hy : y = ix) (ht : t < 5) (h1 : (ix : Int) < mem 36 0 t ∧ mem 36 0 t ≤ 401) : zkCt l G i_Mo_takeJob 0 0 0 [vr 7 0, vi x, vi y] mem (zkR0 (moTJ mem t ix)) := by
  refine zkCt_of hl ok_Mo_takeJob (by decide +kernel) rfl rfl (List.forall_mem_cons.mpr ⟨rfl, (List.forall_mem_cons.mpr ⟨rfl, (List.forall_mem_cons.mpr ⟨rfl, fun _ h => nomatch h⟩)⟩)⟩) (Nat.le_of_ble_eq_true rfl) ?_
  subst hx
  subst hy
  refine m_aload_n rfl rfl rfl ?_
  refine m_gr (k := 14) rfl rfl (Nat.le_of_ble_eq_true rfl) rfl rfl (by first | decide | assumption | (simp only [cnt]; omega)) ?_
  refine m_iload_n rfl rfl rfl ?_
  refine m_dup2 rfl rfl rfl rfl ?_
  refine m_ialx (n := t) (y := mem 36 _ (t)) rfl rfl (Nat.le_of_ble_eq_true rfl) rfl (by first | decide | assumption | (simp only [cnt]; omega)) (by omega) (by simp only [aln]; omega) rfl ?_
  refine m_iconst rfl rfl ?_
  refine m_isub rfl rfl ?_
  refine m_iasn (n := t) rfl rfl (Nat.le_of_ble_eq_true rfl) rfl (by first | decide | assumption | (simp only [cnt]; omega)) (by omega) (by simp only [aln]; omega) ?_
  refine m_iload_n rfl rfl rfl ?_
  refine m_istore_n rfl rfl (Nat.le_of_ble_eq_true rfl) rfl ?_
  refine zk_loop (P := fun (j : Nat) (s : zkM) => zkW l G i_Mo_takeJob _ 0 0 12 [some (vr 7 0), some (vi t), some (vi ix), some (vi ((ix : Int) + j))] [] s) (I := fun _ s => s 36 0 t = mem 36 0 t - 1) (moF3 t ix) ((mem 36 0 t - 1).toNat - ix) (mset mem 36 0 t (mem 36 0 t - 1)) (ms_s _ _ _ _ _) (fun j s hj hI => ?_) (fun j s hj hI hk => ?_) (fun hI => ?_)
  · unfold moF3
    rw [ms_t (by decide)]
    exact hI
  · refine m_iload_n rfl rfl rfl ?_
    refine m_aload_n rfl rfl rfl ?_
    refine m_gr (k := 14) rfl rfl (Nat.le_of_ble_eq_true rfl) rfl rfl (by first | decide | assumption | (simp only [cnt]; omega)) ?_
    refine m_iload_n rfl rfl rfl ?_
    refine m_ialx (n := t) (y := s 36 _ (t)) rfl rfl (Nat.le_of_ble_eq_true rfl) rfl (by first | decide | assumption | (simp only [cnt]; omega)) (by omega) (by simp only [aln]; omega) rfl ?_
    refine m_icmp_ge (tgt := 54) rfl rfl rfl (by omega) (by omega) (fun c19 => ?_) (fun c19 => ?_)
    · exfalso; omega
    · refine m_aload_n rfl rfl rfl ?_
      refine m_gr (k := 13) rfl rfl (Nat.le_of_ble_eq_true rfl) rfl rfl (by first | decide | assumption | (simp only [cnt]; omega)) ?_
      refine m_sipush rfl rfl (by decide) ?_
      refine m_iload_n rfl rfl rfl ?_
      refine m_imul rfl rfl ?_
      refine m_iload_n rfl rfl rfl ?_
      refine m_iadd rfl rfl ?_
      refine m_aload_n rfl rfl rfl ?_
      refine m_gr (k := 13) rfl rfl (Nat.le_of_ble_eq_true rfl) rfl rfl (by first | decide | assumption | (simp only [cnt]; omega)) ?_
      refine m_sipush rfl rfl (by decide) ?_
      refine m_iload_n rfl rfl rfl ?_
      refine m_imul rfl rfl ?_
      refine m_iload_n rfl rfl rfl ?_
      refine m_iadd rfl rfl ?_
      refine m_iconst rfl rfl ?_
      refine m_iadd rfl rfl ?_
      refine m_ialx (n := 401 * t + (ix + j) + 1) (y := s 35 _ (401 * t + (ix + j) + 1)) rfl rfl (Nat.le_of_ble_eq_true rfl) rfl (by first | decide | assumption | (simp only [cnt]; omega)) (by omega) (by simp only [aln]; omega) rfl ?_
      refine m_iasn (n := 401 * t + (ix + j)) rfl rfl (Nat.le_of_ble_eq_true rfl) rfl (by first | decide | assumption | (simp only [cnt]; omega)) (by omega) (by simp only [aln]; omega) ?_
      refine m_iinc rfl rfl rfl (Nat.le_of_ble_eq_true rfl) rfl ?_
      refine m_goto (tgt := 12) rfl rfl rfl ?_
      exact hk
  · refine m_iload_n rfl rfl rfl ?_
    refine m_aload_n rfl rfl rfl ?_
    refine m_gr (k := 14) rfl rfl (Nat.le_of_ble_eq_true rfl) rfl rfl (by first | decide | assumption | (simp only [cnt]; omega)) ?_
    refine m_iload_n rfl rfl rfl ?_
    refine m_ialn (n := t) rfl rfl (Nat.le_of_ble_eq_true rfl) rfl (by first | decide | assumption | (simp only [cnt]; omega)) (by omega) (by simp only [aln]; omega) ?_
    refine m_icmp_ge (tgt := 54) rfl rfl rfl (by omega) (by omega) (fun c19 => ?_) (fun c19 => ?_)
    · refine m_aload_n rfl rfl rfl ?_
      refine m_gr (k := 15) rfl rfl (Nat.le_of_ble_eq_true rfl) rfl rfl (by first | decide | assumption | (simp only [cnt]; omega)) ?_
      refine m_iload_n rfl rfl rfl ?_
      refine m_iload_n rfl rfl rfl ?_
      refine m_if_ne (tgt := 67) rfl rfl rfl (by omega) (fun c60 => ?_) (fun c60 => ?_)
      · refine m_aload_n rfl rfl rfl ?_
        refine m_gr (k := 15) rfl rfl (Nat.le_of_ble_eq_true rfl) rfl rfl (by first | decide | assumption | (simp only [cnt]; omega)) ?_
        refine m_iload_n rfl rfl rfl ?_
        refine m_ialn (n := t) rfl rfl (Nat.le_of_ble_eq_true rfl) rfl (by first | decide | assumption | (simp only [cnt]; omega)) (by omega) (by simp only [aln]; omega) ?_
        refine m_iasn (n := t) rfl rfl (Nat.le_of_ble_eq_true rfl) rfl (by first | decide | assumption | (simp only [cnt]; omega)) (by omega) (by simp only [aln]; omega) ?_
        refine m_vret rfl rfl rfl (Nat.le_of_ble_eq_true rfl) (Nat.le_of_ble_eq_true rfl) ?_
        refine ⟨rfl, ?_⟩
        unfold moTJ
        first | rw [if_pos (by omega)] | rw [if_neg (by omega)]
        rfl
      · refine m_iconst rfl rfl ?_
        refine m_goto (tgt := 73) rfl rfl rfl ?_
        refine m_iasn (n := t) rfl rfl (Nat.le_of_ble_eq_true rfl) rfl (by first | decide | assumption | (simp only [cnt]; omega)) (by omega) (by simp only [aln]; omega) ?_
        refine m_vret rfl rfl rfl (Nat.le_of_ble_eq_true rfl) (Nat.le_of_ble_eq_true rfl) ?_
        refine ⟨rfl, ?_⟩
        unfold moTJ
        first | rw [if_pos (by omega)] | rw [if_neg (by omega)]
        rfl
    · exfalso; omega

def moM1 (t : Nat) (s : zkM) : zkM := mset (mset s 39 0 (6 * t + 1) (s 39 0 (6 * t + 1) + 1)) 38 0 t (if s 7 0 1 = 2 then 1 else s 38 0 t)
def moM2 (t k : Nat) (s : zkM) : zkM := moTJ (mset (moM1 t s) 39 0 (6 * t + 2) (moM1 t s 39 0 (6 * t + 2) + 1)) t k
def moMf (t k : Nat) (s : zkM) : zkM := if s 35 0 (401 * t + k) + s 30 0 (4 * t + 2) = s 7 0 11 then (if s 7 0 1 = 1 then moM2 t k s else moM1 t s) else s
def moF4 (t jm : Nat) (j : Nat) (s : zkM) : zkM := moMf t (jm - 1 - j) s
def moF5 (t : Nat) (s : zkM) : zkM := lp (moF4 t (s 36 0 t).toNat) (s 36 0 t).toNat s
def moMeet (m : zkM) : zkM := lp moF5 (moN m) m
theorem moTJ_o {m : zkM} {t ix : Nat} {t' : Nat} (a : t' ≠ 35) (b : t' ≠ 36) (c : t' ≠ 37) (i k : Nat) : moTJ m t ix t' i k = m t' i k := by
  unfold moTJ moTJ2
  rw [ms_t c, moF3_o a, ms_t b]
theorem moTJ_n {m : zkM} {t ix : Nat} (t' : Nat) : moTJ m t ix 36 0 t' = if t' = t then m 36 0 t - 1 else m 36 0 t' := by
  unfold moTJ moTJ2
  rw [ms_t (by decide), moF3_o (by decide)]
  unfold mset
  by_cases h : t' = t <;> simp [h]
theorem moF3_b {t ix n : Nat} {m : zkM} (hn : 401 * t + (ix + n) < 2005) (h : ∀ k, k < 2005 → 0 ≤ m 35 0 k ∧ m 35 0 k ≤ 400) : ∀ k, k < 2005 → 0 ≤ lp (moF3 t ix) n m 35 0 k ∧ lp (moF3 t ix) n m 35 0 k ≤ 400 := by
  induction n with
  | zero => exact h
  | succ n ih =>
    have ih' := ih (by omega)
    intro k hk
    show 0 ≤ moF3 t ix n (lp (moF3 t ix) n m) 35 0 k ∧ moF3 t ix n (lp (moF3 t ix) n m) 35 0 k ≤ 400
    unfold moF3 mset
    split
    · exact ih' _ (by omega)
    · exact ih' k hk
theorem moTJ_b {m : zkM} {t ix : Nat} (ht : t < 5) (h1 : (ix : Int) < m 36 0 t ∧ m 36 0 t ≤ 401) (h : ∀ k, k < 2005 → 0 ≤ m 35 0 k ∧ m 35 0 k ≤ 400) : ∀ k, k < 2005 → 0 ≤ moTJ m t ix 35 0 k ∧ moTJ m t ix 35 0 k ≤ 400 := by
  intro k hk
  unfold moTJ moTJ2
  rw [ms_t (by decide)]
  exact moF3_b (m := mset m 36 0 t (m 36 0 t - 1)) (by omega) (fun k hk => by rw [ms_t (by decide)]; exact h k hk) k hk
def moI4 (s0 : zkM) (t jm j : Nat) (s : zkM) : Prop := (∀ t' i k, t' ≠ 35 → t' ≠ 36 → t' ≠ 37 → t' ≠ 38 → t' ≠ 39 → s t' i k = s0 t' i k) ∧ (∀ t', t' ≠ t → s 36 0 t' = s0 36 0 t') ∧ ((jm : Int) - j ≤ s 36 0 t ∧ s 36 0 t ≤ jm) ∧ ∀ k, k < 2005 → 0 ≤ s 35 0 k ∧ s 35 0 k ≤ 400
theorem moI4_s {s0 s : zkM} {t jm j : Nat} (ht : t < 5) (hj : j < jm) (hjm : jm ≤ 401) (h : moI4 s0 t jm j s) : moI4 s0 t jm (j + 1) (moF4 t jm j s) := by
  obtain ⟨h1, h2, h3, h4⟩ := h
  unfold moF4 moMf
  split
  · split
    · unfold moM2
      have e1 : (mset (moM1 t s) 39 0 (6 * t + 2) (moM1 t s 39 0 (6 * t + 2) + 1)) 36 0 t = s 36 0 t := by unfold moM1; rw [ms_t (by decide), ms_t (by decide), ms_t (by decide)]
      refine ⟨fun t' i k a b c d e => ?_, fun t' ht' => ?_, ?_, ?_⟩
      · rw [moTJ_o a b c, ms_t e]; unfold moM1; rw [ms_t d, ms_t e]; exact h1 t' i k a b c d e
      · rw [moTJ_n, if_neg ht', ms_t (by decide)]; unfold moM1; rw [ms_t (by decide), ms_t (by decide)]; exact h2 t' ht'
      · rw [moTJ_n, if_pos rfl, e1]; omega
      · refine moTJ_b ht (by rw [e1]; omega) (fun k hk => ?_)
        unfold moM1; rw [ms_t (by decide), ms_t (by decide), ms_t (by decide)]; exact h4 k hk
    · unfold moM1
      refine ⟨fun t' i k a b c d e => ?_, fun t' ht' => ?_, ?_, fun k hk => ?_⟩
      · rw [ms_t d, ms_t e]; exact h1 t' i k a b c d e
      · rw [ms_t (by decide), ms_t (by decide)]; exact h2 t' ht'
      · rw [ms_t (by decide), ms_t (by decide)]; omega
      · rw [ms_t (by decide), ms_t (by decide)]; exact h4 k hk
  · exact ⟨h1, h2, by omega, h4⟩
def moI5 (s0 : zkM) (j : Nat) (s : zkM) : Prop := (∀ t' i k, t' ≠ 35 → t' ≠ 36 → t' ≠ 37 → t' ≠ 38 → t' ≠ 39 → s t' i k = s0 t' i k) ∧ (∀ t', j ≤ t' → s 36 0 t' = s0 36 0 t') ∧ (∀ t', t' < 5 → 0 ≤ s 36 0 t' ∧ s 36 0 t' ≤ 401) ∧ ∀ k, k < 2005 → 0 ≤ s 35 0 k ∧ s 35 0 k ≤ 400
theorem moF5_I {s : zkM} {t : Nat} (ht : t < 5) (h1 : 0 ≤ s 36 0 t ∧ s 36 0 t ≤ 401) (h4 : ∀ k, k < 2005 → 0 ≤ s 35 0 k ∧ s 35 0 k ≤ 400) : moI4 s t (s 36 0 t).toNat (s 36 0 t).toNat (moF5 t s) :=
  lp_inv (moI4 s t (s 36 0 t).toNat) (moF4 t (s 36 0 t).toNat) (s 36 0 t).toNat s ⟨fun _ _ _ _ _ _ _ _ => rfl, fun _ _ => rfl, by omega, h4⟩ (fun j q hj hq => moI4_s ht hj (by omega) hq)
theorem moI5_s {s0 s : zkM} {j : Nat} (hj : j < 5) (h : moI5 s0 j s) : moI5 s0 (j + 1) (moF5 j s) := by
  obtain ⟨h1, h2, h3, h4⟩ := h
  obtain ⟨g1, g2, g3, g4⟩ := moF5_I hj (h3 j hj) h4
  have h3j := h3 j hj
  refine ⟨fun t' i k a b c d e => ?_, fun t' ht' => ?_, fun t' ht' => ?_, g4⟩
  · rw [g1 t' i k a b c d e]; exact h1 t' i k a b c d e
  · rw [g2 t' (by omega)]; exact h2 t' (by omega)
  · by_cases e : t' = j
    · subst e; omega
    · rw [g2 t' e]; exact h3 t' ht'
set_option maxRecDepth 10000 in
theorem c_momeet {l : Launch} {G : zkG} {mem : zkM} (hl : l.stackTraces = false) (hA : moA mem) (hc : inR (mem 7 0 11)) (hp : inR (mem 7 0 1)) (h1 : ∀ t, t < 5 → 0 ≤ mem 36 0 t ∧ mem 36 0 t ≤ 401) (h2 : ∀ k, k < 2005 → 0 ≤ mem 35 0 k ∧ mem 35 0 k ≤ 400) : zkCt l G i_Mo_meetDeadlines 1 0 0 [vr 7 0] mem (zkR0 (moMeet mem)) := by
  refine zkCt_of hl ok_Mo_meetDeadlines (by decide +kernel) rfl rfl (List.forall_mem_cons.mpr ⟨rfl, fun _ h => nomatch h⟩) (Nat.le_of_ble_eq_true rfl) ?_
  have hn := moA_n hA
  refine m_iconst rfl rfl ?_
  refine m_istore_n rfl rfl (Nat.le_of_ble_eq_true rfl) rfl ?_
  refine zk_loop (P := fun (j : Nat) (s : zkM) => zkW l G i_Mo_meetDeadlines _ 0 0 2 [some (vr 7 0), some (vi j), none] [] s) (I := moI5 mem) moF5 (moN mem) mem ⟨fun _ _ _ _ _ _ _ _ => rfl, fun _ _ => rfl, h1, h2⟩ (fun j s hj hI => moI5_s (by omega) hI) (fun j s hj hI hk => ?_) (fun hI => ?_)
  · obtain ⟨i1, i2, i3, i4⟩ := id hI
    have e1 := i1 7 0 2 (by decide) (by decide) (by decide) (by decide) (by decide)
    have e2 := i3 j (by omega)
    obtain ⟨jm, hjm⟩ : ∃ z, z = (s 36 0 j).toNat := ⟨_, rfl⟩
    unfold moF5 at hk
    rw [← hjm] at hk
    refine m_iload_n rfl rfl rfl ?_
    refine m_aload_n rfl rfl rfl ?_
    refine m_gix (k := 2) (x := s 7 _ 2) rfl rfl (Nat.le_of_ble_eq_true rfl) rfl rfl (by first | decide | assumption | (simp only [cnt]; omega)) rfl ?_
    refine m_icmp_ge (tgt := 133) rfl rfl rfl (by omega) (by omega) (fun c7 => ?_) (fun c7 => ?_)
    · exfalso; omega
    · refine m_aload_n rfl rfl rfl ?_
      refine m_gr (k := 14) rfl rfl (Nat.le_of_ble_eq_true rfl) rfl rfl (by first | decide | assumption | (simp only [cnt]; omega)) ?_
      refine m_iload_n rfl rfl rfl ?_
      refine m_ialx (n := j) (y := s 36 _ (j)) rfl rfl (Nat.le_of_ble_eq_true rfl) rfl (by first | decide | assumption | (simp only [cnt]; omega)) (by omega) (by simp only [aln]; omega) rfl ?_
      refine m_iconst rfl rfl ?_
      refine m_isub rfl rfl ?_
      refine m_istore_n rfl rfl (Nat.le_of_ble_eq_true rfl) rfl ?_
      rw [show s 36 0 j - 1 = s 36 0 j - 1 - ((0 : Nat) : Int) by omega]
      refine zk_loop (P := fun (k : Nat) (q : zkM) => zkW l G i_Mo_meetDeadlines _ 0 0 19 [some (vr 7 0), some (vi j), some (vi (s 36 0 j - 1 - k))] [] q) (I := moI4 s j jm) (moF4 j jm) jm s ⟨fun _ _ _ _ _ _ _ _ => rfl, fun _ _ => rfl, by omega, i4⟩ (fun k q hq hI => moI4_s (by omega) hq (by omega) hI) (fun k q hq hI hk2 => ?_) (fun hI => ?_)
      · obtain ⟨k1, k2, k3, k4⟩ := id hI
        have f1 : q 7 0 11 = mem 7 0 11 := (k1 7 0 11 (by decide) (by decide) (by decide) (by decide) (by decide)).trans (i1 7 0 11 (by decide) (by decide) (by decide) (by decide) (by decide))
        have f2 : q 7 0 1 = mem 7 0 1 := (k1 7 0 1 (by decide) (by decide) (by decide) (by decide) (by decide)).trans (i1 7 0 1 (by decide) (by decide) (by decide) (by decide) (by decide))
        have f3 : q 30 0 (4 * j + 2) = mem 30 0 (4 * j + 2) := (k1 30 0 _ (by decide) (by decide) (by decide) (by decide) (by decide)).trans (i1 30 0 _ (by decide) (by decide) (by decide) (by decide) (by decide))
        have f4 := (hA.2.2.1 j (by omega)).2.2.1
        have f5 := k4 (401 * j + (jm - 1 - k)) (by omega)
        unfold moF4 moMf at hk2
        refine m_iload_n rfl rfl rfl ?_
        refine m_if_lt (tgt := 127) rfl rfl rfl (by omega) (fun c20 => ?_) (fun c20 => ?_)
        · exfalso; omega
        · refine m_aload_n rfl rfl rfl ?_
          refine m_gr (k := 13) rfl rfl (Nat.le_of_ble_eq_true rfl) rfl rfl (by first | decide | assumption | (simp only [cnt]; omega)) ?_
          refine m_sipush rfl rfl (by decide) ?_
          refine m_iload_n rfl rfl rfl ?_
          refine m_imul rfl rfl ?_
          refine m_iload_n rfl rfl rfl ?_
          refine m_iadd rfl rfl ?_
          refine m_ialx (n := 401 * j + (jm - 1 - k)) (y := q 35 _ (401 * j + (jm - 1 - k))) rfl rfl (Nat.le_of_ble_eq_true rfl) rfl (by first | decide | assumption | (simp only [cnt]; omega)) (by omega) (by simp only [aln]; omega) rfl ?_
          refine m_aload_n rfl rfl rfl ?_
          refine m_gr (k := 3) rfl rfl (Nat.le_of_ble_eq_true rfl) rfl rfl (by first | decide | assumption | (simp only [cnt]; omega)) ?_
          refine m_iconst rfl rfl ?_
          refine m_iload_n rfl rfl rfl ?_
          refine m_imul rfl rfl ?_
          refine m_iconst rfl rfl ?_
          refine m_iadd rfl rfl ?_
          refine m_ialx (n := 4 * j + 2) (y := q 30 _ (4 * j + 2)) rfl rfl (Nat.le_of_ble_eq_true rfl) rfl (by first | decide | assumption | (simp only [cnt]; omega)) (by omega) (by simp only [aln]; omega) rfl ?_
          refine m_iadd rfl rfl ?_
          refine m_aload_n rfl rfl rfl ?_
          refine m_gix (k := 11) (x := q 7 _ 11) rfl rfl (Nat.le_of_ble_eq_true rfl) rfl rfl (by first | decide | assumption | (simp only [cnt]; omega)) rfl ?_
          refine m_icmp_ne (tgt := 121) rfl rfl rfl (by omega) (by omega) (fun c50 => ?_) (fun c50 => ?_)
          · refine m_iinc rfl rfl rfl (Nat.le_of_ble_eq_true rfl) rfl ?_
            refine m_goto (tgt := 19) rfl rfl rfl ?_
            rw [show s 36 0 j - 1 - ((k + 1 : Nat) : Int) = s 36 0 j - 1 - (k : Int) + -1 by omega] at hk2
            first | (rw [if_neg (by omega)] at hk2; exact hk2) | (rw [if_pos (by omega), if_pos (by omega)] at hk2; unfold moM2 moM1 at hk2; rw [if_neg (by omega)] at hk2; exact hk2) | (rw [if_pos (by omega), if_neg (by omega)] at hk2; unfold moM1 at hk2; first | (rw [if_pos (by omega)] at hk2; exact hk2) | (rw [if_neg (by omega)] at hk2; exact hk2)) | (exfalso; omega)
          · refine m_aload_n rfl rfl rfl ?_
            refine m_gr (k := 17) rfl rfl (Nat.le_of_ble_eq_true rfl) rfl rfl (by first | decide | assumption | (simp only [cnt]; omega)) ?_
            refine m_bipush rfl rfl (by decide) ?_
            refine m_iload_n rfl rfl rfl ?_
            refine m_imul rfl rfl ?_
            refine m_iconst rfl rfl ?_
            refine m_iadd rfl rfl ?_
            refine m_dup2 rfl rfl rfl rfl ?_
            refine m_ialx (n := 6 * j + 1) (y := q 39 _ (6 * j + 1)) rfl rfl (Nat.le_of_ble_eq_true rfl) rfl (by first | decide | assumption | (simp only [cnt]; omega)) (by omega) (by simp only [aln]; omega) rfl ?_
            refine m_iconst rfl rfl ?_
            refine m_iadd rfl rfl ?_
            refine m_iasn (n := 6 * j + 1) rfl rfl (Nat.le_of_ble_eq_true rfl) rfl (by first | decide | assumption | (simp only [cnt]; omega)) (by omega) (by simp only [aln]; omega) ?_
            refine m_aload_n rfl rfl rfl ?_
            refine m_gr (k := 16) rfl rfl (Nat.le_of_ble_eq_true rfl) rfl rfl (by first | decide | assumption | (simp only [cnt]; omega)) ?_
            refine m_iload_n rfl rfl rfl ?_
            refine m_aload_n rfl rfl rfl ?_
            refine m_gix (k := 1) (x := q 7 _ 1) rfl rfl (Nat.le_of_ble_eq_true rfl) rfl rfl (by first | decide | assumption | (simp only [cnt]; omega)) rfl ?_
            refine m_iconst rfl rfl ?_
            refine m_icmp_ne (tgt := 85) rfl rfl rfl (by omega) (by omega) (fun c78 => ?_) (fun c78 => ?_)
            · refine m_aload_n rfl rfl rfl ?_
              refine m_gr (k := 16) rfl rfl (Nat.le_of_ble_eq_true rfl) rfl rfl (by first | decide | assumption | (simp only [cnt]; omega)) ?_
              refine m_iload_n rfl rfl rfl ?_
              refine m_ialx (n := j) (y := q 38 _ (j)) rfl rfl (Nat.le_of_ble_eq_true rfl) rfl (by first | decide | assumption | (simp only [cnt]; omega)) (by omega) (by simp only [aln]; omega) rfl ?_
              refine m_iasn (n := j) rfl rfl (Nat.le_of_ble_eq_true rfl) rfl (by first | decide | assumption | (simp only [cnt]; omega)) (by omega) (by simp only [aln]; omega) ?_
              refine m_aload_n rfl rfl rfl ?_
              refine m_gix (k := 1) (x := q 7 _ 1) rfl rfl (Nat.le_of_ble_eq_true rfl) rfl rfl (by first | decide | assumption | (simp only [cnt]; omega)) rfl ?_
              refine m_iconst rfl rfl ?_
              refine m_icmp_ne (tgt := 121) rfl rfl rfl (by omega) (by omega) (fun c97 => ?_) (fun c97 => ?_)
              · refine m_iinc rfl rfl rfl (Nat.le_of_ble_eq_true rfl) rfl ?_
                refine m_goto (tgt := 19) rfl rfl rfl ?_
                rw [show s 36 0 j - 1 - ((k + 1 : Nat) : Int) = s 36 0 j - 1 - (k : Int) + -1 by omega] at hk2
                first | (rw [if_neg (by omega)] at hk2; exact hk2) | (rw [if_pos (by omega), if_pos (by omega)] at hk2; unfold moM2 moM1 at hk2; rw [if_neg (by omega)] at hk2; exact hk2) | (rw [if_pos (by omega), if_neg (by omega)] at hk2; unfold moM1 at hk2; first | (rw [if_pos (by omega)] at hk2; exact hk2) | (rw [if_neg (by omega)] at hk2; exact hk2)) | (exfalso; omega)
              · refine m_aload_n rfl rfl rfl ?_
                refine m_gr (k := 17) rfl rfl (Nat.le_of_ble_eq_true rfl) rfl rfl (by first | decide | assumption | (simp only [cnt]; omega)) ?_
                refine m_bipush rfl rfl (by decide) ?_
                refine m_iload_n rfl rfl rfl ?_
                refine m_imul rfl rfl ?_
                refine m_iconst rfl rfl ?_
                refine m_iadd rfl rfl ?_
                refine m_dup2 rfl rfl rfl rfl ?_
                refine m_ialn (n := 6 * j + 2) rfl rfl (Nat.le_of_ble_eq_true rfl) rfl (by first | decide | assumption | (simp only [cnt]; omega)) (by omega) (by simp only [aln]; omega) ?_
                refine m_iconst rfl rfl ?_
                refine m_iadd rfl rfl ?_
                refine m_iasn (n := 6 * j + 2) rfl rfl (Nat.le_of_ble_eq_true rfl) rfl (by first | decide | assumption | (simp only [cnt]; omega)) (by omega) (by simp only [aln]; omega) ?_
                refine m_aload_n rfl rfl rfl ?_
                refine m_iload_n rfl rfl rfl ?_
                refine m_iload_n rfl rfl rfl ?_
                refine m_cv0 rfl rfl lk_7_163 (c_motakeJob hl (t := j) (ix := jm - 1 - k) (by omega) (by omega) (by omega) (by rw [ms_t (by decide), ms_t (by decide), ms_t (by decide)]; omega)) rfl (by first | decide | assumption | (simp only [cnt]; omega)) (Nat.le_of_ble_eq_true rfl) rfl rfl (Nat.le_of_ble_eq_true rfl) (Nat.le_of_ble_eq_true rfl) (Nat.le_of_ble_eq_true rfl) (Nat.le_of_ble_eq_true rfl) (Nat.le_of_ble_eq_true rfl) ?_
                refine m_iinc rfl rfl rfl (Nat.le_of_ble_eq_true rfl) rfl ?_
                refine m_goto (tgt := 19) rfl rfl rfl ?_
                rw [show s 36 0 j - 1 - ((k + 1 : Nat) : Int) = s 36 0 j - 1 - (k : Int) + -1 by omega] at hk2
                first | (rw [if_neg (by omega)] at hk2; exact hk2) | (rw [if_pos (by omega), if_pos (by omega)] at hk2; unfold moM2 moM1 at hk2; rw [if_neg (by omega)] at hk2; exact hk2) | (rw [if_pos (by omega), if_neg (by omega)] at hk2; unfold moM1 at hk2; first | (rw [if_pos (by omega)] at hk2; exact hk2) | (rw [if_neg (by omega)] at hk2; exact hk2)) | (exfalso; omega)
            · refine m_iconst rfl rfl ?_
              refine m_goto (tgt := 91) rfl rfl rfl ?_
              refine m_iasn (n := j) rfl rfl (Nat.le_of_ble_eq_true rfl) rfl (by first | decide | assumption | (simp only [cnt]; omega)) (by omega) (by simp only [aln]; omega) ?_
              refine m_aload_n rfl rfl rfl ?_
              refine m_gix (k := 1) (x := q 7 _ 1) rfl rfl (Nat.le_of_ble_eq_true rfl) rfl rfl (by first | decide | assumption | (simp only [cnt]; omega)) rfl ?_
              refine m_iconst rfl rfl ?_
              refine m_icmp_ne (tgt := 121) rfl rfl rfl (by omega) (by omega) (fun c97 => ?_) (fun c97 => ?_)
              · refine m_iinc rfl rfl rfl (Nat.le_of_ble_eq_true rfl) rfl ?_
                refine m_goto (tgt := 19) rfl rfl rfl ?_
                rw [show s 36 0 j - 1 - ((k + 1 : Nat) : Int) = s 36 0 j - 1 - (k : Int) + -1 by omega] at hk2
                first | (rw [if_neg (by omega)] at hk2; exact hk2) | (rw [if_pos (by omega), if_pos (by omega)] at hk2; unfold moM2 moM1 at hk2; rw [if_neg (by omega)] at hk2; exact hk2) | (rw [if_pos (by omega), if_neg (by omega)] at hk2; unfold moM1 at hk2; first | (rw [if_pos (by omega)] at hk2; exact hk2) | (rw [if_neg (by omega)] at hk2; exact hk2)) | (exfalso; omega)
              · refine m_aload_n rfl rfl rfl ?_
                refine m_gr (k := 17) rfl rfl (Nat.le_of_ble_eq_true rfl) rfl rfl (by first | decide | assumption | (simp only [cnt]; omega)) ?_
                refine m_bipush rfl rfl (by decide) ?_
                refine m_iload_n rfl rfl rfl ?_
                refine m_imul rfl rfl ?_
                refine m_iconst rfl rfl ?_
                refine m_iadd rfl rfl ?_
                refine m_dup2 rfl rfl rfl rfl ?_
                refine m_ialn (n := 6 * j + 2) rfl rfl (Nat.le_of_ble_eq_true rfl) rfl (by first | decide | assumption | (simp only [cnt]; omega)) (by omega) (by simp only [aln]; omega) ?_
                refine m_iconst rfl rfl ?_
                refine m_iadd rfl rfl ?_
                refine m_iasn (n := 6 * j + 2) rfl rfl (Nat.le_of_ble_eq_true rfl) rfl (by first | decide | assumption | (simp only [cnt]; omega)) (by omega) (by simp only [aln]; omega) ?_
                refine m_aload_n rfl rfl rfl ?_
                refine m_iload_n rfl rfl rfl ?_
                refine m_iload_n rfl rfl rfl ?_
                refine m_cv0 rfl rfl lk_7_163 (c_motakeJob hl (t := j) (ix := jm - 1 - k) (by omega) (by omega) (by omega) (by rw [ms_t (by decide), ms_t (by decide), ms_t (by decide)]; omega)) rfl (by first | decide | assumption | (simp only [cnt]; omega)) (Nat.le_of_ble_eq_true rfl) rfl rfl (Nat.le_of_ble_eq_true rfl) (Nat.le_of_ble_eq_true rfl) (Nat.le_of_ble_eq_true rfl) (Nat.le_of_ble_eq_true rfl) (Nat.le_of_ble_eq_true rfl) ?_
                refine m_iinc rfl rfl rfl (Nat.le_of_ble_eq_true rfl) rfl ?_
                refine m_goto (tgt := 19) rfl rfl rfl ?_
                rw [show s 36 0 j - 1 - ((k + 1 : Nat) : Int) = s 36 0 j - 1 - (k : Int) + -1 by omega] at hk2
                first | (rw [if_neg (by omega)] at hk2; exact hk2) | (rw [if_pos (by omega), if_pos (by omega)] at hk2; unfold moM2 moM1 at hk2; rw [if_neg (by omega)] at hk2; exact hk2) | (rw [if_pos (by omega), if_neg (by omega)] at hk2; unfold moM1 at hk2; first | (rw [if_pos (by omega)] at hk2; exact hk2) | (rw [if_neg (by omega)] at hk2; exact hk2)) | (exfalso; omega)
      · refine m_iload_n rfl rfl rfl ?_
        refine m_if_lt (tgt := 127) rfl rfl rfl (by omega) (fun c20 => ?_) (fun c20 => ?_)
        · refine m_iinc rfl rfl rfl (Nat.le_of_ble_eq_true rfl) rfl ?_
          refine m_goto (tgt := 2) rfl rfl rfl ?_
          refine zk_fg 2 ?_
          exact hk
        · exfalso; omega
  · obtain ⟨i1, i2, i3, i4⟩ := id hI
    have e1 := i1 7 0 2 (by decide) (by decide) (by decide) (by decide) (by decide)
    refine m_iload_n rfl rfl rfl ?_
    refine m_aload_n rfl rfl rfl ?_
    refine m_gi (k := 2) rfl rfl (Nat.le_of_ble_eq_true rfl) rfl rfl (by first | decide | assumption | (simp only [cnt]; omega)) ?_
    refine m_icmp_ge (tgt := 133) rfl rfl rfl (by omega) (by omega) (fun c7 => ?_) (fun c7 => ?_)
    · refine m_vret rfl rfl rfl (Nat.le_of_ble_eq_true rfl) (Nat.le_of_ble_eq_true rfl) ?_
      exact ⟨rfl, rfl⟩
    · exfalso; omega

