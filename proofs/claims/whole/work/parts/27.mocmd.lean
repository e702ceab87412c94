/-! the reference: commands -/
def rsc (m : zkM) (p : Int × Int) : Int × Int × Int := if p.1 + 1 < m 7 0 29 ∧ m 44 0 p.1.toNat = 32 ∧ m 44 0 (p.1.toNat + 1) = 110 then (-1, tks m [32, 110, 111, 110, 101] p) else num m p
theorem rsc_b {m : zkM} (h : txA m) {p : Int × Int} (hp : txP p) : txP (rsc m p).2 ∧ -1 ≤ (rsc m p).1 ∧ (rsc m p).1 ≤ 999 := by
  unfold rsc
  split
  · exact ⟨tks_b h _ _ (by decide) hp, by dsimp only; omega⟩
  · have := num_b h hp
    exact ⟨this.1, by omega⟩
set_option maxRecDepth 10000 in
theorem c_resource {l : Launch} {G : zkG} (hl : l.stackTraces = false) {m : zkM} {p : Int × Int} (hT : txA m) (hp : txP p) : zkCt l G i_Mo_resource 3 0 0 [vr 7 0] (zC m p) (zkR1 (vi (rsc m p).1) (zC m (rsc m p).2)) := by
  refine zkCt_of hl ok_Mo_resource (by decide +kernel) rfl rfl (List.forall_mem_cons.mpr ⟨rfl, fun _ h => nomatch h⟩) (Nat.le_of_ble_eq_true rfl) ?_
  have h1 := hT.1
  have p1 := hp.1
  refine m_aload_n rfl rfl rfl ?_
  refine m_gix (k := 30) (x := p.1) rfl rfl (Nat.le_of_ble_eq_true rfl) rfl rfl (by first | decide | assumption | (simp only [cnt]; omega)) rfl ?_
  refine m_iconst rfl rfl ?_
  refine m_iadd rfl rfl ?_
  refine m_aload_n rfl rfl rfl ?_
  refine m_gix (k := 29) (x := m 7 _ 29) rfl rfl (Nat.le_of_ble_eq_true rfl) rfl rfl (by first | decide | assumption | (simp only [cnt]; omega)) rfl ?_
  refine m_icmp_ge (tgt := 47) rfl rfl rfl (by omega) (by omega) (fun c10 => ?_) (fun c10 => ?_)
  · refine m_iconst rfl rfl ?_
    refine m_istore_n rfl rfl (Nat.le_of_ble_eq_true rfl) rfl ?_
    refine m_iload_n rfl rfl rfl ?_
    refine m_if_ne (tgt := 58) rfl rfl rfl (by omega) (fun c50 => ?_) (fun c50 => ?_)
    · exfalso; omega
    · refine m_aload_n rfl rfl rfl ?_
      refine m_cv1 rfl rfl lk_7_237 (c_number hl hT (by repeat (first | assumption | refine tk_b (by assumption) (by decide) ?_ | refine (num_b (by assumption) ?_).1))) rfl (by first | decide | assumption | (simp only [cnt]; omega)) (Nat.le_of_ble_eq_true rfl) rfl rfl (Nat.le_of_ble_eq_true rfl) (Nat.le_of_ble_eq_true rfl) (Nat.le_of_ble_eq_true rfl) (Nat.le_of_ble_eq_true rfl) (Nat.le_of_ble_eq_true rfl) ?_
      refine m_iret rfl rfl rfl (Nat.le_of_ble_eq_true rfl) (Nat.le_of_ble_eq_true rfl) ?_
      unfold rsc
      first | (rw [if_pos (by omega)]; exact ⟨rfl, rfl⟩) | (rw [if_neg (by omega)]; exact ⟨rfl, rfl⟩)
  · have k1 := hT.2 p.1.toNat (by omega)
    have k2 := hT.2 (p.1.toNat + 1) (by omega)
    refine m_aload_n rfl rfl rfl ?_
    refine m_gr (k := 27) rfl rfl (Nat.le_of_ble_eq_true rfl) rfl rfl (by first | decide | assumption | (simp only [cnt]; omega)) ?_
    refine m_aload_n rfl rfl rfl ?_
    refine m_gix (k := 30) (x := p.1) rfl rfl (Nat.le_of_ble_eq_true rfl) rfl rfl (by first | decide | assumption | (simp only [cnt]; omega)) rfl ?_
    refine m_calx (n := p.1.toNat) (y := m 44 _ (p.1.toNat)) rfl rfl (Nat.le_of_ble_eq_true rfl) rfl (by first | decide | assumption | (simp only [cnt]; omega)) (by omega) (by simp only [aln]; omega) rfl ?_
    refine m_bipush rfl rfl (by decide) ?_
    refine m_icmp_ne (tgt := 47) rfl rfl rfl (by omega) (by omega) (fun c24 => ?_) (fun c24 => ?_)
    · refine m_iconst rfl rfl ?_
      refine m_istore_n rfl rfl (Nat.le_of_ble_eq_true rfl) rfl ?_
      refine m_iload_n rfl rfl rfl ?_
      refine m_if_ne (tgt := 58) rfl rfl rfl (by omega) (fun c50 => ?_) (fun c50 => ?_)
      · exfalso; omega
      · refine m_aload_n rfl rfl rfl ?_
        refine m_cv1 rfl rfl lk_7_237 (c_number hl hT (by repeat (first | assumption | refine tk_b (by assumption) (by decide) ?_ | refine (num_b (by assumption) ?_).1))) rfl (by first | decide | assumption | (simp only [cnt]; omega)) (Nat.le_of_ble_eq_true rfl) rfl rfl (Nat.le_of_ble_eq_true rfl) (Nat.le_of_ble_eq_true rfl) (Nat.le_of_ble_eq_true rfl) (Nat.le_of_ble_eq_true rfl) (Nat.le_of_ble_eq_true rfl) ?_
        refine m_iret rfl rfl rfl (Nat.le_of_ble_eq_true rfl) (Nat.le_of_ble_eq_true rfl) ?_
        unfold rsc
        first | (rw [if_pos (by omega)]; exact ⟨rfl, rfl⟩) | (rw [if_neg (by omega)]; exact ⟨rfl, rfl⟩)
    · refine m_aload_n rfl rfl rfl ?_
      refine m_gr (k := 27) rfl rfl (Nat.le_of_ble_eq_true rfl) rfl rfl (by first | decide | assumption | (simp only [cnt]; omega)) ?_
      refine m_aload_n rfl rfl rfl ?_
      refine m_gix (k := 30) (x := p.1) rfl rfl (Nat.le_of_ble_eq_true rfl) rfl rfl (by first | decide | assumption | (simp only [cnt]; omega)) rfl ?_
      refine m_iconst rfl rfl ?_
      refine m_iadd rfl rfl ?_
      refine m_calx (n := p.1.toNat + 1) (y := m 44 _ (p.1.toNat + 1)) rfl rfl (Nat.le_of_ble_eq_true rfl) rfl (by first | decide | assumption | (simp only [cnt]; omega)) (by omega) (by simp only [aln]; omega) rfl ?_
      refine m_bipush rfl rfl (by decide) ?_
      refine m_icmp_ne (tgt := 47) rfl rfl rfl (by omega) (by omega) (fun c40 => ?_) (fun c40 => ?_)
      · refine m_iconst rfl rfl ?_
        refine m_istore_n rfl rfl (Nat.le_of_ble_eq_true rfl) rfl ?_
        refine m_iload_n rfl rfl rfl ?_
        refine m_if_ne (tgt := 58) rfl rfl rfl (by omega) (fun c50 => ?_) (fun c50 => ?_)
        · exfalso; omega
        · refine m_aload_n rfl rfl rfl ?_
          refine m_cv1 rfl rfl lk_7_237 (c_number hl hT (by repeat (first | assumption | refine tk_b (by assumption) (by decide) ?_ | refine (num_b (by assumption) ?_).1))) rfl (by first | decide | assumption | (simp only [cnt]; omega)) (Nat.le_of_ble_eq_true rfl) rfl rfl (Nat.le_of_ble_eq_true rfl) (Nat.le_of_ble_eq_true rfl) (Nat.le_of_ble_eq_true rfl) (Nat.le_of_ble_eq_true rfl) (Nat.le_of_ble_eq_true rfl) ?_
          refine m_iret rfl rfl rfl (Nat.le_of_ble_eq_true rfl) (Nat.le_of_ble_eq_true rfl) ?_
          unfold rsc
          first | (rw [if_pos (by omega)]; exact ⟨rfl, rfl⟩) | (rw [if_neg (by omega)]; exact ⟨rfl, rfl⟩)
      · refine m_iconst rfl rfl ?_
        refine m_goto (tgt := 48) rfl rfl rfl ?_
        refine m_istore_n rfl rfl (Nat.le_of_ble_eq_true rfl) rfl ?_
        refine m_iload_n rfl rfl rfl ?_
        refine m_if_ne (tgt := 58) rfl rfl rfl (by omega) (fun c50 => ?_) (fun c50 => ?_)
        · refine m_aload_n rfl rfl rfl ?_
          refine m_bipush rfl rfl (by decide) ?_
          refine m_cv0 rfl rfl lk_7_233 (c_take hl hT (by repeat (first | assumption | refine tk_b (by assumption) (by decide) ?_ | refine (num_b (by assumption) ?_).1)) (by omega)) rfl (by first | decide | assumption | (simp only [cnt]; omega)) (Nat.le_of_ble_eq_true rfl) rfl rfl (Nat.le_of_ble_eq_true rfl) (Nat.le_of_ble_eq_true rfl) (Nat.le_of_ble_eq_true rfl) (Nat.le_of_ble_eq_true rfl) (Nat.le_of_ble_eq_true rfl) ?_
          refine m_aload_n rfl rfl rfl ?_
          refine m_bipush rfl rfl (by decide) ?_
          refine m_cv0 rfl rfl lk_7_233 (c_take hl hT (by repeat (first | assumption | refine tk_b (by assumption) (by decide) ?_ | refine (num_b (by assumption) ?_).1)) (by omega)) rfl (by first | decide | assumption | (simp only [cnt]; omega)) (Nat.le_of_ble_eq_true rfl) rfl rfl (Nat.le_of_ble_eq_true rfl) (Nat.le_of_ble_eq_true rfl) (Nat.le_of_ble_eq_true rfl) (Nat.le_of_ble_eq_true rfl) (Nat.le_of_ble_eq_true rfl) ?_
          refine m_aload_n rfl rfl rfl ?_
          refine m_bipush rfl rfl (by decide) ?_
          refine m_cv0 rfl rfl lk_7_233 (c_take hl hT (by repeat (first | assumption | refine tk_b (by assumption) (by decide) ?_ | refine (num_b (by assumption) ?_).1)) (by omega)) rfl (by first | decide | assumption | (simp only [cnt]; omega)) (Nat.le_of_ble_eq_true rfl) rfl rfl (Nat.le_of_ble_eq_true rfl) (Nat.le_of_ble_eq_true rfl) (Nat.le_of_ble_eq_true rfl) (Nat.le_of_ble_eq_true rfl) (Nat.le_of_ble_eq_true rfl) ?_
          refine m_aload_n rfl rfl rfl ?_
          refine m_bipush rfl rfl (by decide) ?_
          refine m_cv0 rfl rfl lk_7_233 (c_take hl hT (by repeat (first | assumption | refine tk_b (by assumption) (by decide) ?_ | refine (num_b (by assumption) ?_).1)) (by omega)) rfl (by first | decide | assumption | (simp only [cnt]; omega)) (Nat.le_of_ble_eq_true rfl) rfl rfl (Nat.le_of_ble_eq_true rfl) (Nat.le_of_ble_eq_true rfl) (Nat.le_of_ble_eq_true rfl) (Nat.le_of_ble_eq_true rfl) (Nat.le_of_ble_eq_true rfl) ?_
          refine m_aload_n rfl rfl rfl ?_
          refine m_bipush rfl rfl (by decide) ?_
          refine m_cv0 rfl rfl lk_7_233 (c_take hl hT (by repeat (first | assumption | refine tk_b (by assumption) (by decide) ?_ | refine (num_b (by assumption) ?_).1)) (by omega)) rfl (by first | decide | assumption | (simp only [cnt]; omega)) (Nat.le_of_ble_eq_true rfl) rfl rfl (Nat.le_of_ble_eq_true rfl) (Nat.le_of_ble_eq_true rfl) (Nat.le_of_ble_eq_true rfl) (Nat.le_of_ble_eq_true rfl) (Nat.le_of_ble_eq_true rfl) ?_
          refine m_iconst rfl rfl ?_
          refine m_iret rfl rfl rfl (Nat.le_of_ble_eq_true rfl) (Nat.le_of_ble_eq_true rfl) ?_
          unfold rsc
          first | (rw [if_pos (by omega)]; exact ⟨rfl, rfl⟩) | (rw [if_neg (by omega)]; exact ⟨rfl, rfl⟩)
        · exfalso; omega

def pol (m : zkM) (p : Int × Int) : Int × Int × Int := if (tk m 32 p).2 = -1 ∧ sgn m (tk m 32 p).1 = 99 then (0, tk m 101 (tks m [99, 111, 110, 116, 105, 110, 117] (tk m 32 p))) else if (tk m 32 p).2 = -1 ∧ sgn m (tk m 32 p).1 = 97 then (1, tks m [97, 98, 111, 114, 116] (tk m 32 p)) else (2, tks m [115, 107, 105, 112] (tk m 32 p))
theorem pol_b {m : zkM} (h : txA m) {p : Int × Int} (hp : txP p) : txP (pol m p).2 ∧ 0 ≤ (pol m p).1 ∧ (pol m p).1 ≤ 2 := by
  have h1 := tk_b h (c := 32) (by omega) hp
  unfold pol
  split
  · exact ⟨tk_b h (by decide) (tks_b h _ _ (by decide) h1), by dsimp only; omega⟩
  · split
    · exact ⟨tks_b h _ _ (by decide) h1, by dsimp only; omega⟩
    · exact ⟨tks_b h _ _ (by decide) h1, by dsimp only; omega⟩
set_option maxRecDepth 10000 in
theorem c_policyName {l : Launch} {G : zkG} (hl : l.stackTraces = false) {m : zkM} {p : Int × Int} (hT : txA m) (hp : txP p) : zkCt l G i_Mo_policyName 3 0 0 [vr 7 0] (zC m p) (zkR1 (vi (pol m p).1) (zC m (pol m p).2)) := by
  refine zkCt_of hl ok_Mo_policyName (by decide +kernel) rfl rfl (List.forall_mem_cons.mpr ⟨rfl, fun _ h => nomatch h⟩) (Nat.le_of_ble_eq_true rfl) ?_
  have hq := tk_b hT (c := 32) (by omega) hp
  have hs := sgn_b hT hq.1.1
  have q2 := tks_b hT [99, 111, 110, 116, 105, 110, 117] _ (by decide) hq
  obtain ⟨g1, g2⟩ := id hq
  refine m_aload_n rfl rfl rfl ?_
  refine m_bipush rfl rfl (by decide) ?_
  refine m_cv0 rfl rfl lk_7_233 (c_take hl hT (by repeat (first | assumption | refine tk_b (by assumption) (by decide) ?_ | refine (num_b (by assumption) ?_).1)) (by omega)) rfl (by first | decide | assumption | (simp only [cnt]; omega)) (Nat.le_of_ble_eq_true rfl) rfl rfl (Nat.le_of_ble_eq_true rfl) (Nat.le_of_ble_eq_true rfl) (Nat.le_of_ble_eq_true rfl) (Nat.le_of_ble_eq_true rfl) (Nat.le_of_ble_eq_true rfl) ?_
  refine m_aload_n rfl rfl rfl ?_
  refine m_gix (k := 31) (x := (tk m 32 p).2) rfl rfl (Nat.le_of_ble_eq_true rfl) rfl rfl (by first | decide | assumption | (simp only [cnt]; omega)) rfl ?_
  refine m_iconst rfl rfl ?_
  refine m_icmp_ne (tgt := 21) rfl rfl rfl (by omega) (by omega) (fun c11 => ?_) (fun c11 => ?_)
  · refine m_iconst rfl rfl ?_
    refine m_istore_n rfl rfl (Nat.le_of_ble_eq_true rfl) rfl ?_
    refine m_iload_n rfl rfl rfl ?_
    refine m_bipush rfl rfl (by decide) ?_
    refine m_icmp_ne (tgt := 55) rfl rfl rfl (by omega) (by omega) (fun c26 => ?_) (fun c26 => ?_)
    · refine m_iload_n rfl rfl rfl ?_
      refine m_bipush rfl rfl (by decide) ?_
      refine m_icmp_ne (tgt := 93) rfl rfl rfl (by omega) (by omega) (fun c58 => ?_) (fun c58 => ?_)
      · refine m_aload_n rfl rfl rfl ?_
        refine m_bipush rfl rfl (by decide) ?_
        refine m_cv0 rfl rfl lk_7_233 (c_take hl hT (by repeat (first | assumption | refine tk_b (by assumption) (by decide) ?_ | refine (num_b (by assumption) ?_).1)) (by omega)) rfl (by first | decide | assumption | (simp only [cnt]; omega)) (Nat.le_of_ble_eq_true rfl) rfl rfl (Nat.le_of_ble_eq_true rfl) (Nat.le_of_ble_eq_true rfl) (Nat.le_of_ble_eq_true rfl) (Nat.le_of_ble_eq_true rfl) (Nat.le_of_ble_eq_true rfl) ?_
        refine m_aload_n rfl rfl rfl ?_
        refine m_bipush rfl rfl (by decide) ?_
        refine m_cv0 rfl rfl lk_7_233 (c_take hl hT (by repeat (first | assumption | refine tk_b (by assumption) (by decide) ?_ | refine (num_b (by assumption) ?_).1)) (by omega)) rfl (by first | decide | assumption | (simp only [cnt]; omega)) (Nat.le_of_ble_eq_true rfl) rfl rfl (Nat.le_of_ble_eq_true rfl) (Nat.le_of_ble_eq_true rfl) (Nat.le_of_ble_eq_true rfl) (Nat.le_of_ble_eq_true rfl) (Nat.le_of_ble_eq_true rfl) ?_
        refine m_aload_n rfl rfl rfl ?_
        refine m_bipush rfl rfl (by decide) ?_
        refine m_cv0 rfl rfl lk_7_233 (c_take hl hT (by repeat (first | assumption | refine tk_b (by assumption) (by decide) ?_ | refine (num_b (by assumption) ?_).1)) (by omega)) rfl (by first | decide | assumption | (simp only [cnt]; omega)) (Nat.le_of_ble_eq_true rfl) rfl rfl (Nat.le_of_ble_eq_true rfl) (Nat.le_of_ble_eq_true rfl) (Nat.le_of_ble_eq_true rfl) (Nat.le_of_ble_eq_true rfl) (Nat.le_of_ble_eq_true rfl) ?_
        refine m_aload_n rfl rfl rfl ?_
        refine m_bipush rfl rfl (by decide) ?_
        refine m_cv0 rfl rfl lk_7_233 (c_take hl hT (by repeat (first | assumption | refine tk_b (by assumption) (by decide) ?_ | refine (num_b (by assumption) ?_).1)) (by omega)) rfl (by first | decide | assumption | (simp only [cnt]; omega)) (Nat.le_of_ble_eq_true rfl) rfl rfl (Nat.le_of_ble_eq_true rfl) (Nat.le_of_ble_eq_true rfl) (Nat.le_of_ble_eq_true rfl) (Nat.le_of_ble_eq_true rfl) (Nat.le_of_ble_eq_true rfl) ?_
        refine m_iconst rfl rfl ?_
        refine m_iret rfl rfl rfl (Nat.le_of_ble_eq_true rfl) (Nat.le_of_ble_eq_true rfl) ?_
        unfold pol
        first | (rw [if_pos (by omega)]; exact ⟨rfl, rfl⟩) | (rw [if_neg (by omega), if_pos (by omega)]; exact ⟨rfl, rfl⟩) | (rw [if_neg (by omega), if_neg (by omega)]; exact ⟨rfl, rfl⟩)
      · exfalso; omega
    · exfalso; omega
  · refine m_aload_n rfl rfl rfl ?_
    refine m_cv1 rfl rfl lk_7_230 (c_sign hl hT g1) rfl (by first | decide | assumption | (simp only [cnt]; omega)) (Nat.le_of_ble_eq_true rfl) rfl rfl (Nat.le_of_ble_eq_true rfl) (Nat.le_of_ble_eq_true rfl) (Nat.le_of_ble_eq_true rfl) (Nat.le_of_ble_eq_true rfl) (Nat.le_of_ble_eq_true rfl) ?_
    refine m_goto (tgt := 22) rfl rfl rfl ?_
    refine m_istore_n rfl rfl (Nat.le_of_ble_eq_true rfl) rfl ?_
    refine m_iload_n rfl rfl rfl ?_
    refine m_bipush rfl rfl (by decide) ?_
    refine m_icmp_ne (tgt := 55) rfl rfl rfl (by omega) (by omega) (fun c26 => ?_) (fun c26 => ?_)
    · refine m_iload_n rfl rfl rfl ?_
      refine m_bipush rfl rfl (by decide) ?_
      refine m_icmp_ne (tgt := 93) rfl rfl rfl (by omega) (by omega) (fun c58 => ?_) (fun c58 => ?_)
      · refine m_aload_n rfl rfl rfl ?_
        refine m_bipush rfl rfl (by decide) ?_
        refine m_cv0 rfl rfl lk_7_233 (c_take hl hT (by repeat (first | assumption | refine tk_b (by assumption) (by decide) ?_ | refine (num_b (by assumption) ?_).1)) (by omega)) rfl (by first | decide | assumption | (simp only [cnt]; omega)) (Nat.le_of_ble_eq_true rfl) rfl rfl (Nat.le_of_ble_eq_true rfl) (Nat.le_of_ble_eq_true rfl) (Nat.le_of_ble_eq_true rfl) (Nat.le_of_ble_eq_true rfl) (Nat.le_of_ble_eq_true rfl) ?_
        refine m_aload_n rfl rfl rfl ?_
        refine m_bipush rfl rfl (by decide) ?_
        refine m_cv0 rfl rfl lk_7_233 (c_take hl hT (by repeat (first | assumption | refine tk_b (by assumption) (by decide) ?_ | refine (num_b (by assumption) ?_).1)) (by omega)) rfl (by first | decide | assumption | (simp only [cnt]; omega)) (Nat.le_of_ble_eq_true rfl) rfl rfl (Nat.le_of_ble_eq_true rfl) (Nat.le_of_ble_eq_true rfl) (Nat.le_of_ble_eq_true rfl) (Nat.le_of_ble_eq_true rfl) (Nat.le_of_ble_eq_true rfl) ?_
        refine m_aload_n rfl rfl rfl ?_
        refine m_bipush rfl rfl (by decide) ?_
        refine m_cv0 rfl rfl lk_7_233 (c_take hl hT (by repeat (first | assumption | refine tk_b (by assumption) (by decide) ?_ | refine (num_b (by assumption) ?_).1)) (by omega)) rfl (by first | decide | assumption | (simp only [cnt]; omega)) (Nat.le_of_ble_eq_true rfl) rfl rfl (Nat.le_of_ble_eq_true rfl) (Nat.le_of_ble_eq_true rfl) (Nat.le_of_ble_eq_true rfl) (Nat.le_of_ble_eq_true rfl) (Nat.le_of_ble_eq_true rfl) ?_
        refine m_aload_n rfl rfl rfl ?_
        refine m_bipush rfl rfl (by decide) ?_
        refine m_cv0 rfl rfl lk_7_233 (c_take hl hT (by repeat (first | assumption | refine tk_b (by assumption) (by decide) ?_ | refine (num_b (by assumption) ?_).1)) (by omega)) rfl (by first | decide | assumption | (simp only [cnt]; omega)) (Nat.le_of_ble_eq_true rfl) rfl rfl (Nat.le_of_ble_eq_true rfl) (Nat.le_of_ble_eq_true rfl) (Nat.le_of_ble_eq_true rfl) (Nat.le_of_ble_eq_true rfl) (Nat.le_of_ble_eq_true rfl) ?_
        refine m_iconst rfl rfl ?_
        refine m_iret rfl rfl rfl (Nat.le_of_ble_eq_true rfl) (Nat.le_of_ble_eq_true rfl) ?_
        unfold pol
        first | (rw [if_pos (by omega)]; exact ⟨rfl, rfl⟩) | (rw [if_neg (by omega), if_pos (by omega)]; exact ⟨rfl, rfl⟩) | (rw [if_neg (by omega), if_neg (by omega)]; exact ⟨rfl, rfl⟩)
      · refine m_aload_n rfl rfl rfl ?_
        refine m_bipush rfl rfl (by decide) ?_
        refine m_cv0 rfl rfl lk_7_233 (c_take hl hT (by repeat (first | assumption | refine tk_b (by assumption) (by decide) ?_ | refine (num_b (by assumption) ?_).1)) (by omega)) rfl (by first | decide | assumption | (simp only [cnt]; omega)) (Nat.le_of_ble_eq_true rfl) rfl rfl (Nat.le_of_ble_eq_true rfl) (Nat.le_of_ble_eq_true rfl) (Nat.le_of_ble_eq_true rfl) (Nat.le_of_ble_eq_true rfl) (Nat.le_of_ble_eq_true rfl) ?_
        refine m_aload_n rfl rfl rfl ?_
        refine m_bipush rfl rfl (by decide) ?_
        refine m_cv0 rfl rfl lk_7_233 (c_take hl hT (by repeat (first | assumption | refine tk_b (by assumption) (by decide) ?_ | refine (num_b (by assumption) ?_).1)) (by omega)) rfl (by first | decide | assumption | (simp only [cnt]; omega)) (Nat.le_of_ble_eq_true rfl) rfl rfl (Nat.le_of_ble_eq_true rfl) (Nat.le_of_ble_eq_true rfl) (Nat.le_of_ble_eq_true rfl) (Nat.le_of_ble_eq_true rfl) (Nat.le_of_ble_eq_true rfl) ?_
        refine m_aload_n rfl rfl rfl ?_
        refine m_bipush rfl rfl (by decide) ?_
        refine m_cv0 rfl rfl lk_7_233 (c_take hl hT (by repeat (first | assumption | refine tk_b (by assumption) (by decide) ?_ | refine (num_b (by assumption) ?_).1)) (by omega)) rfl (by first | decide | assumption | (simp only [cnt]; omega)) (Nat.le_of_ble_eq_true rfl) rfl rfl (Nat.le_of_ble_eq_true rfl) (Nat.le_of_ble_eq_true rfl) (Nat.le_of_ble_eq_true rfl) (Nat.le_of_ble_eq_true rfl) (Nat.le_of_ble_eq_true rfl) ?_
        refine m_aload_n rfl rfl rfl ?_
        refine m_bipush rfl rfl (by decide) ?_
        refine m_cv0 rfl rfl lk_7_233 (c_take hl hT (by repeat (first | assumption | refine tk_b (by assumption) (by decide) ?_ | refine (num_b (by assumption) ?_).1)) (by omega)) rfl (by first | decide | assumption | (simp only [cnt]; omega)) (Nat.le_of_ble_eq_true rfl) rfl rfl (Nat.le_of_ble_eq_true rfl) (Nat.le_of_ble_eq_true rfl) (Nat.le_of_ble_eq_true rfl) (Nat.le_of_ble_eq_true rfl) (Nat.le_of_ble_eq_true rfl) ?_
        refine m_aload_n rfl rfl rfl ?_
        refine m_bipush rfl rfl (by decide) ?_
        refine m_cv0 rfl rfl lk_7_233 (c_take hl hT (by repeat (first | assumption | refine tk_b (by assumption) (by decide) ?_ | refine (num_b (by assumption) ?_).1)) (by omega)) rfl (by first | decide | assumption | (simp only [cnt]; omega)) (Nat.le_of_ble_eq_true rfl) rfl rfl (Nat.le_of_ble_eq_true rfl) (Nat.le_of_ble_eq_true rfl) (Nat.le_of_ble_eq_true rfl) (Nat.le_of_ble_eq_true rfl) (Nat.le_of_ble_eq_true rfl) ?_
        refine m_iconst rfl rfl ?_
        refine m_iret rfl rfl rfl (Nat.le_of_ble_eq_true rfl) (Nat.le_of_ble_eq_true rfl) ?_
        unfold pol
        first | (rw [if_pos (by omega)]; exact ⟨rfl, rfl⟩) | (rw [if_neg (by omega), if_pos (by omega)]; exact ⟨rfl, rfl⟩) | (rw [if_neg (by omega), if_neg (by omega)]; exact ⟨rfl, rfl⟩)
    · refine m_aload_n rfl rfl rfl ?_
      refine m_bipush rfl rfl (by decide) ?_
      refine m_bipush rfl rfl (by decide) ?_
      refine m_bipush rfl rfl (by decide) ?_
      refine m_bipush rfl rfl (by decide) ?_
      refine m_bipush rfl rfl (by decide) ?_
      refine m_bipush rfl rfl (by decide) ?_
      refine m_bipush rfl rfl (by decide) ?_
      refine m_cv0 rfl rfl lk_7_240 (c_takeAll hl hT (by repeat (first | assumption | refine tk_b (by assumption) (by decide) ?_ | refine (num_b (by assumption) ?_).1)) (by omega) (by omega) (by omega) (by omega) (by omega) (by omega) (by omega)) rfl (by first | decide | assumption | (simp only [cnt]; omega)) (Nat.le_of_ble_eq_true rfl) rfl rfl (Nat.le_of_ble_eq_true rfl) (Nat.le_of_ble_eq_true rfl) (Nat.le_of_ble_eq_true rfl) (Nat.le_of_ble_eq_true rfl) (Nat.le_of_ble_eq_true rfl) ?_
      refine m_aload_n rfl rfl rfl ?_
      refine m_bipush rfl rfl (by decide) ?_
      refine m_cv0 rfl rfl lk_7_233 (c_take hl hT (by repeat (first | assumption | refine tk_b (by assumption) (by decide) ?_ | refine (num_b (by assumption) ?_).1)) (by omega)) rfl (by first | decide | assumption | (simp only [cnt]; omega)) (Nat.le_of_ble_eq_true rfl) rfl rfl (Nat.le_of_ble_eq_true rfl) (Nat.le_of_ble_eq_true rfl) (Nat.le_of_ble_eq_true rfl) (Nat.le_of_ble_eq_true rfl) (Nat.le_of_ble_eq_true rfl) ?_
      refine m_iconst rfl rfl ?_
      refine m_iret rfl rfl rfl (Nat.le_of_ble_eq_true rfl) (Nat.le_of_ble_eq_true rfl) ?_
      unfold pol
      first | (rw [if_pos (by omega)]; exact ⟨rfl, rfl⟩) | (rw [if_neg (by omega), if_pos (by omega)]; exact ⟨rfl, rfl⟩) | (rw [if_neg (by omega), if_neg (by omega)]; exact ⟨rfl, rfl⟩)

def rnf (j : Nat) (s : zkM × Int × Int) : zkM × Int × Int := (mset s.1 45 0 j (num s.1 s.2).1, (num s.1 s.2).2)
def rdn (n : Nat) (m : zkM) (p : Int × Int) : zkM × Int × Int := lp rnf n (m, p)
theorem rdn_b {m : zkM} (h : txA m) {p : Int × Int} (hp : txP p) (n : Nat) : txA (rdn n m p).1 ∧ txP (rdn n m p).2 := by
  unfold rdn
  exact lp_inv (fun (_ : Nat) (s : zkM × Int × Int) => txA s.1 ∧ txP s.2) rnf n (m, p) ⟨h, hp⟩ (fun _ _ _ hI => ⟨hI.1, (num_b hI.1 hI.2).1⟩)
set_option maxRecDepth 10000 in
theorem c_readNumbers {l : Launch} {G : zkG} (hl : l.stackTraces = false) {m : zkM} {p : Int × Int} {x : Int} {n : Nat} (hT : txA m) (hp : txP p) (hx : x = n) (hn : n ≤ 4) : zkCt l G i_Mo_readNumbers 3 0 0 [vr 7 0, vi x] (zC m p) (zkR0 (zC (rdn n m p).1 (rdn n m p).2)) := by
  refine zkCt_of hl ok_Mo_readNumbers (by decide +kernel) rfl rfl (List.forall_mem_cons.mpr ⟨rfl, (List.forall_mem_cons.mpr ⟨rfl, fun _ h => nomatch h⟩)⟩) (Nat.le_of_ble_eq_true rfl) ?_
  refine m_iconst rfl rfl ?_
  refine m_istore_n rfl rfl (Nat.le_of_ble_eq_true rfl) rfl ?_
  refine zk_loop (P := fun (j : Nat) (s : zkM × Int × Int) => zkW l G i_Mo_readNumbers _ 0 0 2 [some (vr 7 0), some (vi x), some (vi j)] [] (zC s.1 s.2)) (I := fun _ s => txA s.1 ∧ txP s.2) rnf n (m, p) ⟨hT, hp⟩ (fun _ _ _ hI => ⟨hI.1, (num_b hI.1 hI.2).1⟩) (fun j s hj hI hk => ?_) (fun hI => ?_)
  · refine m_iload_n rfl rfl rfl ?_
    refine m_iload_n rfl rfl rfl ?_
    refine m_icmp_ge (tgt := 23) rfl rfl rfl (by omega) (by omega) (fun c4 => ?_) (fun c4 => ?_)
    · exfalso; omega
    · refine m_aload_n rfl rfl rfl ?_
      refine m_gr (k := 33) rfl rfl (Nat.le_of_ble_eq_true rfl) rfl rfl (by first | decide | assumption | (simp only [cnt]; omega)) ?_
      refine m_iload_n rfl rfl rfl ?_
      refine m_aload_n rfl rfl rfl ?_
      refine m_cv1 rfl rfl lk_7_237 (c_number hl hI.1 hI.2) rfl (by first | decide | assumption | (simp only [cnt]; omega)) (Nat.le_of_ble_eq_true rfl) rfl rfl (Nat.le_of_ble_eq_true rfl) (Nat.le_of_ble_eq_true rfl) (Nat.le_of_ble_eq_true rfl) (Nat.le_of_ble_eq_true rfl) (Nat.le_of_ble_eq_true rfl) ?_
      refine m_iasn (n := j) rfl rfl (Nat.le_of_ble_eq_true rfl) rfl (by first | decide | assumption | (simp only [cnt]; omega)) (by omega) (by simp only [aln]; omega) ?_
      refine m_iinc rfl rfl rfl (Nat.le_of_ble_eq_true rfl) rfl ?_
      refine m_goto (tgt := 2) rfl rfl rfl ?_
      rw [zC_o (by decide)]
      exact hk
  · refine m_iload_n rfl rfl rfl ?_
    refine m_iload_n rfl rfl rfl ?_
    refine m_icmp_ge (tgt := 23) rfl rfl rfl (by omega) (by omega) (fun c4 => ?_) (fun c4 => ?_)
    · refine m_vret rfl rfl rfl (Nat.le_of_ble_eq_true rfl) (Nat.le_of_ble_eq_true rfl) ?_
      exact ⟨rfl, rfl⟩
    · exfalso; omega

def sgm (m : zkM) (q : Int × Int) : zkM × Int × Int :=
  (mset (mset (mset m 45 0 0 (num m q).1) 45 0 1 (rsc (mset m 45 0 0 (num m q).1) (num m q).2).1) 45 0 2 (num (mset (mset m 45 0 0 (num m q).1) 45 0 1 (rsc (mset m 45 0 0 (num m q).1) (num m q).2).1) (rsc (mset m 45 0 0 (num m q).1) (num m q).2).2).1, (num (mset (mset m 45 0 0 (num m q).1) 45 0 1 (rsc (mset m 45 0 0 (num m q).1) (num m q).2).1) (rsc (mset m 45 0 0 (num m q).1) (num m q).2).2).2)
def rcm (m : zkM) (p : Int × Int) : Int × zkM × Int × Int :=
  if sgn m p.1 = 116 then (0, rdn 4 m (tks m [116, 97, 115, 107] p))
  else if sgn m p.1 = 114 then (2, rdn 2 m (tks m [114, 101, 113, 117, 101, 115, 116] p))
  else if sgn m p.1 = 112 then (4, mset m 45 0 0 (pol m (tks m [112, 111, 108, 105, 99, 121] p)).1, (pol m (tks m [112, 111, 108, 105, 99, 121] p)).2)
  else if (tks m [115, 101] p).2 = -1 ∧ sgn m (tks m [115, 101] p).1 = 103 then (3, sgm m (tks m [103, 109, 101, 110, 116] (tks m [115, 101] p)))
  else (1, rdn 3 m (tks m [114, 118, 101, 114] (tks m [115, 101] p)))
set_option maxRecDepth 10000 in
theorem tks2 (m : zkM) (p : Int × Int) : tks m [115, 101] p = tk m 101 (tk m 115 p) := rfl
set_option maxRecDepth 10000 in
theorem c_readCommand {l : Launch} {G : zkG} (hl : l.stackTraces = false) {m : zkM} {p : Int × Int} (hT : txA m) (hp : txP p) : zkCt l G i_Mo_readCommand 4 0 0 [vr 7 0] (zC m p) (zkR1 (vi (rcm m p).1) (zC (rcm m p).2.1 (rcm m p).2.2)) := by
  refine zkCt_of hl ok_Mo_readCommand (by decide +kernel) rfl rfl (List.forall_mem_cons.mpr ⟨rfl, fun _ h => nomatch h⟩) (Nat.le_of_ble_eq_true rfl) ?_
  have hs := sgn_b hT hp.1.1
  have hq : txP (tk m 101 (tk m 115 p)) := tks_b hT [115, 101] _ (by decide) hp
  have hs2 := sgn_b hT hq.1.1
  have q7 := tks_b hT [114, 101, 113, 117, 101, 115, 116] _ (by decide) hp
  obtain ⟨g1, g2⟩ := id hq
  refine m_aload_n rfl rfl rfl ?_
  refine m_cv1 rfl rfl lk_7_230 (c_sign hl hT hp.1) rfl (by first | decide | assumption | (simp only [cnt]; omega)) (Nat.le_of_ble_eq_true rfl) rfl rfl (Nat.le_of_ble_eq_true rfl) (Nat.le_of_ble_eq_true rfl) (Nat.le_of_ble_eq_true rfl) (Nat.le_of_ble_eq_true rfl) (Nat.le_of_ble_eq_true rfl) ?_
  refine m_istore_n rfl rfl (Nat.le_of_ble_eq_true rfl) rfl ?_
  refine m_iload_n rfl rfl rfl ?_
  refine m_bipush rfl rfl (by decide) ?_
  refine m_icmp_ne (tgt := 42) rfl rfl rfl (by omega) (by omega) (fun c8 => ?_) (fun c8 => ?_)
  · refine m_iload_n rfl rfl rfl ?_
    refine m_bipush rfl rfl (by decide) ?_
    refine m_icmp_ne (tgt := 73) rfl rfl rfl (by omega) (by omega) (fun c45 => ?_) (fun c45 => ?_)
    · refine m_iload_n rfl rfl rfl ?_
      refine m_bipush rfl rfl (by decide) ?_
      refine m_icmp_ne (tgt := 127) rfl rfl rfl (by omega) (by omega) (fun c76 => ?_) (fun c76 => ?_)
      · refine m_aload_n rfl rfl rfl ?_
        refine m_bipush rfl rfl (by decide) ?_
        refine m_cv0 rfl rfl lk_7_233 (c_take hl hT (by repeat (first | assumption | refine tk_b (by assumption) (by decide) ?_ | refine (num_b (by assumption) ?_).1)) (by omega)) rfl (by first | decide | assumption | (simp only [cnt]; omega)) (Nat.le_of_ble_eq_true rfl) rfl rfl (Nat.le_of_ble_eq_true rfl) (Nat.le_of_ble_eq_true rfl) (Nat.le_of_ble_eq_true rfl) (Nat.le_of_ble_eq_true rfl) (Nat.le_of_ble_eq_true rfl) ?_
        refine m_aload_n rfl rfl rfl ?_
        refine m_bipush rfl rfl (by decide) ?_
        refine m_cv0 rfl rfl lk_7_233 (c_take hl hT (by repeat (first | assumption | refine tk_b (by assumption) (by decide) ?_ | refine (num_b (by assumption) ?_).1)) (by omega)) rfl (by first | decide | assumption | (simp only [cnt]; omega)) (Nat.le_of_ble_eq_true rfl) rfl rfl (Nat.le_of_ble_eq_true rfl) (Nat.le_of_ble_eq_true rfl) (Nat.le_of_ble_eq_true rfl) (Nat.le_of_ble_eq_true rfl) (Nat.le_of_ble_eq_true rfl) ?_
        refine m_aload_n rfl rfl rfl ?_
        refine m_gix (k := 31) (x := (tk m 101 (tk m 115 p)).2) rfl rfl (Nat.le_of_ble_eq_true rfl) rfl rfl (by first | decide | assumption | (simp only [cnt]; omega)) rfl ?_
        refine m_iconst rfl rfl ?_
        refine m_icmp_ne (tgt := 218) rfl rfl rfl (by omega) (by omega) (fun c144 => ?_) (fun c144 => ?_)
        · refine m_aload_n rfl rfl rfl ?_
          refine m_bipush rfl rfl (by decide) ?_
          refine m_cv0 rfl rfl lk_7_233 (c_take hl hT (by repeat (first | assumption | refine tk_b (by assumption) (by decide) ?_ | refine (num_b (by assumption) ?_).1)) (by omega)) rfl (by first | decide | assumption | (simp only [cnt]; omega)) (Nat.le_of_ble_eq_true rfl) rfl rfl (Nat.le_of_ble_eq_true rfl) (Nat.le_of_ble_eq_true rfl) (Nat.le_of_ble_eq_true rfl) (Nat.le_of_ble_eq_true rfl) (Nat.le_of_ble_eq_true rfl) ?_
          refine m_aload_n rfl rfl rfl ?_
          refine m_bipush rfl rfl (by decide) ?_
          refine m_cv0 rfl rfl lk_7_233 (c_take hl hT (by repeat (first | assumption | refine tk_b (by assumption) (by decide) ?_ | refine (num_b (by assumption) ?_).1)) (by omega)) rfl (by first | decide | assumption | (simp only [cnt]; omega)) (Nat.le_of_ble_eq_true rfl) rfl rfl (Nat.le_of_ble_eq_true rfl) (Nat.le_of_ble_eq_true rfl) (Nat.le_of_ble_eq_true rfl) (Nat.le_of_ble_eq_true rfl) (Nat.le_of_ble_eq_true rfl) ?_
          refine m_aload_n rfl rfl rfl ?_
          refine m_bipush rfl rfl (by decide) ?_
          refine m_cv0 rfl rfl lk_7_233 (c_take hl hT (by repeat (first | assumption | refine tk_b (by assumption) (by decide) ?_ | refine (num_b (by assumption) ?_).1)) (by omega)) rfl (by first | decide | assumption | (simp only [cnt]; omega)) (Nat.le_of_ble_eq_true rfl) rfl rfl (Nat.le_of_ble_eq_true rfl) (Nat.le_of_ble_eq_true rfl) (Nat.le_of_ble_eq_true rfl) (Nat.le_of_ble_eq_true rfl) (Nat.le_of_ble_eq_true rfl) ?_
          refine m_aload_n rfl rfl rfl ?_
          refine m_bipush rfl rfl (by decide) ?_
          refine m_cv0 rfl rfl lk_7_233 (c_take hl hT (by repeat (first | assumption | refine tk_b (by assumption) (by decide) ?_ | refine (num_b (by assumption) ?_).1)) (by omega)) rfl (by first | decide | assumption | (simp only [cnt]; omega)) (Nat.le_of_ble_eq_true rfl) rfl rfl (Nat.le_of_ble_eq_true rfl) (Nat.le_of_ble_eq_true rfl) (Nat.le_of_ble_eq_true rfl) (Nat.le_of_ble_eq_true rfl) (Nat.le_of_ble_eq_true rfl) ?_
          refine m_aload_n rfl rfl rfl ?_
          refine m_iconst rfl rfl ?_
          refine m_cv0 rfl rfl lk_7_244 (c_readNumbers (n := 3) hl hT (by repeat (first | assumption | refine tk_b (by assumption) (by decide) ?_ | refine (num_b (by assumption) ?_).1)) rfl (by decide)) rfl (by first | decide | assumption | (simp only [cnt]; omega)) (Nat.le_of_ble_eq_true rfl) rfl rfl (Nat.le_of_ble_eq_true rfl) (Nat.le_of_ble_eq_true rfl) (Nat.le_of_ble_eq_true rfl) (Nat.le_of_ble_eq_true rfl) (Nat.le_of_ble_eq_true rfl) ?_
          refine m_iconst rfl rfl ?_
          refine m_iret rfl rfl rfl (Nat.le_of_ble_eq_true rfl) (Nat.le_of_ble_eq_true rfl) ?_
          unfold rcm
          rw [if_neg (by omega), if_neg (by omega), if_neg (by omega), if_neg (by rw [tks2]; omega)]
          exact ⟨rfl, rfl⟩
        · refine m_aload_n rfl rfl rfl ?_
          refine m_cv1 rfl rfl lk_7_230 (c_sign hl hT g1) rfl (by first | decide | assumption | (simp only [cnt]; omega)) (Nat.le_of_ble_eq_true rfl) rfl rfl (Nat.le_of_ble_eq_true rfl) (Nat.le_of_ble_eq_true rfl) (Nat.le_of_ble_eq_true rfl) (Nat.le_of_ble_eq_true rfl) (Nat.le_of_ble_eq_true rfl) ?_
          refine m_bipush rfl rfl (by decide) ?_
          refine m_icmp_ne (tgt := 218) rfl rfl rfl (by omega) (by omega) (fun c153 => ?_) (fun c153 => ?_)
          · refine m_aload_n rfl rfl rfl ?_
            refine m_bipush rfl rfl (by decide) ?_
            refine m_cv0 rfl rfl lk_7_233 (c_take hl hT (by repeat (first | assumption | refine tk_b (by assumption) (by decide) ?_ | refine (num_b (by assumption) ?_).1)) (by omega)) rfl (by first | decide | assumption | (simp only [cnt]; omega)) (Nat.le_of_ble_eq_true rfl) rfl rfl (Nat.le_of_ble_eq_true rfl) (Nat.le_of_ble_eq_true rfl) (Nat.le_of_ble_eq_true rfl) (Nat.le_of_ble_eq_true rfl) (Nat.le_of_ble_eq_true rfl) ?_
            refine m_aload_n rfl rfl rfl ?_
            refine m_bipush rfl rfl (by decide) ?_
            refine m_cv0 rfl rfl lk_7_233 (c_take hl hT (by repeat (first | assumption | refine tk_b (by assumption) (by decide) ?_ | refine (num_b (by assumption) ?_).1)) (by omega)) rfl (by first | decide | assumption | (simp only [cnt]; omega)) (Nat.le_of_ble_eq_true rfl) rfl rfl (Nat.le_of_ble_eq_true rfl) (Nat.le_of_ble_eq_true rfl) (Nat.le_of_ble_eq_true rfl) (Nat.le_of_ble_eq_true rfl) (Nat.le_of_ble_eq_true rfl) ?_
            refine m_aload_n rfl rfl rfl ?_
            refine m_bipush rfl rfl (by decide) ?_
            refine m_cv0 rfl rfl lk_7_233 (c_take hl hT (by repeat (first | assumption | refine tk_b (by assumption) (by decide) ?_ | refine (num_b (by assumption) ?_).1)) (by omega)) rfl (by first | decide | assumption | (simp only [cnt]; omega)) (Nat.le_of_ble_eq_true rfl) rfl rfl (Nat.le_of_ble_eq_true rfl) (Nat.le_of_ble_eq_true rfl) (Nat.le_of_ble_eq_true rfl) (Nat.le_of_ble_eq_true rfl) (Nat.le_of_ble_eq_true rfl) ?_
            refine m_aload_n rfl rfl rfl ?_
            refine m_bipush rfl rfl (by decide) ?_
            refine m_cv0 rfl rfl lk_7_233 (c_take hl hT (by repeat (first | assumption | refine tk_b (by assumption) (by decide) ?_ | refine (num_b (by assumption) ?_).1)) (by omega)) rfl (by first | decide | assumption | (simp only [cnt]; omega)) (Nat.le_of_ble_eq_true rfl) rfl rfl (Nat.le_of_ble_eq_true rfl) (Nat.le_of_ble_eq_true rfl) (Nat.le_of_ble_eq_true rfl) (Nat.le_of_ble_eq_true rfl) (Nat.le_of_ble_eq_true rfl) ?_
            refine m_aload_n rfl rfl rfl ?_
            refine m_iconst rfl rfl ?_
            refine m_cv0 rfl rfl lk_7_244 (c_readNumbers (n := 3) hl hT (by repeat (first | assumption | refine tk_b (by assumption) (by decide) ?_ | refine (num_b (by assumption) ?_).1)) rfl (by decide)) rfl (by first | decide | assumption | (simp only [cnt]; omega)) (Nat.le_of_ble_eq_true rfl) rfl rfl (Nat.le_of_ble_eq_true rfl) (Nat.le_of_ble_eq_true rfl) (Nat.le_of_ble_eq_true rfl) (Nat.le_of_ble_eq_true rfl) (Nat.le_of_ble_eq_true rfl) ?_
            refine m_iconst rfl rfl ?_
            refine m_iret rfl rfl rfl (Nat.le_of_ble_eq_true rfl) (Nat.le_of_ble_eq_true rfl) ?_
            unfold rcm
            rw [if_neg (by omega), if_neg (by omega), if_neg (by omega), if_neg (by rw [tks2]; omega)]
            exact ⟨rfl, rfl⟩
          · refine m_aload_n rfl rfl rfl ?_
            refine m_bipush rfl rfl (by decide) ?_
            refine m_cv0 rfl rfl lk_7_233 (c_take hl hT (by repeat (first | assumption | refine tk_b (by assumption) (by decide) ?_ | refine (num_b (by assumption) ?_).1)) (by omega)) rfl (by first | decide | assumption | (simp only [cnt]; omega)) (Nat.le_of_ble_eq_true rfl) rfl rfl (Nat.le_of_ble_eq_true rfl) (Nat.le_of_ble_eq_true rfl) (Nat.le_of_ble_eq_true rfl) (Nat.le_of_ble_eq_true rfl) (Nat.le_of_ble_eq_true rfl) ?_
            refine m_aload_n rfl rfl rfl ?_
            refine m_bipush rfl rfl (by decide) ?_
            refine m_cv0 rfl rfl lk_7_233 (c_take hl hT (by repeat (first | assumption | refine tk_b (by assumption) (by decide) ?_ | refine (num_b (by assumption) ?_).1)) (by omega)) rfl (by first | decide | assumption | (simp only [cnt]; omega)) (Nat.le_of_ble_eq_true rfl) rfl rfl (Nat.le_of_ble_eq_true rfl) (Nat.le_of_ble_eq_true rfl) (Nat.le_of_ble_eq_true rfl) (Nat.le_of_ble_eq_true rfl) (Nat.le_of_ble_eq_true rfl) ?_
            refine m_aload_n rfl rfl rfl ?_
            refine m_bipush rfl rfl (by decide) ?_
            refine m_cv0 rfl rfl lk_7_233 (c_take hl hT (by repeat (first | assumption | refine tk_b (by assumption) (by decide) ?_ | refine (num_b (by assumption) ?_).1)) (by omega)) rfl (by first | decide | assumption | (simp only [cnt]; omega)) (Nat.le_of_ble_eq_true rfl) rfl rfl (Nat.le_of_ble_eq_true rfl) (Nat.le_of_ble_eq_true rfl) (Nat.le_of_ble_eq_true rfl) (Nat.le_of_ble_eq_true rfl) (Nat.le_of_ble_eq_true rfl) ?_
            refine m_aload_n rfl rfl rfl ?_
            refine m_bipush rfl rfl (by decide) ?_
            refine m_cv0 rfl rfl lk_7_233 (c_take hl hT (by repeat (first | assumption | refine tk_b (by assumption) (by decide) ?_ | refine (num_b (by assumption) ?_).1)) (by omega)) rfl (by first | decide | assumption | (simp only [cnt]; omega)) (Nat.le_of_ble_eq_true rfl) rfl rfl (Nat.le_of_ble_eq_true rfl) (Nat.le_of_ble_eq_true rfl) (Nat.le_of_ble_eq_true rfl) (Nat.le_of_ble_eq_true rfl) (Nat.le_of_ble_eq_true rfl) ?_
            refine m_aload_n rfl rfl rfl ?_
            refine m_bipush rfl rfl (by decide) ?_
            refine m_cv0 rfl rfl lk_7_233 (c_take hl hT (by repeat (first | assumption | refine tk_b (by assumption) (by decide) ?_ | refine (num_b (by assumption) ?_).1)) (by omega)) rfl (by first | decide | assumption | (simp only [cnt]; omega)) (Nat.le_of_ble_eq_true rfl) rfl rfl (Nat.le_of_ble_eq_true rfl) (Nat.le_of_ble_eq_true rfl) (Nat.le_of_ble_eq_true rfl) (Nat.le_of_ble_eq_true rfl) (Nat.le_of_ble_eq_true rfl) ?_
            refine m_aload_n rfl rfl rfl ?_
            refine m_gr (k := 33) rfl rfl (Nat.le_of_ble_eq_true rfl) rfl rfl (by first | decide | assumption | (simp only [cnt]; omega)) ?_
            refine m_iconst rfl rfl ?_
            refine m_aload_n rfl rfl rfl ?_
            refine m_cv1 rfl rfl lk_7_237 (c_number hl hT (by repeat (first | assumption | refine tk_b (by assumption) (by decide) ?_ | refine (num_b (by assumption) ?_).1))) rfl (by first | decide | assumption | (simp only [cnt]; omega)) (Nat.le_of_ble_eq_true rfl) rfl rfl (Nat.le_of_ble_eq_true rfl) (Nat.le_of_ble_eq_true rfl) (Nat.le_of_ble_eq_true rfl) (Nat.le_of_ble_eq_true rfl) (Nat.le_of_ble_eq_true rfl) ?_
            refine m_iasn (n := 0) rfl rfl (Nat.le_of_ble_eq_true rfl) rfl (by first | decide | assumption | (simp only [cnt]; omega)) (by omega) (by simp only [aln]; omega) ?_
            rw [zC_o (by decide)]
            refine m_aload_n rfl rfl rfl ?_
            refine m_gr (k := 33) rfl rfl (Nat.le_of_ble_eq_true rfl) rfl rfl (by first | decide | assumption | (simp only [cnt]; omega)) ?_
            refine m_iconst rfl rfl ?_
            refine m_aload_n rfl rfl rfl ?_
            refine m_cv1 rfl rfl lk_7_250 (c_resource (m := mset m 45 0 0 _) hl hT (by repeat (first | assumption | refine tk_b (by assumption) (by decide) ?_ | refine (num_b (by assumption) ?_).1))) rfl (by first | decide | assumption | (simp only [cnt]; omega)) (Nat.le_of_ble_eq_true rfl) rfl rfl (Nat.le_of_ble_eq_true rfl) (Nat.le_of_ble_eq_true rfl) (Nat.le_of_ble_eq_true rfl) (Nat.le_of_ble_eq_true rfl) (Nat.le_of_ble_eq_true rfl) ?_
            refine m_iasn (n := 1) rfl rfl (Nat.le_of_ble_eq_true rfl) rfl (by first | decide | assumption | (simp only [cnt]; omega)) (by omega) (by simp only [aln]; omega) ?_
            rw [zC_o (by decide)]
            refine m_aload_n rfl rfl rfl ?_
            refine m_gr (k := 33) rfl rfl (Nat.le_of_ble_eq_true rfl) rfl rfl (by first | decide | assumption | (simp only [cnt]; omega)) ?_
            refine m_iconst rfl rfl ?_
            refine m_aload_n rfl rfl rfl ?_
            refine m_cv1 rfl rfl lk_7_237 (c_number (m := mset (mset m 45 0 0 _) 45 0 1 _) hl hT (rsc_b (m := mset m 45 0 0 _) hT (by repeat (first | assumption | refine tk_b (by assumption) (by decide) ?_ | refine (num_b (by assumption) ?_).1))).1) rfl (by first | decide | assumption | (simp only [cnt]; omega)) (Nat.le_of_ble_eq_true rfl) rfl rfl (Nat.le_of_ble_eq_true rfl) (Nat.le_of_ble_eq_true rfl) (Nat.le_of_ble_eq_true rfl) (Nat.le_of_ble_eq_true rfl) (Nat.le_of_ble_eq_true rfl) ?_
            refine m_iasn (n := 2) rfl rfl (Nat.le_of_ble_eq_true rfl) rfl (by first | decide | assumption | (simp only [cnt]; omega)) (by omega) (by simp only [aln]; omega) ?_
            refine m_iconst rfl rfl ?_
            refine m_iret rfl rfl rfl (Nat.le_of_ble_eq_true rfl) (Nat.le_of_ble_eq_true rfl) ?_
            rw [zC_o (by decide)]
            unfold rcm
            rw [if_neg (by omega), if_neg (by omega), if_neg (by omega), if_pos (by rw [tks2]; omega)]
            exact ⟨rfl, rfl⟩
      · refine m_aload_n rfl rfl rfl ?_
        refine m_bipush rfl rfl (by decide) ?_
        refine m_cv0 rfl rfl lk_7_233 (c_take hl hT (by repeat (first | assumption | refine tk_b (by assumption) (by decide) ?_ | refine (num_b (by assumption) ?_).1)) (by omega)) rfl (by first | decide | assumption | (simp only [cnt]; omega)) (Nat.le_of_ble_eq_true rfl) rfl rfl (Nat.le_of_ble_eq_true rfl) (Nat.le_of_ble_eq_true rfl) (Nat.le_of_ble_eq_true rfl) (Nat.le_of_ble_eq_true rfl) (Nat.le_of_ble_eq_true rfl) ?_
        refine m_aload_n rfl rfl rfl ?_
        refine m_bipush rfl rfl (by decide) ?_
        refine m_cv0 rfl rfl lk_7_233 (c_take hl hT (by repeat (first | assumption | refine tk_b (by assumption) (by decide) ?_ | refine (num_b (by assumption) ?_).1)) (by omega)) rfl (by first | decide | assumption | (simp only [cnt]; omega)) (Nat.le_of_ble_eq_true rfl) rfl rfl (Nat.le_of_ble_eq_true rfl) (Nat.le_of_ble_eq_true rfl) (Nat.le_of_ble_eq_true rfl) (Nat.le_of_ble_eq_true rfl) (Nat.le_of_ble_eq_true rfl) ?_
        refine m_aload_n rfl rfl rfl ?_
        refine m_bipush rfl rfl (by decide) ?_
        refine m_cv0 rfl rfl lk_7_233 (c_take hl hT (by repeat (first | assumption | refine tk_b (by assumption) (by decide) ?_ | refine (num_b (by assumption) ?_).1)) (by omega)) rfl (by first | decide | assumption | (simp only [cnt]; omega)) (Nat.le_of_ble_eq_true rfl) rfl rfl (Nat.le_of_ble_eq_true rfl) (Nat.le_of_ble_eq_true rfl) (Nat.le_of_ble_eq_true rfl) (Nat.le_of_ble_eq_true rfl) (Nat.le_of_ble_eq_true rfl) ?_
        refine m_aload_n rfl rfl rfl ?_
        refine m_bipush rfl rfl (by decide) ?_
        refine m_cv0 rfl rfl lk_7_233 (c_take hl hT (by repeat (first | assumption | refine tk_b (by assumption) (by decide) ?_ | refine (num_b (by assumption) ?_).1)) (by omega)) rfl (by first | decide | assumption | (simp only [cnt]; omega)) (Nat.le_of_ble_eq_true rfl) rfl rfl (Nat.le_of_ble_eq_true rfl) (Nat.le_of_ble_eq_true rfl) (Nat.le_of_ble_eq_true rfl) (Nat.le_of_ble_eq_true rfl) (Nat.le_of_ble_eq_true rfl) ?_
        refine m_aload_n rfl rfl rfl ?_
        refine m_bipush rfl rfl (by decide) ?_
        refine m_cv0 rfl rfl lk_7_233 (c_take hl hT (by repeat (first | assumption | refine tk_b (by assumption) (by decide) ?_ | refine (num_b (by assumption) ?_).1)) (by omega)) rfl (by first | decide | assumption | (simp only [cnt]; omega)) (Nat.le_of_ble_eq_true rfl) rfl rfl (Nat.le_of_ble_eq_true rfl) (Nat.le_of_ble_eq_true rfl) (Nat.le_of_ble_eq_true rfl) (Nat.le_of_ble_eq_true rfl) (Nat.le_of_ble_eq_true rfl) ?_
        refine m_aload_n rfl rfl rfl ?_
        refine m_bipush rfl rfl (by decide) ?_
        refine m_cv0 rfl rfl lk_7_233 (c_take hl hT (by repeat (first | assumption | refine tk_b (by assumption) (by decide) ?_ | refine (num_b (by assumption) ?_).1)) (by omega)) rfl (by first | decide | assumption | (simp only [cnt]; omega)) (Nat.le_of_ble_eq_true rfl) rfl rfl (Nat.le_of_ble_eq_true rfl) (Nat.le_of_ble_eq_true rfl) (Nat.le_of_ble_eq_true rfl) (Nat.le_of_ble_eq_true rfl) (Nat.le_of_ble_eq_true rfl) ?_
        refine m_aload_n rfl rfl rfl ?_
        refine m_gr (k := 33) rfl rfl (Nat.le_of_ble_eq_true rfl) rfl rfl (by first | decide | assumption | (simp only [cnt]; omega)) ?_
        refine m_iconst rfl rfl ?_
        refine m_aload_n rfl rfl rfl ?_
        refine m_cv1 rfl rfl lk_7_247 (c_policyName hl hT (by repeat (first | assumption | refine tk_b (by assumption) (by decide) ?_ | refine (num_b (by assumption) ?_).1))) rfl (by first | decide | assumption | (simp only [cnt]; omega)) (Nat.le_of_ble_eq_true rfl) rfl rfl (Nat.le_of_ble_eq_true rfl) (Nat.le_of_ble_eq_true rfl) (Nat.le_of_ble_eq_true rfl) (Nat.le_of_ble_eq_true rfl) (Nat.le_of_ble_eq_true rfl) ?_
        refine m_iasn (n := 0) rfl rfl (Nat.le_of_ble_eq_true rfl) rfl (by first | decide | assumption | (simp only [cnt]; omega)) (by omega) (by simp only [aln]; omega) ?_
        refine m_iconst rfl rfl ?_
        refine m_iret rfl rfl rfl (Nat.le_of_ble_eq_true rfl) (Nat.le_of_ble_eq_true rfl) ?_
        unfold rcm
        rw [if_neg (by omega), if_neg (by omega), if_pos (by omega)]
        exact ⟨rfl, zC_o (by decide) _ _ _ _ _⟩
    · refine m_aload_n rfl rfl rfl ?_
      refine m_bipush rfl rfl (by decide) ?_
      refine m_bipush rfl rfl (by decide) ?_
      refine m_bipush rfl rfl (by decide) ?_
      refine m_bipush rfl rfl (by decide) ?_
      refine m_bipush rfl rfl (by decide) ?_
      refine m_bipush rfl rfl (by decide) ?_
      refine m_bipush rfl rfl (by decide) ?_
      refine m_cv0 rfl rfl lk_7_240 (c_takeAll hl hT (by repeat (first | assumption | refine tk_b (by assumption) (by decide) ?_ | refine (num_b (by assumption) ?_).1)) (by omega) (by omega) (by omega) (by omega) (by omega) (by omega) (by omega)) rfl (by first | decide | assumption | (simp only [cnt]; omega)) (Nat.le_of_ble_eq_true rfl) rfl rfl (Nat.le_of_ble_eq_true rfl) (Nat.le_of_ble_eq_true rfl) (Nat.le_of_ble_eq_true rfl) (Nat.le_of_ble_eq_true rfl) (Nat.le_of_ble_eq_true rfl) ?_
      refine m_aload_n rfl rfl rfl ?_
      refine m_iconst rfl rfl ?_
      refine m_cv0 rfl rfl lk_7_244 (c_readNumbers (n := 2) hl hT (by repeat (first | assumption | refine tk_b (by assumption) (by decide) ?_ | refine (num_b (by assumption) ?_).1)) rfl (by decide)) rfl (by first | decide | assumption | (simp only [cnt]; omega)) (Nat.le_of_ble_eq_true rfl) rfl rfl (Nat.le_of_ble_eq_true rfl) (Nat.le_of_ble_eq_true rfl) (Nat.le_of_ble_eq_true rfl) (Nat.le_of_ble_eq_true rfl) (Nat.le_of_ble_eq_true rfl) ?_
      refine m_iconst rfl rfl ?_
      refine m_iret rfl rfl rfl (Nat.le_of_ble_eq_true rfl) (Nat.le_of_ble_eq_true rfl) ?_
      unfold rcm
      rw [if_neg (by omega), if_pos (by omega)]
      exact ⟨rfl, rfl⟩
  · refine m_aload_n rfl rfl rfl ?_
    refine m_bipush rfl rfl (by decide) ?_
    refine m_cv0 rfl rfl lk_7_233 (c_take hl hT (by repeat (first | assumption | refine tk_b (by assumption) (by decide) ?_ | refine (num_b (by assumption) ?_).1)) (by omega)) rfl (by first | decide | assumption | (simp only [cnt]; omega)) (Nat.le_of_ble_eq_true rfl) rfl rfl (Nat.le_of_ble_eq_true rfl) (Nat.le_of_ble_eq_true rfl) (Nat.le_of_ble_eq_true rfl) (Nat.le_of_ble_eq_true rfl) (Nat.le_of_ble_eq_true rfl) ?_
    refine m_aload_n rfl rfl rfl ?_
    refine m_bipush rfl rfl (by decide) ?_
    refine m_cv0 rfl rfl lk_7_233 (c_take hl hT (by repeat (first | assumption | refine tk_b (by assumption) (by decide) ?_ | refine (num_b (by assumption) ?_).1)) (by omega)) rfl (by first | decide | assumption | (simp only [cnt]; omega)) (Nat.le_of_ble_eq_true rfl) rfl rfl (Nat.le_of_ble_eq_true rfl) (Nat.le_of_ble_eq_true rfl) (Nat.le_of_ble_eq_true rfl) (Nat.le_of_ble_eq_true rfl) (Nat.le_of_ble_eq_true rfl) ?_
    refine m_aload_n rfl rfl rfl ?_
    refine m_bipush rfl rfl (by decide) ?_
    refine m_cv0 rfl rfl lk_7_233 (c_take hl hT (by repeat (first | assumption | refine tk_b (by assumption) (by decide) ?_ | refine (num_b (by assumption) ?_).1)) (by omega)) rfl (by first | decide | assumption | (simp only [cnt]; omega)) (Nat.le_of_ble_eq_true rfl) rfl rfl (Nat.le_of_ble_eq_true rfl) (Nat.le_of_ble_eq_true rfl) (Nat.le_of_ble_eq_true rfl) (Nat.le_of_ble_eq_true rfl) (Nat.le_of_ble_eq_true rfl) ?_
    refine m_aload_n rfl rfl rfl ?_
    refine m_bipush rfl rfl (by decide) ?_
    refine m_cv0 rfl rfl lk_7_233 (c_take hl hT (by repeat (first | assumption | refine tk_b (by assumption) (by decide) ?_ | refine (num_b (by assumption) ?_).1)) (by omega)) rfl (by first | decide | assumption | (simp only [cnt]; omega)) (Nat.le_of_ble_eq_true rfl) rfl rfl (Nat.le_of_ble_eq_true rfl) (Nat.le_of_ble_eq_true rfl) (Nat.le_of_ble_eq_true rfl) (Nat.le_of_ble_eq_true rfl) (Nat.le_of_ble_eq_true rfl) ?_
    refine m_aload_n rfl rfl rfl ?_
    refine m_iconst rfl rfl ?_
    refine m_cv0 rfl rfl lk_7_244 (c_readNumbers (n := 4) hl hT (by repeat (first | assumption | refine tk_b (by assumption) (by decide) ?_ | refine (num_b (by assumption) ?_).1)) rfl (by decide)) rfl (by first | decide | assumption | (simp only [cnt]; omega)) (Nat.le_of_ble_eq_true rfl) rfl rfl (Nat.le_of_ble_eq_true rfl) (Nat.le_of_ble_eq_true rfl) (Nat.le_of_ble_eq_true rfl) (Nat.le_of_ble_eq_true rfl) (Nat.le_of_ble_eq_true rfl) ?_
    refine m_iconst rfl rfl ?_
    refine m_iret rfl rfl rfl (Nat.le_of_ble_eq_true rfl) (Nat.le_of_ble_eq_true rfl) ?_
    unfold rcm
    rw [if_pos (by omega)]
    exact ⟨rfl, rfl⟩

