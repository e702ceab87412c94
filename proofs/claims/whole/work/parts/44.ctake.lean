/-! takeForm, perform, configure -/
theorem rdFf_I (j : Nat) : ∀ (r p : Nat) (m : zkM) (a : Int), rdI m → (0 ≤ a ∧ a ≤ 60) → rdI (rdFf j r p m a).1 ∧ (0 ≤ (rdFf j r p m a).2.1 ∧ (rdFf j r p m a).2.1 ≤ 60)
  | 0, _, m, a, hI, ha => ⟨hI, ha⟩
  | r + 1, p, m, a, hI, ha => by
    rw [rdFf_s]
    have n1 := rdNb_I hI ha
    have n2 := rdSg_b hI ha (c := zkCh j p)
    have hs : rdI (rdSt j p m a).2 ∧ (0 ≤ (rdSt j p m a).1 ∧ (rdSt j p m a).1 ≤ 60) := by
      unfold rdSt
      split
      · exact ⟨n1.1, by omega⟩
      · exact ⟨hI, by dsimp only; omega⟩
    split
    · exact rdFf_I j r (p + 1) _ _ hs.1 hs.2
    · exact hs
theorem rdFit_I {m : zkM} (hI : rdI m) (j : Nat) : rdI (rdFit m j).2 ∧ ((rdFit m j).1 = 0 ∨ (rdFit m j).1 = 1) := by
  have hI2 : rdI (mset m 2 0 3 0) := ⟨hI.1, by rw [ms_s]; omega, hI.2.2⟩
  have h := rdFf_I j (zkLn.getD j 0) 0 (mset m 2 0 3 0) 0 hI2 (by omega)
  change rdI (rdFR m j).1 ∧ (0 ≤ (rdFR m j).2.1 ∧ (rdFR m j).2.1 ≤ 60) at h
  refine ⟨⟨h.1.1, h.1.2.1, ?_⟩, ?_⟩
  · show 0 ≤ mset (rdFR m j).1 2 0 4 (max ((rdFR m j).1 2 0 4) (rdFR m j).2.1) 2 0 4 ∧ mset (rdFR m j).1 2 0 4 (max ((rdFR m j).1 2 0 4) (rdFR m j).2.1) 2 0 4 ≤ 60
    rw [ms_s]
    have := h.1.2.2
    omega
  · unfold rdFit
    dsimp only
    cases decide ((rdFR m j).2.2 = 1 ∧ (rdFR m j).2.1 = (rdFR m j).1 2 0 2) <;> simp [b2i]
def rdTf : Nat → Nat → zkM → Int × zkM
  | 0, _, m => (-1, m)
  | r + 1, k, m => if (rdFit m k).1 = 0 then rdTf r (k + 1) (rdFit m k).2 else ((k : Int), (rdFit m k).2)
theorem rdTf_s (r k : Nat) (m : zkM) : rdTf (r + 1) k m = if (rdFit m k).1 = 0 then rdTf r (k + 1) (rdFit m k).2 else ((k : Int), (rdFit m k).2) := rfl
def rdTR (m : zkM) : Int × zkM := rdTf 8 0 (mset m 2 0 4 0)
def rdTk (m : zkM) : Int × zkM := ((rdTR m).1, mset (rdTR m).2 2 0 2 0)
set_option maxRecDepth 10000 in
theorem w_takeE {l : Launch} {G : zkG} {mem m : zkM} {f k : Int} (hl : l.stackTraces = false) (hf : 0 ≤ f ∧ f ≤ 8) (hk : 0 ≤ k ∧ k ≤ 9) (hR : rdTR mem = (f, m)) : zkW l G i_Rd_takeForm (zkKm G 5 0 0 (zkR1 (vi (rdTk mem).1) (rdTk mem).2)) 0 0 9 [some (vr 2 0), some (vi f), some (vi k)] [] m := by
  refine m_iload_n rfl rfl rfl ?_
  refine m_bipush rfl rfl (by decide) ?_
  refine m_icmp_ge (tgt := 39) rfl rfl rfl (by omega) (by omega) (fun c12 => ?_) (fun c12 => ?_)
  · refine m_aload_n rfl rfl rfl ?_
    refine m_iconst rfl rfl ?_
    refine m_pi (k := 2) rfl rfl (Nat.le_of_ble_eq_true rfl) rfl rfl rfl rfl (by first | decide | assumption | (simp only [cnt]; omega)) ?_
    refine m_iload_n rfl rfl rfl ?_
    refine m_iret rfl rfl rfl (Nat.le_of_ble_eq_true rfl) (Nat.le_of_ble_eq_true rfl) ?_
    unfold rdTk
    rw [hR]
    exact ⟨rfl, rfl⟩
  · refine m_iload_n rfl rfl rfl ?_
    refine m_iconst rfl rfl ?_
    refine m_icmp_ne (tgt := 39) rfl rfl rfl (by omega) (by omega) (fun c17 => ?_) (fun c17 => ?_)
    · refine m_aload_n rfl rfl rfl ?_
      refine m_iconst rfl rfl ?_
      refine m_pi (k := 2) rfl rfl (Nat.le_of_ble_eq_true rfl) rfl rfl rfl rfl (by first | decide | assumption | (simp only [cnt]; omega)) ?_
      refine m_iload_n rfl rfl rfl ?_
      refine m_iret rfl rfl rfl (Nat.le_of_ble_eq_true rfl) (Nat.le_of_ble_eq_true rfl) ?_
      unfold rdTk
      rw [hR]
      exact ⟨rfl, rfl⟩
    · exfalso; omega

set_option maxRecDepth 10000 in
theorem w_take {l : Launch} {G : zkG} {mem : zkM} (hl : l.stackTraces = false) : ∀ (r k : Nat) (m : zkM), k + r = 8 → rdI m → rdTR mem = rdTf r k m → zkW l G i_Rd_takeForm (zkKm G 5 0 0 (zkR1 (vi (rdTk mem).1) (rdTk mem).2)) 0 0 9 [some (vr 2 0), some (vi (-1)), some (vi k)] [] m := by
  intro r
  induction r with
  | zero =>
    intro k m hk hI hR
    refine m_iload_n rfl rfl rfl ?_
    refine m_bipush rfl rfl (by decide) ?_
    refine m_icmp_ge (tgt := 39) rfl rfl rfl (by omega) (by omega) (fun c12 => ?_) (fun c12 => ?_)
    · refine m_aload_n rfl rfl rfl ?_
      refine m_iconst rfl rfl ?_
      refine m_pi (k := 2) rfl rfl (Nat.le_of_ble_eq_true rfl) rfl rfl rfl rfl (by first | decide | assumption | (simp only [cnt]; omega)) ?_
      refine m_iload_n rfl rfl rfl ?_
      refine m_iret rfl rfl rfl (Nat.le_of_ble_eq_true rfl) (Nat.le_of_ble_eq_true rfl) ?_
      unfold rdTk
      rw [hR]
      exact ⟨rfl, rfl⟩
    · exfalso; omega
  | succ r ih =>
    intro k m hk hI hR
    have hF := rdFit_I hI k
    rw [rdTf_s] at hR
    refine m_iload_n rfl rfl rfl ?_
    refine m_bipush rfl rfl (by decide) ?_
    refine m_icmp_ge (tgt := 39) rfl rfl rfl (by omega) (by omega) (fun c12 => ?_) (fun c12 => ?_)
    · exfalso; omega
    · refine m_iload_n rfl rfl rfl ?_
      refine m_iconst rfl rfl ?_
      refine m_icmp_ne (tgt := 39) rfl rfl rfl (by omega) (by omega) (fun c17 => ?_) (fun c17 => ?_)
      · exfalso; omega
      · refine m_aload_n rfl rfl rfl ?_
        refine m_iload_n rfl rfl rfl ?_
        refine m_cs1 rfl rfl lk_2_37 (c_rdPat (j := k) hl (by omega) rfl) rfl rfl (Nat.le_of_ble_eq_true rfl) (Nat.le_of_ble_eq_true rfl) (Nat.le_of_ble_eq_true rfl) (Nat.le_of_ble_eq_true rfl) (Nat.le_of_ble_eq_true rfl) ?_
        refine m_cv1 rfl rfl lk_2_41 (c_rdFit (j := k) hl (by omega) hI) rfl (by first | decide | assumption | (simp only [cnt]; omega)) (Nat.le_of_ble_eq_true rfl) rfl rfl (Nat.le_of_ble_eq_true rfl) (Nat.le_of_ble_eq_true rfl) (Nat.le_of_ble_eq_true rfl) (Nat.le_of_ble_eq_true rfl) (Nat.le_of_ble_eq_true rfl) ?_
        refine m_if_eq (tgt := 33) rfl rfl rfl (by omega) (fun c28 => ?_) (fun c28 => ?_)
        · refine m_iinc rfl rfl rfl (Nat.le_of_ble_eq_true rfl) rfl ?_
          refine m_goto (tgt := 9) rfl rfl rfl ?_
          first
            | (rw [if_pos (by omega)] at hR; exact ih (k + 1) _ (by omega) hF.1 hR)
            | (rw [if_neg (by omega)] at hR; exact w_takeE hl (by omega) (by omega) hR)
        · refine m_iload_n rfl rfl rfl ?_
          refine m_istore_n rfl rfl (Nat.le_of_ble_eq_true rfl) rfl ?_
          refine m_iinc rfl rfl rfl (Nat.le_of_ble_eq_true rfl) rfl ?_
          refine m_goto (tgt := 9) rfl rfl rfl ?_
          first
            | (rw [if_pos (by omega)] at hR; exact ih (k + 1) _ (by omega) hF.1 hR)
            | (rw [if_neg (by omega)] at hR; exact w_takeE hl (by omega) (by omega) hR)

set_option maxRecDepth 10000 in
theorem c_rdTk {l : Launch} {G : zkG} {mem : zkM} (hl : l.stackTraces = false) (hI : rdI mem) : zkCt l G i_Rd_takeForm 5 0 0 [vr 2 0] mem (zkR1 (vi (rdTk mem).1) (rdTk mem).2) := by
  refine zkCt_of hl ok_Rd_takeForm (by decide +kernel) rfl rfl (List.forall_mem_cons.mpr ⟨rfl, fun _ h => nomatch h⟩) (Nat.le_of_ble_eq_true rfl) ?_
  refine m_iconst rfl rfl ?_
  refine m_istore_n rfl rfl (Nat.le_of_ble_eq_true rfl) rfl ?_
  refine m_aload_n rfl rfl rfl ?_
  refine m_iconst rfl rfl ?_
  refine m_pi (k := 4) rfl rfl (Nat.le_of_ble_eq_true rfl) rfl rfl rfl rfl (by first | decide | assumption | (simp only [cnt]; omega)) ?_
  refine m_iconst rfl rfl ?_
  refine m_istore_n rfl rfl (Nat.le_of_ble_eq_true rfl) rfl ?_
  have hI2 : rdI (mset mem 2 0 4 0) := ⟨hI.1, hI.2.1, by rw [ms_s]; omega⟩
  exact w_take hl 8 0 (mset mem 2 0 4 0) (by omega) hI2 rfl

theorem rdTf_b : ∀ (r k : Nat) (m : zkM), k + r = 8 → -1 ≤ (rdTf r k m).1 ∧ (rdTf r k m).1 ≤ 7
  | 0, _, _, _ => by unfold rdTf; dsimp only; omega
  | r + 1, k, m, h => by
    rw [rdTf_s]
    split
    · exact rdTf_b r (k + 1) _ (by omega)
    · dsimp only; omega
def cfP (m : zkM) : Prop := (0 ≤ m 0 0 5 ∧ m 0 0 5 ≤ 5) ∧ inR (m 0 0 7) ∧ (∀ i, i < 5 → inR (m 5 i 4)) ∧ (m 4 0 3 = 0 ∨ m 4 0 3 = 1) ∧ inR (m 4 0 4) ∧ (∀ i, i < 5 → 0 ≤ m 5 i 8 ∧ m 5 i 8 ≤ 6) ∧ (∀ k, k < 4 → inR (m 17 0 k)) ∧ (0 ≤ m 3 0 4 ∧ m 3 0 4 ≤ 12) ∧ (0 ≤ m 2 0 3 ∧ m 2 0 3 ≤ 4) ∧ ∀ k, k < 4 → inR (m 24 0 k)
theorem rdNum_b {m : zkM} (h3 : 0 ≤ m 2 0 3 ∧ m 2 0 3 ≤ 4) (h : ∀ k, k < 4 → inR (m 24 0 k)) (x : Int) : inR (rdNum m x) := by
  unfold rdNum
  split
  · exact h _ (by omega)
  · omega
def caPf (m : zkM) (f : Int) : Int × zkM :=
  if f = 0 then bePt m (rdNum m 0) (rdNum m 1) (rdNum m 2) (rdNum m 3)
  else if f = 1 then bePv m (rdNum m 0) (rdNum m 1) (rdNum m 2)
  else if f = 2 then bePq m (rdNum m 0) (rdNum m 1)
  else if f = 3 then bePg m (rdNum m 0) (rdNum m 1) (rdNum m 2)
  else if f = 4 then bePg m (rdNum m 0) (-1) (rdNum m 1)
  else bePp m (f - 5)
set_option maxRecDepth 10000 in
theorem c_caPf {l : Launch} {G : zkG} {mem : zkM} (hl : l.stackTraces = false) {f : Int} (hC : cfP mem) (hf : 0 ≤ f ∧ f ≤ 7) : zkCt l G i_Cw_perform 5 0 0 [vr 6 0, vi f] mem (zkR1 (vi (caPf mem f).1) (caPf mem f).2) := by
  refine zkCt_of hl ok_Cw_perform (by decide +kernel) rfl rfl (List.forall_mem_cons.mpr ⟨rfl, (List.forall_mem_cons.mpr ⟨rfl, fun _ h => nomatch h⟩)⟩) (Nat.le_of_ble_eq_true rfl) ?_
  obtain ⟨h5, h7, hq, h3, h44, h8, h17, h4, r3, r24⟩ := hC
  have n0 := rdNum_b r3 r24 0
  have n1 := rdNum_b r3 r24 1
  have n2 := rdNum_b r3 r24 2
  have n3 := rdNum_b r3 r24 3
  refine m_aload_n rfl rfl rfl ?_
  refine m_gr (k := 2) rfl rfl (Nat.le_of_ble_eq_true rfl) rfl rfl (by first | decide | assumption | (simp only [cnt]; omega)) ?_
  refine m_iconst rfl rfl ?_
  refine m_cv1 rfl rfl lk_6_246 (c_rdNum hl r3 (by omega)) rfl (by first | decide | assumption | (simp only [cnt]; omega)) (Nat.le_of_ble_eq_true rfl) rfl rfl (Nat.le_of_ble_eq_true rfl) (Nat.le_of_ble_eq_true rfl) (Nat.le_of_ble_eq_true rfl) (Nat.le_of_ble_eq_true rfl) (Nat.le_of_ble_eq_true rfl) ?_
  refine m_istore_n rfl rfl (Nat.le_of_ble_eq_true rfl) rfl ?_
  refine m_aload_n rfl rfl rfl ?_
  refine m_gr (k := 2) rfl rfl (Nat.le_of_ble_eq_true rfl) rfl rfl (by first | decide | assumption | (simp only [cnt]; omega)) ?_
  refine m_iconst rfl rfl ?_
  refine m_cv1 rfl rfl lk_6_246 (c_rdNum hl r3 (by omega)) rfl (by first | decide | assumption | (simp only [cnt]; omega)) (Nat.le_of_ble_eq_true rfl) rfl rfl (Nat.le_of_ble_eq_true rfl) (Nat.le_of_ble_eq_true rfl) (Nat.le_of_ble_eq_true rfl) (Nat.le_of_ble_eq_true rfl) (Nat.le_of_ble_eq_true rfl) ?_
  refine m_istore_n rfl rfl (Nat.le_of_ble_eq_true rfl) rfl ?_
  refine m_aload_n rfl rfl rfl ?_
  refine m_gr (k := 2) rfl rfl (Nat.le_of_ble_eq_true rfl) rfl rfl (by first | decide | assumption | (simp only [cnt]; omega)) ?_
  refine m_iconst rfl rfl ?_
  refine m_cv1 rfl rfl lk_6_246 (c_rdNum hl r3 (by omega)) rfl (by first | decide | assumption | (simp only [cnt]; omega)) (Nat.le_of_ble_eq_true rfl) rfl rfl (Nat.le_of_ble_eq_true rfl) (Nat.le_of_ble_eq_true rfl) (Nat.le_of_ble_eq_true rfl) (Nat.le_of_ble_eq_true rfl) (Nat.le_of_ble_eq_true rfl) ?_
  refine m_istore rfl rfl (Nat.le_of_ble_eq_true rfl) rfl ?_
  refine m_iload_n rfl rfl rfl ?_
  rcases (show f = 0 ∨ f = 1 ∨ f = 2 ∨ f = 3 ∨ f = 4 ∨ (f < 0 ∨ 4 < f) by omega) with c29 | c29 | c29 | c29 | c29 | c29
  · refine m_swIn (off := 35) (tgt := 64) (len := 35) rfl rfl (by omega) (by omega) (by omega) (by rw [c29]; rfl) rfl ?_
    refine m_aload_n rfl rfl rfl ?_
    refine m_gr (k := 0) rfl rfl (Nat.le_of_ble_eq_true rfl) rfl rfl (by first | decide | assumption | (simp only [cnt]; omega)) ?_
    refine m_iload_n rfl rfl rfl ?_
    refine m_iload_n rfl rfl rfl ?_
    refine m_iload rfl rfl rfl ?_
    refine m_aload_n rfl rfl rfl ?_
    refine m_gr (k := 2) rfl rfl (Nat.le_of_ble_eq_true rfl) rfl rfl (by first | decide | assumption | (simp only [cnt]; omega)) ?_
    refine m_iconst rfl rfl ?_
    refine m_cv1 rfl rfl lk_6_246 (c_rdNum hl r3 (by omega)) rfl (by first | decide | assumption | (simp only [cnt]; omega)) (Nat.le_of_ble_eq_true rfl) rfl rfl (Nat.le_of_ble_eq_true rfl) (Nat.le_of_ble_eq_true rfl) (Nat.le_of_ble_eq_true rfl) (Nat.le_of_ble_eq_true rfl) (Nat.le_of_ble_eq_true rfl) ?_
    refine m_cv1 rfl rfl lk_6_34 (c_bePut hl h5 n0 n1 n2 n3 hq h7 h3 h44) rfl (by first | decide | assumption | (simp only [cnt]; omega)) (Nat.le_of_ble_eq_true rfl) rfl rfl (Nat.le_of_ble_eq_true rfl) (Nat.le_of_ble_eq_true rfl) (Nat.le_of_ble_eq_true rfl) (Nat.le_of_ble_eq_true rfl) (Nat.le_of_ble_eq_true rfl) ?_
    refine m_iret rfl rfl rfl (Nat.le_of_ble_eq_true rfl) (Nat.le_of_ble_eq_true rfl) ?_
    unfold caPf
    first | (rw [if_pos (by omega)]; exact ⟨rfl, rfl⟩) | (rw [if_neg (by omega), if_pos (by omega)]; exact ⟨rfl, rfl⟩) | (rw [if_neg (by omega), if_neg (by omega), if_pos (by omega)]; exact ⟨rfl, rfl⟩) | (rw [if_neg (by omega), if_neg (by omega), if_neg (by omega), if_pos (by omega)]; exact ⟨rfl, rfl⟩) | (rw [if_neg (by omega), if_neg (by omega), if_neg (by omega), if_neg (by omega), if_pos (by omega)]; exact ⟨rfl, rfl⟩) | (rw [if_neg (by omega), if_neg (by omega), if_neg (by omega), if_neg (by omega), if_neg (by omega)]; exact ⟨rfl, rfl⟩)
  · refine m_swIn (off := 55) (tgt := 84) (len := 35) rfl rfl (by omega) (by omega) (by omega) (by rw [c29]; rfl) rfl ?_
    refine m_aload_n rfl rfl rfl ?_
    refine m_gr (k := 0) rfl rfl (Nat.le_of_ble_eq_true rfl) rfl rfl (by first | decide | assumption | (simp only [cnt]; omega)) ?_
    refine m_iload_n rfl rfl rfl ?_
    refine m_iload_n rfl rfl rfl ?_
    refine m_iload rfl rfl rfl ?_
    refine m_cv1 rfl rfl lk_6_46 (c_bePutV hl h5 n0 n1 n2 hq h7 h3) rfl (by first | decide | assumption | (simp only [cnt]; omega)) (Nat.le_of_ble_eq_true rfl) rfl rfl (Nat.le_of_ble_eq_true rfl) (Nat.le_of_ble_eq_true rfl) (Nat.le_of_ble_eq_true rfl) (Nat.le_of_ble_eq_true rfl) (Nat.le_of_ble_eq_true rfl) ?_
    refine m_iret rfl rfl rfl (Nat.le_of_ble_eq_true rfl) (Nat.le_of_ble_eq_true rfl) ?_
    unfold caPf
    first | (rw [if_pos (by omega)]; exact ⟨rfl, rfl⟩) | (rw [if_neg (by omega), if_pos (by omega)]; exact ⟨rfl, rfl⟩) | (rw [if_neg (by omega), if_neg (by omega), if_pos (by omega)]; exact ⟨rfl, rfl⟩) | (rw [if_neg (by omega), if_neg (by omega), if_neg (by omega), if_pos (by omega)]; exact ⟨rfl, rfl⟩) | (rw [if_neg (by omega), if_neg (by omega), if_neg (by omega), if_neg (by omega), if_pos (by omega)]; exact ⟨rfl, rfl⟩) | (rw [if_neg (by omega), if_neg (by omega), if_neg (by omega), if_neg (by omega), if_neg (by omega)]; exact ⟨rfl, rfl⟩)
  · refine m_swIn (off := 67) (tgt := 96) (len := 35) rfl rfl (by omega) (by omega) (by omega) (by rw [c29]; rfl) rfl ?_
    refine m_aload_n rfl rfl rfl ?_
    refine m_gr (k := 0) rfl rfl (Nat.le_of_ble_eq_true rfl) rfl rfl (by first | decide | assumption | (simp only [cnt]; omega)) ?_
    refine m_iload_n rfl rfl rfl ?_
    refine m_iload_n rfl rfl rfl ?_
    refine m_cv1 rfl rfl lk_6_49 (c_bePutQ hl n0 n1 h7 h4) rfl (by first | decide | assumption | (simp only [cnt]; omega)) (Nat.le_of_ble_eq_true rfl) rfl rfl (Nat.le_of_ble_eq_true rfl) (Nat.le_of_ble_eq_true rfl) (Nat.le_of_ble_eq_true rfl) (Nat.le_of_ble_eq_true rfl) (Nat.le_of_ble_eq_true rfl) ?_
    refine m_iret rfl rfl rfl (Nat.le_of_ble_eq_true rfl) (Nat.le_of_ble_eq_true rfl) ?_
    unfold caPf
    first | (rw [if_pos (by omega)]; exact ⟨rfl, rfl⟩) | (rw [if_neg (by omega), if_pos (by omega)]; exact ⟨rfl, rfl⟩) | (rw [if_neg (by omega), if_neg (by omega), if_pos (by omega)]; exact ⟨rfl, rfl⟩) | (rw [if_neg (by omega), if_neg (by omega), if_neg (by omega), if_pos (by omega)]; exact ⟨rfl, rfl⟩) | (rw [if_neg (by omega), if_neg (by omega), if_neg (by omega), if_neg (by omega), if_pos (by omega)]; exact ⟨rfl, rfl⟩) | (rw [if_neg (by omega), if_neg (by omega), if_neg (by omega), if_neg (by omega), if_neg (by omega)]; exact ⟨rfl, rfl⟩)
  · refine m_swIn (off := 77) (tgt := 106) (len := 35) rfl rfl (by omega) (by omega) (by omega) (by rw [c29]; rfl) rfl ?_
    refine m_aload_n rfl rfl rfl ?_
    refine m_gr (k := 0) rfl rfl (Nat.le_of_ble_eq_true rfl) rfl rfl (by first | decide | assumption | (simp only [cnt]; omega)) ?_
    refine m_iload_n rfl rfl rfl ?_
    refine m_iload_n rfl rfl rfl ?_
    refine m_iload rfl rfl rfl ?_
    refine m_cv1 rfl rfl lk_6_42 (c_bePutS hl h5 n0 n1 n2 h7 h8 h17 hq) rfl (by first | decide | assumption | (simp only [cnt]; omega)) (Nat.le_of_ble_eq_true rfl) rfl rfl (Nat.le_of_ble_eq_true rfl) (Nat.le_of_ble_eq_true rfl) (Nat.le_of_ble_eq_true rfl) (Nat.le_of_ble_eq_true rfl) (Nat.le_of_ble_eq_true rfl) ?_
    refine m_iret rfl rfl rfl (Nat.le_of_ble_eq_true rfl) (Nat.le_of_ble_eq_true rfl) ?_
    unfold caPf
    first | (rw [if_pos (by omega)]; exact ⟨rfl, rfl⟩) | (rw [if_neg (by omega), if_pos (by omega)]; exact ⟨rfl, rfl⟩) | (rw [if_neg (by omega), if_neg (by omega), if_pos (by omega)]; exact ⟨rfl, rfl⟩) | (rw [if_neg (by omega), if_neg (by omega), if_neg (by omega), if_pos (by omega)]; exact ⟨rfl, rfl⟩) | (rw [if_neg (by omega), if_neg (by omega), if_neg (by omega), if_neg (by omega), if_pos (by omega)]; exact ⟨rfl, rfl⟩) | (rw [if_neg (by omega), if_neg (by omega), if_neg (by omega), if_neg (by omega), if_neg (by omega)]; exact ⟨rfl, rfl⟩)
  · refine m_swIn (off := 89) (tgt := 118) (len := 35) rfl rfl (by omega) (by omega) (by omega) (by rw [c29]; rfl) rfl ?_
    refine m_aload_n rfl rfl rfl ?_
    refine m_gr (k := 0) rfl rfl (Nat.le_of_ble_eq_true rfl) rfl rfl (by first | decide | assumption | (simp only [cnt]; omega)) ?_
    refine m_iload_n rfl rfl rfl ?_
    refine m_iconst rfl rfl ?_
    refine m_iload_n rfl rfl rfl ?_
    refine m_cv1 rfl rfl lk_6_42 (c_bePutS hl h5 n0 (by omega) n1 h7 h8 h17 hq) rfl (by first | decide | assumption | (simp only [cnt]; omega)) (Nat.le_of_ble_eq_true rfl) rfl rfl (Nat.le_of_ble_eq_true rfl) (Nat.le_of_ble_eq_true rfl) (Nat.le_of_ble_eq_true rfl) (Nat.le_of_ble_eq_true rfl) (Nat.le_of_ble_eq_true rfl) ?_
    refine m_iret rfl rfl rfl (Nat.le_of_ble_eq_true rfl) (Nat.le_of_ble_eq_true rfl) ?_
    unfold caPf
    first | (rw [if_pos (by omega)]; exact ⟨rfl, rfl⟩) | (rw [if_neg (by omega), if_pos (by omega)]; exact ⟨rfl, rfl⟩) | (rw [if_neg (by omega), if_neg (by omega), if_pos (by omega)]; exact ⟨rfl, rfl⟩) | (rw [if_neg (by omega), if_neg (by omega), if_neg (by omega), if_pos (by omega)]; exact ⟨rfl, rfl⟩) | (rw [if_neg (by omega), if_neg (by omega), if_neg (by omega), if_neg (by omega), if_pos (by omega)]; exact ⟨rfl, rfl⟩) | (rw [if_neg (by omega), if_neg (by omega), if_neg (by omega), if_neg (by omega), if_neg (by omega)]; exact ⟨rfl, rfl⟩)
  · refine m_swOut (tgt := 129) (len := 35) rfl rfl (by omega) (by omega) rfl ?_
    refine m_aload_n rfl rfl rfl ?_
    refine m_gr (k := 0) rfl rfl (Nat.le_of_ble_eq_true rfl) rfl rfl (by first | decide | assumption | (simp only [cnt]; omega)) ?_
    refine m_iload_n rfl rfl rfl ?_
    refine m_iconst rfl rfl ?_
    refine m_isub rfl rfl ?_
    refine m_cv1 rfl rfl lk_6_53 (c_bePutP hl (by omega)) rfl (by first | decide | assumption | (simp only [cnt]; omega)) (Nat.le_of_ble_eq_true rfl) rfl rfl (Nat.le_of_ble_eq_true rfl) (Nat.le_of_ble_eq_true rfl) (Nat.le_of_ble_eq_true rfl) (Nat.le_of_ble_eq_true rfl) (Nat.le_of_ble_eq_true rfl) ?_
    refine m_iret rfl rfl rfl (Nat.le_of_ble_eq_true rfl) (Nat.le_of_ble_eq_true rfl) ?_
    unfold caPf
    first | (rw [if_pos (by omega)]; exact ⟨rfl, rfl⟩) | (rw [if_neg (by omega), if_pos (by omega)]; exact ⟨rfl, rfl⟩) | (rw [if_neg (by omega), if_neg (by omega), if_pos (by omega)]; exact ⟨rfl, rfl⟩) | (rw [if_neg (by omega), if_neg (by omega), if_neg (by omega), if_pos (by omega)]; exact ⟨rfl, rfl⟩) | (rw [if_neg (by omega), if_neg (by omega), if_neg (by omega), if_neg (by omega), if_pos (by omega)]; exact ⟨rfl, rfl⟩) | (rw [if_neg (by omega), if_neg (by omega), if_neg (by omega), if_neg (by omega), if_neg (by omega)]; exact ⟨rfl, rfl⟩)

def caCfg (m : zkM) : zkO × zkM :=
  if (rdTk m).1 = -1 then (Sum.inr xIA, mset (rdTk m).2 6 0 4 ((rdTk m).2 2 0 4))
  else if (caPf (rdTk m).2 (rdTk m).1).1 < 0 then (Sum.inr xIS, (caPf (rdTk m).2 (rdTk m).1).2)
  else (Sum.inl (some (vi (caPf (rdTk m).2 (rdTk m).1).1)), (caPf (rdTk m).2 (rdTk m).1).2)
set_option maxRecDepth 10000 in
theorem c_caCfg {l : Launch} {G : zkG} {mem : zkM} (hl : l.stackTraces = false) (hI : rdI mem) (hC : cfP (rdTk mem).2) (hb : inR (caPf (rdTk mem).2 (rdTk mem).1).1) : zkCt l G i_Cw_configure 9 1 6 [vr 6 0] mem (zkRf (caCfg mem).1 (caCfg mem).2) := by
  refine zkCt_of hl ok_Cw_configure (by decide +kernel) rfl rfl (List.forall_mem_cons.mpr ⟨rfl, fun _ h => nomatch h⟩) (Nat.le_of_ble_eq_true rfl) ?_
  have ht := rdTf_b 8 0 (mset mem 2 0 4 0) (by omega)
  change -1 ≤ (rdTk mem).1 ∧ (rdTk mem).1 ≤ 7 at ht
  refine m_aload_n rfl rfl rfl ?_
  refine m_gr (k := 2) rfl rfl (Nat.le_of_ble_eq_true rfl) rfl rfl (by first | decide | assumption | (simp only [cnt]; omega)) ?_
  refine m_cv1 rfl rfl lk_6_80 (c_rdTk hl hI) rfl (by first | decide | assumption | (simp only [cnt]; omega)) (Nat.le_of_ble_eq_true rfl) rfl rfl (Nat.le_of_ble_eq_true rfl) (Nat.le_of_ble_eq_true rfl) (Nat.le_of_ble_eq_true rfl) (Nat.le_of_ble_eq_true rfl) (Nat.le_of_ble_eq_true rfl) ?_
  refine m_istore_n rfl rfl (Nat.le_of_ble_eq_true rfl) rfl ?_
  refine m_iload_n rfl rfl rfl ?_
  refine m_iconst rfl rfl ?_
  refine m_icmp_ne (tgt := 34) rfl rfl rfl (by omega) (by omega) (fun c10 => ?_) (fun c10 => ?_)
  · refine m_aload_n rfl rfl rfl ?_
    refine m_iload_n rfl rfl rfl ?_
    refine m_cv1 rfl rfl lk_6_88 (c_caPf hl hC (by omega)) rfl (by first | decide | assumption | (simp only [cnt]; omega)) (Nat.le_of_ble_eq_true rfl) rfl rfl (Nat.le_of_ble_eq_true rfl) (Nat.le_of_ble_eq_true rfl) (Nat.le_of_ble_eq_true rfl) (Nat.le_of_ble_eq_true rfl) (Nat.le_of_ble_eq_true rfl) ?_
    refine m_istore_n rfl rfl (Nat.le_of_ble_eq_true rfl) rfl ?_
    refine m_iload_n rfl rfl rfl ?_
    refine m_if_ge (tgt := 54) rfl rfl rfl (by omega) (fun c41 => ?_) (fun c41 => ?_)
    · refine m_iload_n rfl rfl rfl ?_
      refine m_iret rfl rfl rfl (Nat.le_of_ble_eq_true rfl) (Nat.le_of_ble_eq_true rfl) ?_
      unfold caCfg
      first | (rw [if_pos (by omega)]; exact ⟨rfl, rfl⟩) | (rw [if_neg (by omega), if_pos (by omega)]; exact ⟨rfl, rfl⟩) | (rw [if_neg (by omega), if_neg (by omega)]; exact ⟨rfl, rfl⟩)
    · refine m_throw rfl rfl rfl rfl rfl rfl rfl rfl rfl rfl rfl rfl (List.mem_of_getElem? (i := 2) rfl) (List.mem_of_getElem? (i := 7) rfl) (Nat.le_of_ble_eq_true rfl) (Nat.le_of_ble_eq_true rfl) (Nat.le_of_ble_eq_true rfl) (Nat.le_of_ble_eq_true rfl) ?_
      unfold caCfg
      first | (rw [if_pos (by omega)]; exact ⟨rfl, rfl⟩) | (rw [if_neg (by omega), if_pos (by omega)]; exact ⟨rfl, rfl⟩) | (rw [if_neg (by omega), if_neg (by omega)]; exact ⟨rfl, rfl⟩)
  · refine m_aload_n rfl rfl rfl ?_
    refine m_aload_n rfl rfl rfl ?_
    refine m_gr (k := 2) rfl rfl (Nat.le_of_ble_eq_true rfl) rfl rfl (by first | decide | assumption | (simp only [cnt]; omega)) ?_
    refine m_gix (k := 4) (x := (rdTk mem).2 2 _ 4) rfl rfl (Nat.le_of_ble_eq_true rfl) rfl rfl (by first | decide | assumption | (simp only [cnt]; omega)) (by first | rfl | ((repeat (first | rw [ms_s] | rw [ms_t (by decide)] | rw [ms_k (by decide)])) <;> rfl)) ?_
    refine m_pi (k := 4) rfl rfl (Nat.le_of_ble_eq_true rfl) rfl rfl rfl rfl (by first | decide | assumption | (simp only [cnt]; omega)) ?_
    refine m_throw rfl rfl rfl rfl rfl rfl rfl rfl rfl rfl rfl rfl (List.mem_of_getElem? (i := 1) rfl) (List.mem_of_getElem? (i := 6) rfl) (Nat.le_of_ble_eq_true rfl) (Nat.le_of_ble_eq_true rfl) (Nat.le_of_ble_eq_true rfl) (Nat.le_of_ble_eq_true rfl) ?_
    unfold caCfg
    first | (rw [if_pos (by omega)]; exact ⟨rfl, rfl⟩) | (rw [if_neg (by omega), if_pos (by omega)]; exact ⟨rfl, rfl⟩) | (rw [if_neg (by omega), if_neg (by omega)]; exact ⟨rfl, rfl⟩)

