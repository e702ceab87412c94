/-! the reader: patterns -/
section ZLDC
variable {l : Launch} {G : zkG} {i : zkI} {K : zkK} {cu su pc nx : Nat} {ls : List (Option zkV)} {st : List zkV} {mem : zkM}
theorem m_ldcS {is j : Nat} {tx : String} (hd : (iT i).lookup pc = some (.ldc is, nx)) (hn : nx = pc + 2) (ho : iO i = 2) (hs : (RX3, is, tx, j) ∈ zkPt) (kk : zkW l G i K cu su nx ls (vr 60 j :: st) mem) : zkW l G i K cu su pc ls st mem := by
  intro p e s m args below meth c C H locs a hP hS hl
  subst hn
  have hq := kk p e s m args below meth c C H locs a hP hS hl
  obtain ⟨hx, hb, -, hml, hown, hts, hF, -⟩ := id C
  rw [ho] at hown
  exact va_ldcS (own := RX3) hx hb hown (hF.2.2.2.2.2.2.1 _ hs) (zkC_dec C hd rfl) hq
end ZLDC
set_option maxRecDepth 10000 in
theorem c_rdPat {l : Launch} {G : zkG} {mem : zkM} (hl : l.stackTraces = false) {j : Nat} {x : Int} (hj : j < 8) (hx : x = j) : zkCt l G i_Rd_patternOf 0 0 0 [vi x] mem (zkR1 (vr 60 j) mem) := by
  refine zkCt_of hl ok_Rd_patternOf (by decide +kernel) rfl rfl (List.forall_mem_cons.mpr ⟨rfl, fun _ h => nomatch h⟩) (Nat.le_of_ble_eq_true rfl) ?_
  refine m_iload_n rfl rfl rfl ?_
  rcases (show x = 0 ∨ x = 1 ∨ x = 2 ∨ x = 3 ∨ x = 4 ∨ x = 5 ∨ x = 6 ∨ x = 7 ∨ (x < 0 ∨ 7 < x) by omega) with c1 | c1 | c1 | c1 | c1 | c1 | c1 | c1 | c1
  · refine m_swIn (off := 47) (tgt := 48) (len := 47) rfl rfl (by omega) (by omega) (by omega) (by rw [c1]; rfl) rfl ?_
    refine m_ldcS (j := 0) rfl rfl rfl (List.mem_of_getElem? (i := 0) rfl) ?_
    refine m_aret rfl rfl rfl (Nat.le_of_ble_eq_true rfl) (Nat.le_of_ble_eq_true rfl) ?_
    obtain rfl : j = 0 := by omega
    exact ⟨rfl, rfl⟩
  · refine m_swIn (off := 50) (tgt := 51) (len := 47) rfl rfl (by omega) (by omega) (by omega) (by rw [c1]; rfl) rfl ?_
    refine m_ldcS (j := 1) rfl rfl rfl (List.mem_of_getElem? (i := 1) rfl) ?_
    refine m_aret rfl rfl rfl (Nat.le_of_ble_eq_true rfl) (Nat.le_of_ble_eq_true rfl) ?_
    obtain rfl : j = 1 := by omega
    exact ⟨rfl, rfl⟩
  · refine m_swIn (off := 53) (tgt := 54) (len := 47) rfl rfl (by omega) (by omega) (by omega) (by rw [c1]; rfl) rfl ?_
    refine m_ldcS (j := 2) rfl rfl rfl (List.mem_of_getElem? (i := 2) rfl) ?_
    refine m_aret rfl rfl rfl (Nat.le_of_ble_eq_true rfl) (Nat.le_of_ble_eq_true rfl) ?_
    obtain rfl : j = 2 := by omega
    exact ⟨rfl, rfl⟩
  · refine m_swIn (off := 56) (tgt := 57) (len := 47) rfl rfl (by omega) (by omega) (by omega) (by rw [c1]; rfl) rfl ?_
    refine m_ldcS (j := 3) rfl rfl rfl (List.mem_of_getElem? (i := 3) rfl) ?_
    refine m_aret rfl rfl rfl (Nat.le_of_ble_eq_true rfl) (Nat.le_of_ble_eq_true rfl) ?_
    obtain rfl : j = 3 := by omega
    exact ⟨rfl, rfl⟩
  · refine m_swIn (off := 59) (tgt := 60) (len := 47) rfl rfl (by omega) (by omega) (by omega) (by rw [c1]; rfl) rfl ?_
    refine m_ldcS (j := 4) rfl rfl rfl (List.mem_of_getElem? (i := 4) rfl) ?_
    refine m_aret rfl rfl rfl (Nat.le_of_ble_eq_true rfl) (Nat.le_of_ble_eq_true rfl) ?_
    obtain rfl : j = 4 := by omega
    exact ⟨rfl, rfl⟩
  · refine m_swIn (off := 62) (tgt := 63) (len := 47) rfl rfl (by omega) (by omega) (by omega) (by rw [c1]; rfl) rfl ?_
    refine m_ldcS (j := 5) rfl rfl rfl (List.mem_of_getElem? (i := 5) rfl) ?_
    refine m_aret rfl rfl rfl (Nat.le_of_ble_eq_true rfl) (Nat.le_of_ble_eq_true rfl) ?_
    obtain rfl : j = 5 := by omega
    exact ⟨rfl, rfl⟩
  · refine m_swIn (off := 65) (tgt := 66) (len := 47) rfl rfl (by omega) (by omega) (by omega) (by rw [c1]; rfl) rfl ?_
    refine m_ldcS (j := 6) rfl rfl rfl (List.mem_of_getElem? (i := 6) rfl) ?_
    refine m_aret rfl rfl rfl (Nat.le_of_ble_eq_true rfl) (Nat.le_of_ble_eq_true rfl) ?_
    obtain rfl : j = 6 := by omega
    exact ⟨rfl, rfl⟩
  · refine m_swIn (off := 68) (tgt := 69) (len := 47) rfl rfl (by omega) (by omega) (by omega) (by rw [c1]; rfl) rfl ?_
    refine m_ldcS (j := 7) rfl rfl rfl (List.mem_of_getElem? (i := 7) rfl) ?_
    refine m_aret rfl rfl rfl (Nat.le_of_ble_eq_true rfl) (Nat.le_of_ble_eq_true rfl) ?_
    obtain rfl : j = 7 := by omega
    exact ⟨rfl, rfl⟩
  · exfalso; omega

def rdSt (j p : Nat) (m : zkM) (a : Int) : Int × zkM := if zkCh j p = 35 then rdNb m a else (rdSg m a (zkCh j p), m)
def rdFf (j : Nat) : Nat → Nat → zkM → Int → zkM × Int × Int
  | 0, _, m, a => (m, a, 1)
  | r + 1, p, m, a => if a < (rdSt j p m a).1 then rdFf j r (p + 1) (rdSt j p m a).2 (rdSt j p m a).1 else ((rdSt j p m a).2, (rdSt j p m a).1, 0)
theorem rdFf_s (j r p : Nat) (m : zkM) (a : Int) : rdFf j (r + 1) p m a = if a < (rdSt j p m a).1 then rdFf j r (p + 1) (rdSt j p m a).2 (rdSt j p m a).1 else ((rdSt j p m a).2, (rdSt j p m a).1, 0) := rfl
def rdFR (m : zkM) (j : Nat) : zkM × Int × Int := rdFf j (zkLn.getD j 0) 0 (mset m 2 0 3 0) 0
def rdFit (m : zkM) (j : Nat) : Int × zkM := (b2i (decide ((rdFR m j).2.2 = 1 ∧ (rdFR m j).2.1 = (rdFR m j).1 2 0 2)), mset (rdFR m j).1 2 0 4 (max ((rdFR m j).1 2 0 4) (rdFR m j).2.1))
def rdI (m : zkM) : Prop := rdA m ∧ (0 ≤ m 2 0 3 ∧ m 2 0 3 ≤ 4) ∧ (0 ≤ m 2 0 4 ∧ m 2 0 4 ≤ 60)
theorem rdNb_I {m : zkM} (h : rdI m) {a : Int} (ha : 0 ≤ a ∧ a ≤ 60) : rdI (rdNb m a).2 ∧ a ≤ (rdNb m a).1 ∧ (rdNb m a).1 ≤ 60 := by
  obtain ⟨h1, h2, h3⟩ := h
  have hd := rdDf_b h1 3 a 0 0 (by omega) (by omega) ha (by omega) (by omega) (by omega) (by omega)
  unfold rdNb
  split
  · refine ⟨⟨h1, ?_, h3⟩, hd.1⟩
    dsimp only
    rw [ms_s]
    omega
  · exact ⟨⟨h1, h2, h3⟩, hd.1⟩
theorem rdSg_b {m : zkM} (h : rdI m) {a c : Int} (ha : 0 ≤ a ∧ a ≤ 60) : a ≤ rdSg m a c ∧ rdSg m a c ≤ 60 := by
  have := h.1.1
  unfold rdSg
  split <;> omega
set_option maxRecDepth 10000 in
theorem w_fitE {l : Launch} {G : zkG} {mem : zkM} {j : Nat} (hl : l.stackTraces = false) (hj : j < 9) {m : zkM} {a g q : Int} {o5 : Option zkV} (hI : rdI m) (ha : 0 ≤ a ∧ a ≤ 60) (hg : g = 0 ∨ g = 1) (hR : rdFR mem j = (m, a, g)) : zkW l G i_Rd_fits (zkKm G 4 0 0 (zkR1 (vi (rdFit mem j).1) (rdFit mem j).2)) 0 0 78 [some (vr 2 0), some (vr 60 j), some (vi a), some (vi g), some (vi q), o5] [] m := by
  have h1 := hI.1.1
  have h3 := hI.2.2
  refine m_aload_n rfl rfl rfl ?_
  refine m_aload_n rfl rfl rfl ?_
  refine m_gix (k := 4) (x := m 2 _ 4) rfl rfl (Nat.le_of_ble_eq_true rfl) rfl rfl (by first | decide | assumption | (simp only [cnt]; omega)) (by first | rfl | ((repeat (first | rw [ms_s] | rw [ms_t (by decide)] | rw [ms_k (by decide)])) <;> rfl)) ?_
  refine m_iload_n rfl rfl rfl ?_
  refine m_max rfl rfl (by decide +kernel) (by omega) (by omega) (Nat.le_of_ble_eq_true rfl) (Nat.le_of_ble_eq_true rfl) (Nat.le_of_ble_eq_true rfl) (Nat.le_of_ble_eq_true rfl) ?_
  refine m_pi (k := 4) rfl rfl (Nat.le_of_ble_eq_true rfl) rfl rfl rfl rfl (by first | decide | assumption | (simp only [cnt]; omega)) ?_
  refine m_iload_n rfl rfl rfl ?_
  refine m_if_eq (tgt := 106) rfl rfl rfl (by omega) (fun c91 => ?_) (fun c91 => ?_)
  · refine m_iconst rfl rfl ?_
    refine m_z0 rfl rfl rfl (Nat.le_of_ble_eq_true rfl) (Nat.le_of_ble_eq_true rfl) ?_
    unfold rdFit
    rw [hR]
    first | (rw [decide_eq_true (by dsimp only; omega)]; exact ⟨rfl, rfl⟩) | (rw [decide_eq_false (by dsimp only; omega)]; exact ⟨rfl, rfl⟩)
  · refine m_iload_n rfl rfl rfl ?_
    refine m_aload_n rfl rfl rfl ?_
    refine m_gix (k := 2) (x := m 2 _ 2) rfl rfl (Nat.le_of_ble_eq_true rfl) rfl rfl (by first | decide | assumption | (simp only [cnt]; omega)) (by first | rfl | ((repeat (first | rw [ms_s] | rw [ms_t (by decide)] | rw [ms_k (by decide)])) <;> rfl)) ?_
    refine m_icmp_ne (tgt := 106) rfl rfl rfl (by omega) (by omega) (fun c99 => ?_) (fun c99 => ?_)
    · refine m_iconst rfl rfl ?_
      refine m_z0 rfl rfl rfl (Nat.le_of_ble_eq_true rfl) (Nat.le_of_ble_eq_true rfl) ?_
      unfold rdFit
      rw [hR]
      first | (rw [decide_eq_true (by dsimp only; omega)]; exact ⟨rfl, rfl⟩) | (rw [decide_eq_false (by dsimp only; omega)]; exact ⟨rfl, rfl⟩)
    · refine m_iconst rfl rfl ?_
      refine m_goto (tgt := 107) rfl rfl rfl ?_
      refine m_z1 rfl rfl rfl (Nat.le_of_ble_eq_true rfl) (Nat.le_of_ble_eq_true rfl) ?_
      unfold rdFit
      rw [hR]
      first | (rw [decide_eq_true (by dsimp only; omega)]; exact ⟨rfl, rfl⟩) | (rw [decide_eq_false (by dsimp only; omega)]; exact ⟨rfl, rfl⟩)

set_option maxRecDepth 10000 in
theorem w_fit0 {l : Launch} {G : zkG} {mem : zkM} {j : Nat} (hl : l.stackTraces = false) (hj : j < 9) {m : zkM} {a q : Int} {o5 : Option zkV} (hI : rdI m) (ha : 0 ≤ a ∧ a ≤ 60) (hq : 0 ≤ q ∧ q ≤ 100) (hR : rdFR mem j = (m, a, 0)) : zkW l G i_Rd_fits (zkKm G 4 0 0 (zkR1 (vi (rdFit mem j).1) (rdFit mem j).2)) 0 0 12 [some (vr 2 0), some (vr 60 j), some (vi a), some (vi 0), some (vi q), o5] [] m := by
  have t1 := (ch_tab j hj).2.2
  refine m_iload rfl rfl rfl ?_
  refine m_aload_n rfl rfl rfl ?_
  refine m_cvs1 rfl rfl lk_2_63 (c_strLen hl hj) rfl hj rfl rfl (Nat.le_of_ble_eq_true rfl) (Nat.le_of_ble_eq_true rfl) (Nat.le_of_ble_eq_true rfl) (Nat.le_of_ble_eq_true rfl) (Nat.le_of_ble_eq_true rfl) ?_
  refine m_icmp_ge (tgt := 78) rfl rfl rfl (by omega) (by omega) (fun c18 => ?_) (fun c18 => ?_)
  · exact w_fitE hl hj hI ha (Or.inl rfl) hR
  · refine m_iload_n rfl rfl rfl ?_
    refine m_if_eq (tgt := 78) rfl rfl rfl (by omega) (fun c22 => ?_) (fun c22 => ?_)
    · exact w_fitE hl hj hI ha (Or.inl rfl) hR
    · exfalso; omega

set_option maxRecDepth 10000 in
theorem w_fits {l : Launch} {G : zkG} {mem : zkM} {j : Nat} (hl : l.stackTraces = false) (hj : j < 9) : ∀ (r p : Nat) (m : zkM) (a : Int) (o5 : Option zkV), p + r = zkLn.getD j 0 → rdI m → (0 ≤ a ∧ a ≤ 60) → rdFR mem j = rdFf j r p m a → zkW l G i_Rd_fits (zkKm G 4 0 0 (zkR1 (vi (rdFit mem j).1) (rdFit mem j).2)) 0 0 12 [some (vr 2 0), some (vr 60 j), some (vi a), some (vi 1), some (vi p), o5] [] m := by
  have t1 := (ch_tab j hj).2.2
  intro r
  induction r with
  | zero =>
    intro p m a o5 hp hI ha hR
    refine m_iload rfl rfl rfl ?_
    refine m_aload_n rfl rfl rfl ?_
    refine m_cvs1 rfl rfl lk_2_63 (c_strLen hl hj) rfl hj rfl rfl (Nat.le_of_ble_eq_true rfl) (Nat.le_of_ble_eq_true rfl) (Nat.le_of_ble_eq_true rfl) (Nat.le_of_ble_eq_true rfl) (Nat.le_of_ble_eq_true rfl) ?_
    refine m_icmp_ge (tgt := 78) rfl rfl rfl (by omega) (by omega) (fun c18 => ?_) (fun c18 => ?_)
    · exact w_fitE hl hj hI ha (Or.inr rfl) hR
    · exfalso; omega
  | succ r ih =>
    intro p m a o5 hp hI ha hR
    have tc := (ch_tab2 j hj p (by omega)).2.2.2.2.2
    have n1 := rdNb_I hI ha
    have n2 := rdSg_b hI ha (c := zkCh j p)
    rw [rdFf_s] at hR
    refine m_iload rfl rfl rfl ?_
    refine m_aload_n rfl rfl rfl ?_
    refine m_cvs1 rfl rfl lk_2_63 (c_strLen hl hj) rfl hj rfl rfl (Nat.le_of_ble_eq_true rfl) (Nat.le_of_ble_eq_true rfl) (Nat.le_of_ble_eq_true rfl) (Nat.le_of_ble_eq_true rfl) (Nat.le_of_ble_eq_true rfl) ?_
    refine m_icmp_ge (tgt := 78) rfl rfl rfl (by omega) (by omega) (fun c18 => ?_) (fun c18 => ?_)
    · exfalso; omega
    · refine m_iload_n rfl rfl rfl ?_
      refine m_if_eq (tgt := 78) rfl rfl rfl (by omega) (fun c22 => ?_) (fun c22 => ?_)
      · exfalso; omega
      · refine m_aload_n rfl rfl rfl ?_
        refine m_iload rfl rfl rfl ?_
        refine m_cvs1 rfl rfl lk_2_68 (c_strAt (n := p) hl hj rfl (by omega)) rfl hj rfl rfl (Nat.le_of_ble_eq_true rfl) (Nat.le_of_ble_eq_true rfl) (Nat.le_of_ble_eq_true rfl) (Nat.le_of_ble_eq_true rfl) (Nat.le_of_ble_eq_true rfl) ?_
        refine m_bipush rfl rfl (by decide) ?_
        refine m_icmp_ne (tgt := 44) rfl rfl rfl (by omega) (by omega) (fun c33 => ?_) (fun c33 => ?_)
        · have es : rdSt j p m a = (rdSg m a (zkCh j p), m) := by unfold rdSt; rw [if_neg (by omega)]
          rw [es] at hR
          refine m_aload_n rfl rfl rfl ?_
          refine m_iload_n rfl rfl rfl ?_
          refine m_aload_n rfl rfl rfl ?_
          refine m_iload rfl rfl rfl ?_
          refine m_cvs1 rfl rfl lk_2_68 (c_strAt (n := p) hl hj rfl (by omega)) rfl hj rfl rfl (Nat.le_of_ble_eq_true rfl) (Nat.le_of_ble_eq_true rfl) (Nat.le_of_ble_eq_true rfl) (Nat.le_of_ble_eq_true rfl) (Nat.le_of_ble_eq_true rfl) ?_
          refine m_cv1 rfl rfl lk_2_76 (c_rdSg hl hI.1 ha (by omega)) rfl (by first | decide | assumption | (simp only [cnt]; omega)) (Nat.le_of_ble_eq_true rfl) rfl rfl (Nat.le_of_ble_eq_true rfl) (Nat.le_of_ble_eq_true rfl) (Nat.le_of_ble_eq_true rfl) (Nat.le_of_ble_eq_true rfl) (Nat.le_of_ble_eq_true rfl) ?_
          refine m_istore rfl rfl (Nat.le_of_ble_eq_true rfl) rfl ?_
          refine m_iload rfl rfl rfl ?_
          refine m_iload_n rfl rfl rfl ?_
          refine m_icmp_le (tgt := 67) rfl rfl rfl (by omega) (by omega) (fun c60 => ?_) (fun c60 => ?_)
          · refine m_iconst rfl rfl ?_
            refine m_istore_n rfl rfl (Nat.le_of_ble_eq_true rfl) rfl ?_
            refine m_iload rfl rfl rfl ?_
            refine m_istore_n rfl rfl (Nat.le_of_ble_eq_true rfl) rfl ?_
            refine m_iinc rfl rfl rfl (Nat.le_of_ble_eq_true rfl) rfl ?_
            refine m_goto (tgt := 12) rfl rfl rfl ?_
            first
              | (rw [if_pos (by first | omega | (dsimp only; omega))] at hR; exact ih (p + 1) _ _ _ (by omega) (by first | exact hI | exact n1.1) (by first | omega | (dsimp only; omega)) hR)
              | (rw [if_neg (by first | omega | (dsimp only; omega))] at hR; exact w_fit0 hl hj (by first | exact hI | exact n1.1) (by omega) (by omega) hR)
          · refine m_iconst rfl rfl ?_
            refine m_goto (tgt := 68) rfl rfl rfl ?_
            refine m_istore_n rfl rfl (Nat.le_of_ble_eq_true rfl) rfl ?_
            refine m_iload rfl rfl rfl ?_
            refine m_istore_n rfl rfl (Nat.le_of_ble_eq_true rfl) rfl ?_
            refine m_iinc rfl rfl rfl (Nat.le_of_ble_eq_true rfl) rfl ?_
            refine m_goto (tgt := 12) rfl rfl rfl ?_
            first
              | (rw [if_pos (by first | omega | (dsimp only; omega))] at hR; exact ih (p + 1) _ _ _ (by omega) (by first | exact hI | exact n1.1) (by first | omega | (dsimp only; omega)) hR)
              | (rw [if_neg (by first | omega | (dsimp only; omega))] at hR; exact w_fit0 hl hj (by first | exact hI | exact n1.1) (by omega) (by omega) hR)
        · have es : rdSt j p m a = rdNb m a := by unfold rdSt; rw [if_pos (by omega)]
          rw [es] at hR
          refine m_aload_n rfl rfl rfl ?_
          refine m_iload_n rfl rfl rfl ?_
          refine m_cv1 rfl rfl lk_2_72 (c_rdNb hl hI.1 hI.2.1 ha) rfl (by first | decide | assumption | (simp only [cnt]; omega)) (Nat.le_of_ble_eq_true rfl) rfl rfl (Nat.le_of_ble_eq_true rfl) (Nat.le_of_ble_eq_true rfl) (Nat.le_of_ble_eq_true rfl) (Nat.le_of_ble_eq_true rfl) (Nat.le_of_ble_eq_true rfl) ?_
          refine m_goto (tgt := 55) rfl rfl rfl ?_
          refine m_istore rfl rfl (Nat.le_of_ble_eq_true rfl) rfl ?_
          refine m_iload rfl rfl rfl ?_
          refine m_iload_n rfl rfl rfl ?_
          refine m_icmp_le (tgt := 67) rfl rfl rfl (by omega) (by omega) (fun c60 => ?_) (fun c60 => ?_)
          · refine m_iconst rfl rfl ?_
            refine m_istore_n rfl rfl (Nat.le_of_ble_eq_true rfl) rfl ?_
            refine m_iload rfl rfl rfl ?_
            refine m_istore_n rfl rfl (Nat.le_of_ble_eq_true rfl) rfl ?_
            refine m_iinc rfl rfl rfl (Nat.le_of_ble_eq_true rfl) rfl ?_
            refine m_goto (tgt := 12) rfl rfl rfl ?_
            first
              | (rw [if_pos (by first | omega | (dsimp only; omega))] at hR; exact ih (p + 1) _ _ _ (by omega) (by first | exact hI | exact n1.1) (by first | omega | (dsimp only; omega)) hR)
              | (rw [if_neg (by first | omega | (dsimp only; omega))] at hR; exact w_fit0 hl hj (by first | exact hI | exact n1.1) (by omega) (by omega) hR)
          · refine m_iconst rfl rfl ?_
            refine m_goto (tgt := 68) rfl rfl rfl ?_
            refine m_istore_n rfl rfl (Nat.le_of_ble_eq_true rfl) rfl ?_
            refine m_iload rfl rfl rfl ?_
            refine m_istore_n rfl rfl (Nat.le_of_ble_eq_true rfl) rfl ?_
            refine m_iinc rfl rfl rfl (Nat.le_of_ble_eq_true rfl) rfl ?_
            refine m_goto (tgt := 12) rfl rfl rfl ?_
            first
              | (rw [if_pos (by first | omega | (dsimp only; omega))] at hR; exact ih (p + 1) _ _ _ (by omega) (by first | exact hI | exact n1.1) (by first | omega | (dsimp only; omega)) hR)
              | (rw [if_neg (by first | omega | (dsimp only; omega))] at hR; exact w_fit0 hl hj (by first | exact hI | exact n1.1) (by omega) (by omega) hR)

set_option maxRecDepth 10000 in
theorem c_rdFit {l : Launch} {G : zkG} {mem : zkM} (hl : l.stackTraces = false) {j : Nat} (hj : j < 9) (hI : rdI mem) : zkCt l G i_Rd_fits 4 0 0 [vr 2 0, vr 60 j] mem (zkR1 (vi (rdFit mem j).1) (rdFit mem j).2) := by
  refine zkCt_of hl ok_Rd_fits (by decide +kernel) rfl rfl (List.forall_mem_cons.mpr ⟨rfl, (List.forall_mem_cons.mpr ⟨rfl, fun _ h => nomatch h⟩)⟩) (Nat.le_of_ble_eq_true rfl) ?_
  refine m_iconst rfl rfl ?_
  refine m_istore_n rfl rfl (Nat.le_of_ble_eq_true rfl) rfl ?_
  refine m_iconst rfl rfl ?_
  refine m_istore_n rfl rfl (Nat.le_of_ble_eq_true rfl) rfl ?_
  refine m_aload_n rfl rfl rfl ?_
  refine m_iconst rfl rfl ?_
  refine m_pi (k := 3) rfl rfl (Nat.le_of_ble_eq_true rfl) rfl rfl rfl rfl (by first | decide | assumption | (simp only [cnt]; omega)) ?_
  refine m_iconst rfl rfl ?_
  refine m_istore rfl rfl (Nat.le_of_ble_eq_true rfl) rfl ?_
  have hI2 : rdI (mset mem 2 0 3 0) := ⟨hI.1, by rw [ms_s]; omega, hI.2.2⟩
  exact w_fits hl hj (zkLn.getD j 0) 0 (mset mem 2 0 3 0) 0 none (by omega) hI2 (by omega) rfl

