/-! the reference: a command is done -/
def txB (m : zkM) : Prop := moA m ∧ txA m ∧ inR (m 7 0 11) ∧ (0 ≤ m 7 0 9 ∧ m 7 0 9 ≤ 12) ∧ ∀ k, k < 4 → -1 ≤ m 45 0 k ∧ m 45 0 k ≤ 999
theorem txB_o {m : zkM} (h : txB m) {i : Nat} {x : Int} (hx : -1 ≤ x ∧ x ≤ 999) : txB (mset m 45 0 i x) := by
  obtain ⟨h1, h2, h3, h4, h5⟩ := h
  refine ⟨h1, h2, h3, h4, fun k hk => ?_⟩
  by_cases e : k = i
  · subst e; rw [ms_s]; exact hx
  · rw [ms_k e]; exact h5 k hk
theorem rdn_B {m : zkM} (h : txB m) {p : Int × Int} (hp : txP p) (n : Nat) : txB (rdn n m p).1 ∧ txP (rdn n m p).2 := by
  unfold rdn
  refine lp_inv (fun (_ : Nat) (s : zkM × Int × Int) => txB s.1 ∧ txP s.2) rnf n (m, p) ⟨h, hp⟩ (fun _ s _ hI => ?_)
  have h2 := num_b hI.1.2.1 hI.2
  exact ⟨txB_o hI.1 (by omega), h2.1⟩
theorem rcm_B {m : zkM} (h : txB m) {p : Int × Int} (hp : txP p) : txB (rcm m p).2.1 ∧ txP (rcm m p).2.2 ∧ 0 ≤ (rcm m p).1 ∧ (rcm m p).1 ≤ 4 := by
  have hT := h.2.1
  unfold rcm
  split
  · have := rdn_B h (tks_b hT [116, 97, 115, 107] _ (by decide) hp) 4
    exact ⟨this.1, this.2, by dsimp only; omega⟩
  · split
    · have := rdn_B h (tks_b hT [114, 101, 113, 117, 101, 115, 116] _ (by decide) hp) 2
      exact ⟨this.1, this.2, by dsimp only; omega⟩
    · split
      · have := pol_b hT (tks_b hT [112, 111, 108, 105, 99, 121] _ (by decide) hp)
        exact ⟨txB_o h (by omega), this.1, by dsimp only; omega⟩
      · have h2 := tks_b hT [115, 101] _ (by decide) hp
        split
        · have q1 := tks_b hT [103, 109, 101, 110, 116] _ (by decide) h2
          have n1 := num_b hT q1
          have b1 := txB_o (i := 0) h (x := (num m (tks m [103, 109, 101, 110, 116] (tks m [115, 101] p))).1) (by omega)
          have n2 := rsc_b b1.2.1 n1.1
          have b2 := txB_o (i := 1) b1 n2.2
          have n3 := num_b b2.2.1 n2.1
          exact ⟨txB_o b2 (by omega), n3.1, by dsimp only; omega⟩
        · have := rdn_B h (tks_b hT [114, 118, 101, 114] _ (by decide) h2) 3
          exact ⟨this.1, this.2, by dsimp only; omega⟩
def moDo (m : zkM) (c : Int) : Int × zkM :=
  if c = 0 then moAddTask m (m 45 0 0) (m 45 0 1) (m 45 0 2) (m 45 0 3)
  else if c = 1 then (b2i (moSetS m (m 45 0 0) (m 45 0 1) (m 45 0 2)).1, (moSetS m (m 45 0 0) (m 45 0 1) (m 45 0 2)).2)
  else if c = 2 then moReq m (m 45 0 0) (m 45 0 1)
  else if c = 3 then moAddSeg m (m 45 0 0) (m 45 0 1) (m 45 0 2)
  else moSetP m (m 45 0 0)
set_option maxRecDepth 10000 in
theorem c_doCommand {l : Launch} {G : zkG} {mem : zkM} (hl : l.stackTraces = false) {c : Int} (hB : txB mem) (hc : 0 ≤ c ∧ c ≤ 4) : zkCt l G i_Mo_doCommand 3 0 0 [vr 7 0, vi c] mem (zkR1 (vi (moDo mem c).1) (moDo mem c).2) := by
  refine zkCt_of hl ok_Mo_doCommand (by decide +kernel) rfl rfl (List.forall_mem_cons.mpr ⟨rfl, (List.forall_mem_cons.mpr ⟨rfl, fun _ h => nomatch h⟩)⟩) (Nat.le_of_ble_eq_true rfl) ?_
  have a0 := hB.2.2.2.2 0 (by omega)
  have a1 := hB.2.2.2.2 1 (by omega)
  have a2 := hB.2.2.2.2 2 (by omega)
  have a3 := hB.2.2.2.2 3 (by omega)
  have hA := hB.1
  have hck := hB.2.2.1
  have hq := hB.2.2.2.1
  refine m_aload_n rfl rfl rfl ?_
  refine m_gr (k := 33) rfl rfl (Nat.le_of_ble_eq_true rfl) rfl rfl (by first | decide | assumption | (simp only [cnt]; omega)) ?_
  refine m_iconst rfl rfl ?_
  refine m_ialx (n := 0) (y := mem 45 _ (0)) rfl rfl (Nat.le_of_ble_eq_true rfl) rfl (by first | decide | assumption | (simp only [cnt]; omega)) (by omega) (by simp only [aln]; omega) rfl ?_
  refine m_istore_n rfl rfl (Nat.le_of_ble_eq_true rfl) rfl ?_
  refine m_aload_n rfl rfl rfl ?_
  refine m_gr (k := 33) rfl rfl (Nat.le_of_ble_eq_true rfl) rfl rfl (by first | decide | assumption | (simp only [cnt]; omega)) ?_
  refine m_iconst rfl rfl ?_
  refine m_ialx (n := 1) (y := mem 45 _ (1)) rfl rfl (Nat.le_of_ble_eq_true rfl) rfl (by first | decide | assumption | (simp only [cnt]; omega)) (by omega) (by simp only [aln]; omega) rfl ?_
  refine m_istore_n rfl rfl (Nat.le_of_ble_eq_true rfl) rfl ?_
  refine m_aload_n rfl rfl rfl ?_
  refine m_gr (k := 33) rfl rfl (Nat.le_of_ble_eq_true rfl) rfl rfl (by first | decide | assumption | (simp only [cnt]; omega)) ?_
  refine m_iconst rfl rfl ?_
  refine m_ialx (n := 2) (y := mem 45 _ (2)) rfl rfl (Nat.le_of_ble_eq_true rfl) rfl (by first | decide | assumption | (simp only [cnt]; omega)) (by omega) (by simp only [aln]; omega) rfl ?_
  refine m_istore rfl rfl (Nat.le_of_ble_eq_true rfl) rfl ?_
  refine m_iload_n rfl rfl rfl ?_
  rcases (show c = 0 ∨ c = 1 ∨ c = 2 ∨ c = 3 ∨ (c < 0 ∨ 3 < c) by omega) with c23 | c23 | c23 | c23 | c23
  · refine m_swIn (off := 29) (tgt := 52) (len := 29) rfl rfl (by omega) (by omega) (by omega) (by rw [c23]; rfl) rfl ?_
    refine m_aload_n rfl rfl rfl ?_
    refine m_iload_n rfl rfl rfl ?_
    refine m_iload_n rfl rfl rfl ?_
    refine m_iload rfl rfl rfl ?_
    refine m_aload_n rfl rfl rfl ?_
    refine m_gr (k := 33) rfl rfl (Nat.le_of_ble_eq_true rfl) rfl rfl (by first | decide | assumption | (simp only [cnt]; omega)) ?_
    refine m_iconst rfl rfl ?_
    refine m_ialx (n := 3) (y := mem 45 _ (3)) rfl rfl (Nat.le_of_ble_eq_true rfl) rfl (by first | decide | assumption | (simp only [cnt]; omega)) (by omega) (by simp only [aln]; omega) rfl ?_
    refine m_cv1 rfl rfl lk_7_253 (c_moaddTask hl hA (by omega) (by omega) (by omega) (by omega) hck) rfl (by first | decide | assumption | (simp only [cnt]; omega)) (Nat.le_of_ble_eq_true rfl) rfl rfl (Nat.le_of_ble_eq_true rfl) (Nat.le_of_ble_eq_true rfl) (Nat.le_of_ble_eq_true rfl) (Nat.le_of_ble_eq_true rfl) (Nat.le_of_ble_eq_true rfl) ?_
    refine m_iret rfl rfl rfl (Nat.le_of_ble_eq_true rfl) (Nat.le_of_ble_eq_true rfl) ?_
    unfold moDo
    first | (rw [if_pos (by omega)]; exact ⟨rfl, rfl⟩)
  · refine m_swIn (off := 44) (tgt := 67) (len := 29) rfl rfl (by omega) (by omega) (by omega) (by rw [c23]; rfl) rfl ?_
    refine m_aload_n rfl rfl rfl ?_
    refine m_iload_n rfl rfl rfl ?_
    refine m_iload_n rfl rfl rfl ?_
    refine m_iload rfl rfl rfl ?_
    refine m_cv1 rfl rfl lk_7_257 (c_mosetServer hl hA (by omega) (by omega) (by omega) hck) rfl (by first | decide | assumption | (simp only [cnt]; omega)) (Nat.le_of_ble_eq_true rfl) rfl rfl (Nat.le_of_ble_eq_true rfl) (Nat.le_of_ble_eq_true rfl) (Nat.le_of_ble_eq_true rfl) (Nat.le_of_ble_eq_true rfl) (Nat.le_of_ble_eq_true rfl) ?_
    refine m_if_eq_b (tgt := 82) rfl rfl rfl (fun c75 => ?_) (fun c75 => ?_)
    · refine m_iconst rfl rfl ?_
      refine m_iret rfl rfl rfl (Nat.le_of_ble_eq_true rfl) (Nat.le_of_ble_eq_true rfl) ?_
      unfold moDo
      rw [if_neg (by omega), if_pos (by omega)]
      refine ⟨?_, rfl⟩
      dsimp only
      rw [c75]
      rfl
    · refine m_iconst rfl rfl ?_
      refine m_goto (tgt := 83) rfl rfl rfl ?_
      refine m_iret rfl rfl rfl (Nat.le_of_ble_eq_true rfl) (Nat.le_of_ble_eq_true rfl) ?_
      unfold moDo
      rw [if_neg (by omega), if_pos (by omega)]
      refine ⟨?_, rfl⟩
      dsimp only
      rw [c75]
      rfl
  · refine m_swIn (off := 61) (tgt := 84) (len := 29) rfl rfl (by omega) (by omega) (by omega) (by rw [c23]; rfl) rfl ?_
    refine m_aload_n rfl rfl rfl ?_
    refine m_iload_n rfl rfl rfl ?_
    refine m_iload_n rfl rfl rfl ?_
    refine m_cv1 rfl rfl lk_7_260 (c_morequest hl (by omega) (by omega) hq hck) rfl (by first | decide | assumption | (simp only [cnt]; omega)) (Nat.le_of_ble_eq_true rfl) rfl rfl (Nat.le_of_ble_eq_true rfl) (Nat.le_of_ble_eq_true rfl) (Nat.le_of_ble_eq_true rfl) (Nat.le_of_ble_eq_true rfl) (Nat.le_of_ble_eq_true rfl) ?_
    refine m_iret rfl rfl rfl (Nat.le_of_ble_eq_true rfl) (Nat.le_of_ble_eq_true rfl) ?_
    unfold moDo
    first | (rw [if_neg (by omega), if_neg (by omega), if_pos (by omega)]; exact ⟨rfl, rfl⟩)
  · refine m_swIn (off := 68) (tgt := 91) (len := 29) rfl rfl (by omega) (by omega) (by omega) (by rw [c23]; rfl) rfl ?_
    refine m_aload_n rfl rfl rfl ?_
    refine m_iload_n rfl rfl rfl ?_
    refine m_iload_n rfl rfl rfl ?_
    refine m_iload rfl rfl rfl ?_
    refine m_cv1 rfl rfl lk_7_263 (c_moaddSegment hl hA (by omega) (by omega) (by omega) hck) rfl (by first | decide | assumption | (simp only [cnt]; omega)) (Nat.le_of_ble_eq_true rfl) rfl rfl (Nat.le_of_ble_eq_true rfl) (Nat.le_of_ble_eq_true rfl) (Nat.le_of_ble_eq_true rfl) (Nat.le_of_ble_eq_true rfl) (Nat.le_of_ble_eq_true rfl) ?_
    refine m_iret rfl rfl rfl (Nat.le_of_ble_eq_true rfl) (Nat.le_of_ble_eq_true rfl) ?_
    unfold moDo
    first | (rw [if_neg (by omega), if_neg (by omega), if_neg (by omega), if_pos (by omega)]; exact ⟨rfl, rfl⟩)
  · refine m_swOut (tgt := 100) (len := 29) rfl rfl (by omega) (by omega) rfl ?_
    refine m_aload_n rfl rfl rfl ?_
    refine m_iload_n rfl rfl rfl ?_
    refine m_cv1 rfl rfl lk_7_267 (c_mosetPolicy hl (by omega)) rfl (by first | decide | assumption | (simp only [cnt]; omega)) (Nat.le_of_ble_eq_true rfl) rfl rfl (Nat.le_of_ble_eq_true rfl) (Nat.le_of_ble_eq_true rfl) (Nat.le_of_ble_eq_true rfl) (Nat.le_of_ble_eq_true rfl) (Nat.le_of_ble_eq_true rfl) ?_
    refine m_iret rfl rfl rfl (Nat.le_of_ble_eq_true rfl) (Nat.le_of_ble_eq_true rfl) ?_
    unfold moDo
    first | (rw [if_neg (by omega), if_neg (by omega), if_neg (by omega), if_neg (by omega)]; exact ⟨rfl, rfl⟩)

def moCm1 (m : zkM) : zkM := mset (mset (mset m 7 0 0 0) 7 0 29 (m 7 0 28)) 7 0 28 0
def moCr (m : zkM) : Int × zkM × Int × Int := rcm (moCm1 m) (0, -1)
def moCfl (m : zkM) : Int := if (moCr m).2.2.2 = -1 ∧ (moCr m).2.2.1 < (moCr m).2.1 7 0 29 then (moCr m).2.2.1 else (moCr m).2.2.2
def moCd (m : zkM) : Int × zkM := moDo (zC (moCr m).2.1 ((moCr m).2.2.1, moCfl m)) (moCr m).1
def moCfg (m : zkM) : Int × zkM := if moCfl m ≠ -1 then (0, mset (mset (zC (moCr m).2.1 ((moCr m).2.2.1, moCfl m)) 7 0 32 (moCfl m)) 7 0 0 1) else if (moCd m).2 7 0 0 = 0 then moCd m else (0, mset (moCd m).2 7 0 0 2)
theorem txB_C {m : zkM} (h : txB m) (p : Int × Int) : txB (zC m p) := h
set_option maxRecDepth 10000 in
theorem c_moconfigure {l : Launch} {G : zkG} {mem : zkM} (hl : l.stackTraces = false) (hA : moA mem) (h28 : 0 ≤ mem 7 0 28 ∧ mem 7 0 28 ≤ 60) (h44 : ∀ k, k < 60 → 0 ≤ mem 44 0 k ∧ mem 44 0 k ≤ 65535) (h11 : inR (mem 7 0 11)) (h9 : 0 ≤ mem 7 0 9 ∧ mem 7 0 9 ≤ 12) (h45 : ∀ k, k < 4 → -1 ≤ mem 45 0 k ∧ mem 45 0 k ≤ 999) (hD : inR ((moCd mem).2 7 0 0)) : zkCt l G i_Mo_configure 5 0 0 [vr 7 0] mem (zkR1 (vi (moCfg mem).1) (moCfg mem).2) := by
  refine zkCt_of hl ok_Mo_configure (by decide +kernel) rfl rfl (List.forall_mem_cons.mpr ⟨rfl, fun _ h => nomatch h⟩) (Nat.le_of_ble_eq_true rfl) ?_
  have hB : txB (moCm1 mem) := ⟨hA, ⟨h28, h44⟩, h11, h9, h45⟩
  have hp : txP (0, -1) := ⟨⟨by decide, by decide⟩, ⟨by decide, by decide⟩⟩
  have hR := rcm_B hB hp
  have eR : rcm (moCm1 mem) (0, -1) = moCr mem := rfl
  rw [eR] at hR
  obtain ⟨b1, ⟨g1, g2⟩, g3, g4⟩ := hR
  have b2 := b1.2.1.1
  refine m_aload_n rfl rfl rfl ?_
  refine m_iconst rfl rfl ?_
  refine m_pi (k := 0) rfl rfl (Nat.le_of_ble_eq_true rfl) rfl rfl rfl rfl (by first | decide | assumption | (simp only [cnt]; omega)) ?_
  refine m_aload_n rfl rfl rfl ?_
  refine m_aload_n rfl rfl rfl ?_
  refine m_gix (k := 28) (x := mem 7 _ 28) rfl rfl (Nat.le_of_ble_eq_true rfl) rfl rfl (by first | decide | assumption | (simp only [cnt]; omega)) rfl ?_
  refine m_pi (k := 29) rfl rfl (Nat.le_of_ble_eq_true rfl) rfl rfl rfl rfl (by first | decide | assumption | (simp only [cnt]; omega)) ?_
  refine m_aload_n rfl rfl rfl ?_
  refine m_iconst rfl rfl ?_
  refine m_pi (k := 28) rfl rfl (Nat.le_of_ble_eq_true rfl) rfl rfl rfl rfl (by first | decide | assumption | (simp only [cnt]; omega)) ?_
  refine m_aload_n rfl rfl rfl ?_
  refine m_iconst rfl rfl ?_
  refine m_pi (k := 30) rfl rfl (Nat.le_of_ble_eq_true rfl) rfl rfl rfl rfl (by first | decide | assumption | (simp only [cnt]; omega)) ?_
  refine m_aload_n rfl rfl rfl ?_
  refine m_iconst rfl rfl ?_
  refine m_pi (k := 31) rfl rfl (Nat.le_of_ble_eq_true rfl) rfl rfl rfl rfl (by first | decide | assumption | (simp only [cnt]; omega)) ?_
  refine m_aload_n rfl rfl rfl ?_
  refine m_cv1 rfl rfl lk_7_270 (by have h := c_readCommand (l := l) (G := G) (m := moCm1 mem) (p := (0, -1)) hl hB.2.1 hp; rw [eR] at h; exact h) rfl (by first | decide | assumption | (simp only [cnt]; omega)) (Nat.le_of_ble_eq_true rfl) rfl rfl (Nat.le_of_ble_eq_true rfl) (Nat.le_of_ble_eq_true rfl) (Nat.le_of_ble_eq_true rfl) (Nat.le_of_ble_eq_true rfl) (Nat.le_of_ble_eq_true rfl) ?_
  refine m_istore_n rfl rfl (Nat.le_of_ble_eq_true rfl) rfl ?_
  refine m_aload_n rfl rfl rfl ?_
  refine m_aload_n rfl rfl rfl ?_
  refine m_gix (k := 31) (x := (moCr mem).2.2.2) rfl rfl (Nat.le_of_ble_eq_true rfl) rfl rfl (by first | decide | assumption | (simp only [cnt]; omega)) rfl ?_
  refine m_iconst rfl rfl ?_
  refine m_icmp_ne (tgt := 60) rfl rfl rfl (by omega) (by omega) (fun c39 => ?_) (fun c39 => ?_)
  · refine m_aload_n rfl rfl rfl ?_
    refine m_gix (k := 31) (x := (moCr mem).2.2.2) rfl rfl (Nat.le_of_ble_eq_true rfl) rfl rfl (by first | decide | assumption | (simp only [cnt]; omega)) rfl ?_
    first | (rw [show (moCr mem).2.2.1 = moCfl mem by unfold moCfl; rw [if_pos (by omega)]]) | (rw [show (moCr mem).2.2.2 = moCfl mem by unfold moCfl; rw [if_neg (by omega)]])
    refine m_pi (k := 31) rfl rfl (Nat.le_of_ble_eq_true rfl) rfl rfl rfl rfl (by first | decide | assumption | (simp only [cnt]; omega)) ?_
    refine m_aload_n rfl rfl rfl ?_
    rw [zC_31]
    have hcf : inR (moCfl mem) := by unfold moCfl; split <;> omega
    refine m_gix (k := 31) (x := moCfl mem) rfl rfl (Nat.le_of_ble_eq_true rfl) rfl rfl (by first | decide | assumption | (simp only [cnt]; omega)) rfl ?_
    refine m_iconst rfl rfl ?_
    refine m_icmp_eq (tgt := 89) rfl rfl rfl (by omega) (by omega) (fun c72 => ?_) (fun c72 => ?_)
    · refine m_aload_n rfl rfl rfl ?_
      refine m_iload_n rfl rfl rfl ?_
      refine m_cv1 rfl rfl lk_7_273 (by have h := c_doCommand (l := l) (G := G) (mem := zC (moCr mem).2.1 ((moCr mem).2.2.1, moCfl mem)) (c := (moCr mem).1) hl (txB_C b1 _) (by omega); exact h) rfl (by first | decide | assumption | (simp only [cnt]; omega)) (Nat.le_of_ble_eq_true rfl) rfl rfl (Nat.le_of_ble_eq_true rfl) (Nat.le_of_ble_eq_true rfl) (Nat.le_of_ble_eq_true rfl) (Nat.le_of_ble_eq_true rfl) (Nat.le_of_ble_eq_true rfl) ?_
      refine m_istore_n rfl rfl (Nat.le_of_ble_eq_true rfl) rfl ?_
      refine m_aload_n rfl rfl rfl ?_
      refine m_gix (k := 0) (x := (moCd mem).2 7 0 0) rfl rfl (Nat.le_of_ble_eq_true rfl) rfl rfl (by first | decide | assumption | (simp only [cnt]; omega)) rfl ?_
      refine m_if_ne (tgt := 106) rfl rfl rfl (by omega) (fun c99 => ?_) (fun c99 => ?_)
      · refine m_aload_n rfl rfl rfl ?_
        refine m_iconst rfl rfl ?_
        refine m_cv1 rfl rfl lk_7_114 (c_fail hl) rfl (by first | decide | assumption | (simp only [cnt]; omega)) (Nat.le_of_ble_eq_true rfl) rfl rfl (Nat.le_of_ble_eq_true rfl) (Nat.le_of_ble_eq_true rfl) (Nat.le_of_ble_eq_true rfl) (Nat.le_of_ble_eq_true rfl) (Nat.le_of_ble_eq_true rfl) ?_
        refine m_iret rfl rfl rfl (Nat.le_of_ble_eq_true rfl) (Nat.le_of_ble_eq_true rfl) ?_
        unfold moCfg
        rw [if_neg (by omega)]
        first | (rw [if_pos (by omega)]; exact ⟨rfl, rfl⟩) | (rw [if_neg (by omega)]; exact ⟨rfl, rfl⟩)
      · refine m_iload_n rfl rfl rfl ?_
        refine m_goto (tgt := 111) rfl rfl rfl ?_
        refine m_iret rfl rfl rfl (Nat.le_of_ble_eq_true rfl) (Nat.le_of_ble_eq_true rfl) ?_
        unfold moCfg
        rw [if_neg (by omega)]
        first | (rw [if_pos (by omega)]; exact ⟨rfl, rfl⟩) | (rw [if_neg (by omega)]; exact ⟨rfl, rfl⟩)
    · refine m_aload_n rfl rfl rfl ?_
      refine m_aload_n rfl rfl rfl ?_
      refine m_gix (k := 31) (x := moCfl mem) rfl rfl (Nat.le_of_ble_eq_true rfl) rfl rfl (by first | decide | assumption | (simp only [cnt]; omega)) rfl ?_
      refine m_pi (k := 32) rfl rfl (Nat.le_of_ble_eq_true rfl) rfl rfl rfl rfl (by first | decide | assumption | (simp only [cnt]; omega)) ?_
      refine m_aload_n rfl rfl rfl ?_
      refine m_iconst rfl rfl ?_
      refine m_cv1 rfl rfl lk_7_114 (c_fail hl) rfl (by first | decide | assumption | (simp only [cnt]; omega)) (Nat.le_of_ble_eq_true rfl) rfl rfl (Nat.le_of_ble_eq_true rfl) (Nat.le_of_ble_eq_true rfl) (Nat.le_of_ble_eq_true rfl) (Nat.le_of_ble_eq_true rfl) (Nat.le_of_ble_eq_true rfl) ?_
      refine m_iret rfl rfl rfl (Nat.le_of_ble_eq_true rfl) (Nat.le_of_ble_eq_true rfl) ?_
      unfold moCfg
      rw [if_pos (by omega)]
      exact ⟨rfl, rfl⟩
  · refine m_aload_n rfl rfl rfl ?_
    refine m_gix (k := 30) (x := (moCr mem).2.2.1) rfl rfl (Nat.le_of_ble_eq_true rfl) rfl rfl (by first | decide | assumption | (simp only [cnt]; omega)) rfl ?_
    refine m_aload_n rfl rfl rfl ?_
    refine m_gix (k := 29) (x := (moCr mem).2.1 7 _ 29) rfl rfl (Nat.le_of_ble_eq_true rfl) rfl rfl (by first | decide | assumption | (simp only [cnt]; omega)) rfl ?_
    refine m_icmp_ge (tgt := 60) rfl rfl rfl (by omega) (by omega) (fun c50 => ?_) (fun c50 => ?_)
    · refine m_aload_n rfl rfl rfl ?_
      refine m_gix (k := 31) (x := (moCr mem).2.2.2) rfl rfl (Nat.le_of_ble_eq_true rfl) rfl rfl (by first | decide | assumption | (simp only [cnt]; omega)) rfl ?_
      first | (rw [show (moCr mem).2.2.1 = moCfl mem by unfold moCfl; rw [if_pos (by omega)]]) | (rw [show (moCr mem).2.2.2 = moCfl mem by unfold moCfl; rw [if_neg (by omega)]])
      refine m_pi (k := 31) rfl rfl (Nat.le_of_ble_eq_true rfl) rfl rfl rfl rfl (by first | decide | assumption | (simp only [cnt]; omega)) ?_
      refine m_aload_n rfl rfl rfl ?_
      rw [zC_31]
      have hcf : inR (moCfl mem) := by unfold moCfl; split <;> omega
      refine m_gix (k := 31) (x := moCfl mem) rfl rfl (Nat.le_of_ble_eq_true rfl) rfl rfl (by first | decide | assumption | (simp only [cnt]; omega)) rfl ?_
      refine m_iconst rfl rfl ?_
      refine m_icmp_eq (tgt := 89) rfl rfl rfl (by omega) (by omega) (fun c72 => ?_) (fun c72 => ?_)
      · refine m_aload_n rfl rfl rfl ?_
        refine m_iload_n rfl rfl rfl ?_
        refine m_cv1 rfl rfl lk_7_273 (by have h := c_doCommand (l := l) (G := G) (mem := zC (moCr mem).2.1 ((moCr mem).2.2.1, moCfl mem)) (c := (moCr mem).1) hl (txB_C b1 _) (by omega); exact h) rfl (by first | decide | assumption | (simp only [cnt]; omega)) (Nat.le_of_ble_eq_true rfl) rfl rfl (Nat.le_of_ble_eq_true rfl) (Nat.le_of_ble_eq_true rfl) (Nat.le_of_ble_eq_true rfl) (Nat.le_of_ble_eq_true rfl) (Nat.le_of_ble_eq_true rfl) ?_
        refine m_istore_n rfl rfl (Nat.le_of_ble_eq_true rfl) rfl ?_
        refine m_aload_n rfl rfl rfl ?_
        refine m_gix (k := 0) (x := (moCd mem).2 7 0 0) rfl rfl (Nat.le_of_ble_eq_true rfl) rfl rfl (by first | decide | assumption | (simp only [cnt]; omega)) rfl ?_
        refine m_if_ne (tgt := 106) rfl rfl rfl (by omega) (fun c99 => ?_) (fun c99 => ?_)
        · refine m_aload_n rfl rfl rfl ?_
          refine m_iconst rfl rfl ?_
          refine m_cv1 rfl rfl lk_7_114 (c_fail hl) rfl (by first | decide | assumption | (simp only [cnt]; omega)) (Nat.le_of_ble_eq_true rfl) rfl rfl (Nat.le_of_ble_eq_true rfl) (Nat.le_of_ble_eq_true rfl) (Nat.le_of_ble_eq_true rfl) (Nat.le_of_ble_eq_true rfl) (Nat.le_of_ble_eq_true rfl) ?_
          refine m_iret rfl rfl rfl (Nat.le_of_ble_eq_true rfl) (Nat.le_of_ble_eq_true rfl) ?_
          unfold moCfg
          rw [if_neg (by omega)]
          first | (rw [if_pos (by omega)]; exact ⟨rfl, rfl⟩) | (rw [if_neg (by omega)]; exact ⟨rfl, rfl⟩)
        · refine m_iload_n rfl rfl rfl ?_
          refine m_goto (tgt := 111) rfl rfl rfl ?_
          refine m_iret rfl rfl rfl (Nat.le_of_ble_eq_true rfl) (Nat.le_of_ble_eq_true rfl) ?_
          unfold moCfg
          rw [if_neg (by omega)]
          first | (rw [if_pos (by omega)]; exact ⟨rfl, rfl⟩) | (rw [if_neg (by omega)]; exact ⟨rfl, rfl⟩)
      · refine m_aload_n rfl rfl rfl ?_
        refine m_aload_n rfl rfl rfl ?_
        refine m_gix (k := 31) (x := moCfl mem) rfl rfl (Nat.le_of_ble_eq_true rfl) rfl rfl (by first | decide | assumption | (simp only [cnt]; omega)) rfl ?_
        refine m_pi (k := 32) rfl rfl (Nat.le_of_ble_eq_true rfl) rfl rfl rfl rfl (by first | decide | assumption | (simp only [cnt]; omega)) ?_
        refine m_aload_n rfl rfl rfl ?_
        refine m_iconst rfl rfl ?_
        refine m_cv1 rfl rfl lk_7_114 (c_fail hl) rfl (by first | decide | assumption | (simp only [cnt]; omega)) (Nat.le_of_ble_eq_true rfl) rfl rfl (Nat.le_of_ble_eq_true rfl) (Nat.le_of_ble_eq_true rfl) (Nat.le_of_ble_eq_true rfl) (Nat.le_of_ble_eq_true rfl) (Nat.le_of_ble_eq_true rfl) ?_
        refine m_iret rfl rfl rfl (Nat.le_of_ble_eq_true rfl) (Nat.le_of_ble_eq_true rfl) ?_
        unfold moCfg
        rw [if_pos (by omega)]
        exact ⟨rfl, rfl⟩
    · refine m_aload_n rfl rfl rfl ?_
      refine m_gix (k := 30) (x := (moCr mem).2.2.1) rfl rfl (Nat.le_of_ble_eq_true rfl) rfl rfl (by first | decide | assumption | (simp only [cnt]; omega)) rfl ?_
      refine m_goto (tgt := 64) rfl rfl rfl ?_
      first | (rw [show (moCr mem).2.2.1 = moCfl mem by unfold moCfl; rw [if_pos (by omega)]]) | (rw [show (moCr mem).2.2.2 = moCfl mem by unfold moCfl; rw [if_neg (by omega)]])
      refine m_pi (k := 31) rfl rfl (Nat.le_of_ble_eq_true rfl) rfl rfl rfl rfl (by first | decide | assumption | (simp only [cnt]; omega)) ?_
      refine m_aload_n rfl rfl rfl ?_
      rw [zC_31]
      have hcf : inR (moCfl mem) := by unfold moCfl; split <;> omega
      refine m_gix (k := 31) (x := moCfl mem) rfl rfl (Nat.le_of_ble_eq_true rfl) rfl rfl (by first | decide | assumption | (simp only [cnt]; omega)) rfl ?_
      refine m_iconst rfl rfl ?_
      refine m_icmp_eq (tgt := 89) rfl rfl rfl (by omega) (by omega) (fun c72 => ?_) (fun c72 => ?_)
      · refine m_aload_n rfl rfl rfl ?_
        refine m_iload_n rfl rfl rfl ?_
        refine m_cv1 rfl rfl lk_7_273 (by have h := c_doCommand (l := l) (G := G) (mem := zC (moCr mem).2.1 ((moCr mem).2.2.1, moCfl mem)) (c := (moCr mem).1) hl (txB_C b1 _) (by omega); exact h) rfl (by first | decide | assumption | (simp only [cnt]; omega)) (Nat.le_of_ble_eq_true rfl) rfl rfl (Nat.le_of_ble_eq_true rfl) (Nat.le_of_ble_eq_true rfl) (Nat.le_of_ble_eq_true rfl) (Nat.le_of_ble_eq_true rfl) (Nat.le_of_ble_eq_true rfl) ?_
        refine m_istore_n rfl rfl (Nat.le_of_ble_eq_true rfl) rfl ?_
        refine m_aload_n rfl rfl rfl ?_
        refine m_gix (k := 0) (x := (moCd mem).2 7 0 0) rfl rfl (Nat.le_of_ble_eq_true rfl) rfl rfl (by first | decide | assumption | (simp only [cnt]; omega)) rfl ?_
        refine m_if_ne (tgt := 106) rfl rfl rfl (by omega) (fun c99 => ?_) (fun c99 => ?_)
        · refine m_aload_n rfl rfl rfl ?_
          refine m_iconst rfl rfl ?_
          refine m_cv1 rfl rfl lk_7_114 (c_fail hl) rfl (by first | decide | assumption | (simp only [cnt]; omega)) (Nat.le_of_ble_eq_true rfl) rfl rfl (Nat.le_of_ble_eq_true rfl) (Nat.le_of_ble_eq_true rfl) (Nat.le_of_ble_eq_true rfl) (Nat.le_of_ble_eq_true rfl) (Nat.le_of_ble_eq_true rfl) ?_
          refine m_iret rfl rfl rfl (Nat.le_of_ble_eq_true rfl) (Nat.le_of_ble_eq_true rfl) ?_
          unfold moCfg
          rw [if_neg (by omega)]
          first | (rw [if_pos (by omega)]; exact ⟨rfl, rfl⟩) | (rw [if_neg (by omega)]; exact ⟨rfl, rfl⟩)
        · refine m_iload_n rfl rfl rfl ?_
          refine m_goto (tgt := 111) rfl rfl rfl ?_
          refine m_iret rfl rfl rfl (Nat.le_of_ble_eq_true rfl) (Nat.le_of_ble_eq_true rfl) ?_
          unfold moCfg
          rw [if_neg (by omega)]
          first | (rw [if_pos (by omega)]; exact ⟨rfl, rfl⟩) | (rw [if_neg (by omega)]; exact ⟨rfl, rfl⟩)
      · refine m_aload_n rfl rfl rfl ?_
        refine m_aload_n rfl rfl rfl ?_
        refine m_gix (k := 31) (x := moCfl mem) rfl rfl (Nat.le_of_ble_eq_true rfl) rfl rfl (by first | decide | assumption | (simp only [cnt]; omega)) rfl ?_
        refine m_pi (k := 32) rfl rfl (Nat.le_of_ble_eq_true rfl) rfl rfl rfl rfl (by first | decide | assumption | (simp only [cnt]; omega)) ?_
        refine m_aload_n rfl rfl rfl ?_
        refine m_iconst rfl rfl ?_
        refine m_cv1 rfl rfl lk_7_114 (c_fail hl) rfl (by first | decide | assumption | (simp only [cnt]; omega)) (Nat.le_of_ble_eq_true rfl) rfl rfl (Nat.le_of_ble_eq_true rfl) (Nat.le_of_ble_eq_true rfl) (Nat.le_of_ble_eq_true rfl) (Nat.le_of_ble_eq_true rfl) (Nat.le_of_ble_eq_true rfl) ?_
        refine m_iret rfl rfl rfl (Nat.le_of_ble_eq_true rfl) (Nat.le_of_ble_eq_true rfl) ?_
        unfold moCfg
        rw [if_pos (by omega)]
        exact ⟨rfl, rfl⟩

def moApp (m : zkM) (c : Int) : Int × zkM := if ¬ (32 ≤ c ∧ c ≤ 126) then (0, mset (mset m 7 0 0 0) 7 0 0 1) else if m 7 0 28 = 60 then (0, mset (mset m 7 0 0 0) 7 0 0 2) else (m 7 0 28 + 1, mset (mset (mset m 7 0 0 0) 44 0 (m 7 0 28).toNat c) 7 0 28 (m 7 0 28 + 1))
set_option maxRecDepth 10000 in
theorem c_moappend {l : Launch} {G : zkG} {mem : zkM} (hl : l.stackTraces = false) {c : Int} (hc : inR c) (h28 : 0 ≤ mem 7 0 28 ∧ mem 7 0 28 ≤ 60) : zkCt l G i_Mo_append 1 0 0 [vr 7 0, vi c] mem (zkR1 (vi (moApp mem c).1) (moApp mem c).2) := by
  refine zkCt_of hl ok_Mo_append (by decide +kernel) rfl rfl (List.forall_mem_cons.mpr ⟨rfl, (List.forall_mem_cons.mpr ⟨rfl, fun _ h => nomatch h⟩)⟩) (Nat.le_of_ble_eq_true rfl) ?_
  refine m_aload_n rfl rfl rfl ?_
  refine m_iconst rfl rfl ?_
  refine m_pi (k := 0) rfl rfl (Nat.le_of_ble_eq_true rfl) rfl rfl rfl rfl (by first | decide | assumption | (simp only [cnt]; omega)) ?_
  refine m_iload_n rfl rfl rfl ?_
  refine m_bipush rfl rfl (by decide) ?_
  refine m_bipush rfl rfl (by decide) ?_
  refine m_cs1 rfl rfl lk_7_75 (c_isIn hl (by omega) (by omega) (by omega)) rfl rfl (Nat.le_of_ble_eq_true rfl) (Nat.le_of_ble_eq_true rfl) (Nat.le_of_ble_eq_true rfl) (Nat.le_of_ble_eq_true rfl) (Nat.le_of_ble_eq_true rfl) ?_
  refine m_if_ne_d (tgt := 22) rfl rfl rfl (fun c13 => ?_) (fun c13 => ?_)
  · refine m_aload_n rfl rfl rfl ?_
    refine m_gix (k := 28) (x := mem 7 _ 28) rfl rfl (Nat.le_of_ble_eq_true rfl) rfl rfl (by first | decide | assumption | (simp only [cnt]; omega)) rfl ?_
    refine m_bipush rfl rfl (by decide) ?_
    refine m_icmp_ne (tgt := 37) rfl rfl rfl (by omega) (by omega) (fun c28 => ?_) (fun c28 => ?_)
    · refine m_aload_n rfl rfl rfl ?_
      refine m_gr (k := 27) rfl rfl (Nat.le_of_ble_eq_true rfl) rfl rfl (by first | decide | assumption | (simp only [cnt]; omega)) ?_
      refine m_aload_n rfl rfl rfl ?_
      refine m_gix (k := 28) (x := mem 7 _ 28) rfl rfl (Nat.le_of_ble_eq_true rfl) rfl rfl (by first | decide | assumption | (simp only [cnt]; omega)) rfl ?_
      refine m_iload_n rfl rfl rfl ?_
      refine m_casn (n := (mem 7 0 28).toNat) rfl rfl (Nat.le_of_ble_eq_true rfl) rfl (by first | decide | assumption | (simp only [cnt]; omega)) (by omega) (by simp only [aln]; omega) (by omega) (by omega) ?_
      refine m_aload_n rfl rfl rfl ?_
      refine m_dup rfl rfl rfl ?_
      refine m_gix (k := 28) (x := mem 7 _ 28) rfl rfl (Nat.le_of_ble_eq_true rfl) rfl rfl (by first | decide | assumption | (simp only [cnt]; omega)) rfl ?_
      refine m_iconst rfl rfl ?_
      refine m_iadd rfl rfl ?_
      refine m_pi (k := 28) rfl rfl (Nat.le_of_ble_eq_true rfl) rfl rfl rfl rfl (by first | decide | assumption | (simp only [cnt]; omega)) ?_
      refine m_aload_n rfl rfl rfl ?_
      refine m_gix (k := 28) (x := mem 7 0 28 + 1) rfl rfl (Nat.le_of_ble_eq_true rfl) rfl rfl (by first | decide | assumption | (simp only [cnt]; omega)) rfl ?_
      refine m_iret rfl rfl rfl (Nat.le_of_ble_eq_true rfl) (Nat.le_of_ble_eq_true rfl) ?_
      unfold moApp
      first | (rw [if_pos (by omega)]; exact ⟨rfl, rfl⟩) | (rw [if_neg (by omega), if_pos (by omega)]; exact ⟨rfl, rfl⟩) | (rw [if_neg (by omega), if_neg (by omega)]; exact ⟨rfl, rfl⟩)
    · refine m_aload_n rfl rfl rfl ?_
      refine m_iconst rfl rfl ?_
      refine m_cv1 rfl rfl lk_7_114 (c_fail hl) rfl (by first | decide | assumption | (simp only [cnt]; omega)) (Nat.le_of_ble_eq_true rfl) rfl rfl (Nat.le_of_ble_eq_true rfl) (Nat.le_of_ble_eq_true rfl) (Nat.le_of_ble_eq_true rfl) (Nat.le_of_ble_eq_true rfl) (Nat.le_of_ble_eq_true rfl) ?_
      refine m_iret rfl rfl rfl (Nat.le_of_ble_eq_true rfl) (Nat.le_of_ble_eq_true rfl) ?_
      unfold moApp
      first | (rw [if_pos (by omega)]; exact ⟨rfl, rfl⟩) | (rw [if_neg (by omega), if_pos (by omega)]; exact ⟨rfl, rfl⟩) | (rw [if_neg (by omega), if_neg (by omega)]; exact ⟨rfl, rfl⟩)
  · refine m_aload_n rfl rfl rfl ?_
    refine m_iconst rfl rfl ?_
    refine m_cv1 rfl rfl lk_7_114 (c_fail hl) rfl (by first | decide | assumption | (simp only [cnt]; omega)) (Nat.le_of_ble_eq_true rfl) rfl rfl (Nat.le_of_ble_eq_true rfl) (Nat.le_of_ble_eq_true rfl) (Nat.le_of_ble_eq_true rfl) (Nat.le_of_ble_eq_true rfl) (Nat.le_of_ble_eq_true rfl) ?_
    refine m_iret rfl rfl rfl (Nat.le_of_ble_eq_true rfl) (Nat.le_of_ble_eq_true rfl) ?_
    unfold moApp
    first | (rw [if_pos (by omega)]; exact ⟨rfl, rfl⟩) | (rw [if_neg (by omega), if_pos (by omega)]; exact ⟨rfl, rfl⟩) | (rw [if_neg (by omega), if_neg (by omega)]; exact ⟨rfl, rfl⟩)

def moErr (m : zkM) : Int × zkM := if m 7 0 32 = -1 then (0, mset (mset m 7 0 0 0) 7 0 0 1) else (m 7 0 32, mset m 7 0 0 0)
set_option maxRecDepth 10000 in
theorem c_moerror {l : Launch} {G : zkG} {mem : zkM} (hl : l.stackTraces = false) (h : inR (mem 7 0 32)) : zkCt l G i_Mo_errorPosition 1 0 0 [vr 7 0] mem (zkR1 (vi (moErr mem).1) (moErr mem).2) := by
  refine zkCt_of hl ok_Mo_errorPosition (by decide +kernel) rfl rfl (List.forall_mem_cons.mpr ⟨rfl, fun _ h => nomatch h⟩) (Nat.le_of_ble_eq_true rfl) ?_
  refine m_aload_n rfl rfl rfl ?_
  refine m_iconst rfl rfl ?_
  refine m_pi (k := 0) rfl rfl (Nat.le_of_ble_eq_true rfl) rfl rfl rfl rfl (by first | decide | assumption | (simp only [cnt]; omega)) ?_
  refine m_aload_n rfl rfl rfl ?_
  refine m_gix (k := 32) (x := mem 7 _ 32) rfl rfl (Nat.le_of_ble_eq_true rfl) rfl rfl (by first | decide | assumption | (simp only [cnt]; omega)) rfl ?_
  refine m_iconst rfl rfl ?_
  refine m_icmp_ne (tgt := 21) rfl rfl rfl (by omega) (by omega) (fun c10 => ?_) (fun c10 => ?_)
  · refine m_aload_n rfl rfl rfl ?_
    refine m_gix (k := 32) (x := mem 7 _ 32) rfl rfl (Nat.le_of_ble_eq_true rfl) rfl rfl (by first | decide | assumption | (simp only [cnt]; omega)) rfl ?_
    refine m_iret rfl rfl rfl (Nat.le_of_ble_eq_true rfl) (Nat.le_of_ble_eq_true rfl) ?_
    unfold moErr
    first | (rw [if_pos (by omega)]; exact ⟨rfl, rfl⟩) | (rw [if_neg (by omega)]; exact ⟨rfl, rfl⟩)
  · refine m_aload_n rfl rfl rfl ?_
    refine m_iconst rfl rfl ?_
    refine m_cv1 rfl rfl lk_7_114 (c_fail hl) rfl (by first | decide | assumption | (simp only [cnt]; omega)) (Nat.le_of_ble_eq_true rfl) rfl rfl (Nat.le_of_ble_eq_true rfl) (Nat.le_of_ble_eq_true rfl) (Nat.le_of_ble_eq_true rfl) (Nat.le_of_ble_eq_true rfl) (Nat.le_of_ble_eq_true rfl) ?_
    refine m_goto (tgt := 25) rfl rfl rfl ?_
    refine m_iret rfl rfl rfl (Nat.le_of_ble_eq_true rfl) (Nat.le_of_ble_eq_true rfl) ?_
    unfold moErr
    first | (rw [if_pos (by omega)]; exact ⟨rfl, rfl⟩) | (rw [if_neg (by omega)]; exact ⟨rfl, rfl⟩)

