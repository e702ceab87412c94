/-! the reference: answers about the simulation -/
def moRan (m : zkM) (x : Int) : Int × zkM := if 0 ≤ x ∧ x ≤ m 7 0 11 - 1 then (m 34 0 x.toNat, mset m 7 0 0 0) else (0, mset (mset m 7 0 0 0) 7 0 0 1)
set_option maxRecDepth 10000 in
theorem c_moranAt {l : Launch} {G : zkG} {mem : zkM} (hl : l.stackTraces = false) {x : Int} (hx : inR x) (hc : 0 ≤ mem 7 0 11 ∧ mem 7 0 11 ≤ 400) : zkCt l G i_Mo_ranAt 1 0 0 [vr 7 0, vi x] mem (zkR1 (vi (moRan mem x).1) (moRan mem x).2) := by
  refine zkCt_of hl ok_Mo_ranAt (by decide +kernel) rfl rfl (List.forall_mem_cons.mpr ⟨rfl, (List.forall_mem_cons.mpr ⟨rfl, fun _ h => nomatch h⟩)⟩) (Nat.le_of_ble_eq_true rfl) ?_
  refine m_aload_n rfl rfl rfl ?_
  refine m_iconst rfl rfl ?_
  refine m_pi (k := 0) rfl rfl (Nat.le_of_ble_eq_true rfl) rfl rfl rfl rfl (by first | decide | assumption | (simp only [cnt]; omega)) ?_
  refine m_iload_n rfl rfl rfl ?_
  refine m_iconst rfl rfl ?_
  refine m_aload_n rfl rfl rfl ?_
  refine m_gix (k := 11) (x := mem 7 _ 11) rfl rfl (Nat.le_of_ble_eq_true rfl) rfl rfl (by first | decide | assumption | (simp only [cnt]; omega)) rfl ?_
  refine m_iconst rfl rfl ?_
  refine m_isub rfl rfl ?_
  refine m_cs1 rfl rfl lk_7_75 (c_isIn hl (by omega) (by omega) (by omega)) rfl rfl (Nat.le_of_ble_eq_true rfl) (Nat.le_of_ble_eq_true rfl) (Nat.le_of_ble_eq_true rfl) (Nat.le_of_ble_eq_true rfl) (Nat.le_of_ble_eq_true rfl) ?_
  refine m_if_eq_d (tgt := 28) rfl rfl rfl (fun c16 => ?_) (fun c16 => ?_)
  · refine m_aload_n rfl rfl rfl ?_
    refine m_iconst rfl rfl ?_
    refine m_cv1 rfl rfl lk_7_114 (c_fail hl) rfl (by first | decide | assumption | (simp only [cnt]; omega)) (Nat.le_of_ble_eq_true rfl) rfl rfl (Nat.le_of_ble_eq_true rfl) (Nat.le_of_ble_eq_true rfl) (Nat.le_of_ble_eq_true rfl) (Nat.le_of_ble_eq_true rfl) (Nat.le_of_ble_eq_true rfl) ?_
    refine m_iret rfl rfl rfl (Nat.le_of_ble_eq_true rfl) (Nat.le_of_ble_eq_true rfl) ?_
    unfold moRan
    first | (rw [if_pos (by omega)]; exact ⟨rfl, rfl⟩) | (rw [if_neg (by omega)]; exact ⟨rfl, rfl⟩)
  · refine m_aload_n rfl rfl rfl ?_
    refine m_gr (k := 12) rfl rfl (Nat.le_of_ble_eq_true rfl) rfl rfl (by first | decide | assumption | (simp only [cnt]; omega)) ?_
    refine m_iload_n rfl rfl rfl ?_
    refine m_ialx (n := x.toNat) (y := mem 34 _ (x.toNat)) rfl rfl (Nat.le_of_ble_eq_true rfl) rfl (by first | decide | assumption | (simp only [cnt]; omega)) (by omega) (by simp only [aln]; omega) rfl ?_
    refine m_goto (tgt := 33) rfl rfl rfl ?_
    refine m_iret rfl rfl rfl (Nat.le_of_ble_eq_true rfl) (Nat.le_of_ble_eq_true rfl) ?_
    unfold moRan
    first | (rw [if_pos (by omega)]; exact ⟨rfl, rfl⟩) | (rw [if_neg (by omega)]; exact ⟨rfl, rfl⟩)

def moPnd (m : zkM) (x : Int) : Int × zkM := if 0 ≤ x ∧ x ≤ m 7 0 2 - 1 then (m 36 0 x.toNat, mset m 7 0 0 0) else (0, mset (mset m 7 0 0 0) 7 0 0 1)
set_option maxRecDepth 10000 in
theorem c_mopending {l : Launch} {G : zkG} {mem : zkM} (hl : l.stackTraces = false) {x : Int} (hx : inR x) (hm : 0 ≤ mem 7 0 2 ∧ mem 7 0 2 ≤ 5) : zkCt l G i_Mo_pending 2 0 0 [vr 7 0, vi x] mem (zkR1 (vi (moPnd mem x).1) (moPnd mem x).2) := by
  refine zkCt_of hl ok_Mo_pending (by decide +kernel) rfl rfl (List.forall_mem_cons.mpr ⟨rfl, (List.forall_mem_cons.mpr ⟨rfl, fun _ h => nomatch h⟩)⟩) (Nat.le_of_ble_eq_true rfl) ?_
  refine m_aload_n rfl rfl rfl ?_
  refine m_iconst rfl rfl ?_
  refine m_pi (k := 0) rfl rfl (Nat.le_of_ble_eq_true rfl) rfl rfl rfl rfl (by first | decide | assumption | (simp only [cnt]; omega)) ?_
  refine m_aload_n rfl rfl rfl ?_
  refine m_iload_n rfl rfl rfl ?_
  refine m_cv1 rfl rfl lk_7_121 (show zkCt l G i_Mo_isTask _ 0 0 _ _ (zkR1 (vi (b2i (decide (0 ≤ x ∧ x ≤ mem 7 0 2 - 1)))) _) from c_isTask hl (by omega) (show 0 ≤ mem 7 0 2 ∧ mem 7 0 2 ≤ 5 by omega)) rfl (by first | decide | assumption | (simp only [cnt]; omega)) (Nat.le_of_ble_eq_true rfl) rfl rfl (Nat.le_of_ble_eq_true rfl) (Nat.le_of_ble_eq_true rfl) (Nat.le_of_ble_eq_true rfl) (Nat.le_of_ble_eq_true rfl) (Nat.le_of_ble_eq_true rfl) ?_
  refine m_if_eq_d (tgt := 22) rfl rfl rfl (fun c10 => ?_) (fun c10 => ?_)
  · refine m_aload_n rfl rfl rfl ?_
    refine m_iconst rfl rfl ?_
    refine m_cv1 rfl rfl lk_7_114 (c_fail hl) rfl (by first | decide | assumption | (simp only [cnt]; omega)) (Nat.le_of_ble_eq_true rfl) rfl rfl (Nat.le_of_ble_eq_true rfl) (Nat.le_of_ble_eq_true rfl) (Nat.le_of_ble_eq_true rfl) (Nat.le_of_ble_eq_true rfl) (Nat.le_of_ble_eq_true rfl) ?_
    refine m_iret rfl rfl rfl (Nat.le_of_ble_eq_true rfl) (Nat.le_of_ble_eq_true rfl) ?_
    unfold moPnd
    first | (rw [if_pos (by omega)]; exact ⟨rfl, rfl⟩) | (rw [if_neg (by omega)]; exact ⟨rfl, rfl⟩)
  · refine m_aload_n rfl rfl rfl ?_
    refine m_gr (k := 14) rfl rfl (Nat.le_of_ble_eq_true rfl) rfl rfl (by first | decide | assumption | (simp only [cnt]; omega)) ?_
    refine m_iload_n rfl rfl rfl ?_
    refine m_ialx (n := x.toNat) (y := mem 36 _ (x.toNat)) rfl rfl (Nat.le_of_ble_eq_true rfl) rfl (by first | decide | assumption | (simp only [cnt]; omega)) (by omega) (by simp only [aln]; omega) rfl ?_
    refine m_goto (tgt := 27) rfl rfl rfl ?_
    refine m_iret rfl rfl rfl (Nat.le_of_ble_eq_true rfl) (Nat.le_of_ble_eq_true rfl) ?_
    unfold moPnd
    first | (rw [if_pos (by omega)]; exact ⟨rfl, rfl⟩) | (rw [if_neg (by omega)]; exact ⟨rfl, rfl⟩)

theorem moSNf_c {m m' : zkM} {t : Nat} (h1 : m' 37 0 t = m 37 0 t) (h2 : ∀ k, moLe m' t k = moLe m t k) : ∀ (r k : Nat) (b : Int), moSNf m' t r k b = moSNf m t r k b
  | 0, _, _ => rfl
  | r + 1, k, b => by
    unfold moSNf
    rw [h1, h2 k, moSNf_c h1 h2 r]
theorem moHd_T (m : zkM) (x : Int) (t : Nat) : moHd (mset m 7 0 0 x) t = moHd m t := by
  unfold moHd moSN
  rw [moSNf_c (m := m) (m' := mset m 7 0 0 x) rfl (fun _ => rfl)]
  rfl
theorem moAc_T (m : zkM) (x : Int) (t : Nat) : moAc (mset m 7 0 0 x) t = moAc m t := by
  unfold moAc
  rw [moHd_T]
  rfl
def moAct (m : zkM) (x : Int) : Int × zkM := if ¬ (0 ≤ x ∧ x ≤ m 7 0 2 - 1) then (0, mset m 7 0 0 1) else if m 36 0 x.toNat = 0 then (0, mset m 7 0 0 2) else (moAc m x.toNat, mset m 7 0 0 0)
set_option maxRecDepth 10000 in
theorem c_moactive {l : Launch} {G : zkG} {mem : zkM} (hl : l.stackTraces = false) {x : Int} (hA : moA mem) (hx : inR x) (h1 : ∀ t, t < 5 → inR (mem 36 0 t) ∧ inR (mem 37 0 t)) : zkCt l G i_Mo_activePriority 4 0 0 [vr 7 0, vi x] mem (zkR1 (vi (moAct mem x).1) (moAct mem x).2) := by
  refine zkCt_of hl ok_Mo_activePriority (by decide +kernel) rfl rfl (List.forall_mem_cons.mpr ⟨rfl, (List.forall_mem_cons.mpr ⟨rfl, fun _ h => nomatch h⟩)⟩) (Nat.le_of_ble_eq_true rfl) ?_
  have hm := hA.1
  refine m_aload_n rfl rfl rfl ?_
  refine m_aload_n rfl rfl rfl ?_
  refine m_iload_n rfl rfl rfl ?_
  refine m_cv1 rfl rfl lk_7_121 (c_isTask hl (by omega) (by omega)) rfl (by first | decide | assumption | (simp only [cnt]; omega)) (Nat.le_of_ble_eq_true rfl) rfl rfl (Nat.le_of_ble_eq_true rfl) (Nat.le_of_ble_eq_true rfl) (Nat.le_of_ble_eq_true rfl) (Nat.le_of_ble_eq_true rfl) (Nat.le_of_ble_eq_true rfl) ?_
  refine m_if_ne_d (tgt := 13) rfl rfl rfl (fun c6 => ?_) (fun c6 => ?_)
  · have h2 := h1 x.toNat (by omega)
    refine m_aload_n rfl rfl rfl ?_
    refine m_gr (k := 14) rfl rfl (Nat.le_of_ble_eq_true rfl) rfl rfl (by first | decide | assumption | (simp only [cnt]; omega)) ?_
    refine m_iload_n rfl rfl rfl ?_
    refine m_ialx (n := x.toNat) (y := mem 36 _ (x.toNat)) rfl rfl (Nat.le_of_ble_eq_true rfl) rfl (by first | decide | assumption | (simp only [cnt]; omega)) (by omega) (by simp only [aln]; omega) rfl ?_
    refine m_if_ne (tgt := 26) rfl rfl rfl (by omega) (fun c19 => ?_) (fun c19 => ?_)
    · refine m_iconst rfl rfl ?_
      refine m_pi (k := 0) rfl rfl (Nat.le_of_ble_eq_true rfl) rfl rfl rfl rfl (by first | decide | assumption | (simp only [cnt]; omega)) ?_
      refine m_aload_n rfl rfl rfl ?_
      refine m_gix (k := 0) (x := 0) rfl rfl (Nat.le_of_ble_eq_true rfl) rfl rfl (by first | decide | assumption | (simp only [cnt]; omega)) rfl ?_
      refine m_if_ne (tgt := 45) rfl rfl rfl (by omega) (fun c34 => ?_) (fun c34 => ?_)
      · exfalso; omega
      · refine m_aload_n rfl rfl rfl ?_
        refine m_iload_n rfl rfl rfl ?_
        refine m_cv1 rfl rfl lk_7_180 (by have h := c_activeOf (l := l) (G := G) (mem := mset mem 7 0 0 0) hl (show moA _ from hA) (t := x.toNat) (x := x) (by omega) (by omega) h2.1 h2.2; rw [moAc_T] at h; exact h) rfl (by first | decide | assumption | (simp only [cnt]; omega)) (Nat.le_of_ble_eq_true rfl) rfl rfl (Nat.le_of_ble_eq_true rfl) (Nat.le_of_ble_eq_true rfl) (Nat.le_of_ble_eq_true rfl) (Nat.le_of_ble_eq_true rfl) (Nat.le_of_ble_eq_true rfl) ?_
        refine m_goto (tgt := 46) rfl rfl rfl ?_
        refine m_iret rfl rfl rfl (Nat.le_of_ble_eq_true rfl) (Nat.le_of_ble_eq_true rfl) ?_
        unfold moAct
        first | (rw [if_pos (by omega)]; exact ⟨rfl, rfl⟩) | (rw [if_neg (by omega), if_pos (by omega)]; exact ⟨rfl, rfl⟩) | (rw [if_neg (by omega), if_neg (by omega)]; exact ⟨rfl, rfl⟩)
    · refine m_iconst rfl rfl ?_
      refine m_goto (tgt := 27) rfl rfl rfl ?_
      refine m_pi (k := 0) rfl rfl (Nat.le_of_ble_eq_true rfl) rfl rfl rfl rfl (by first | decide | assumption | (simp only [cnt]; omega)) ?_
      refine m_aload_n rfl rfl rfl ?_
      refine m_gix (k := 0) (x := 2) rfl rfl (Nat.le_of_ble_eq_true rfl) rfl rfl (by first | decide | assumption | (simp only [cnt]; omega)) rfl ?_
      refine m_if_ne (tgt := 45) rfl rfl rfl (by omega) (fun c34 => ?_) (fun c34 => ?_)
      · refine m_iconst rfl rfl ?_
        refine m_iret rfl rfl rfl (Nat.le_of_ble_eq_true rfl) (Nat.le_of_ble_eq_true rfl) ?_
        unfold moAct
        first | (rw [if_pos (by omega)]; exact ⟨rfl, rfl⟩) | (rw [if_neg (by omega), if_pos (by omega)]; exact ⟨rfl, rfl⟩) | (rw [if_neg (by omega), if_neg (by omega)]; exact ⟨rfl, rfl⟩)
      · exfalso; omega
  · refine m_iconst rfl rfl ?_
    refine m_goto (tgt := 27) rfl rfl rfl ?_
    refine m_pi (k := 0) rfl rfl (Nat.le_of_ble_eq_true rfl) rfl rfl rfl rfl (by first | decide | assumption | (simp only [cnt]; omega)) ?_
    refine m_aload_n rfl rfl rfl ?_
    refine m_gix (k := 0) (x := 1) rfl rfl (Nat.le_of_ble_eq_true rfl) rfl rfl (by first | decide | assumption | (simp only [cnt]; omega)) rfl ?_
    refine m_if_ne (tgt := 45) rfl rfl rfl (by omega) (fun c34 => ?_) (fun c34 => ?_)
    · refine m_iconst rfl rfl ?_
      refine m_iret rfl rfl rfl (Nat.le_of_ble_eq_true rfl) (Nat.le_of_ble_eq_true rfl) ?_
      unfold moAct
      first | (rw [if_pos (by omega)]; exact ⟨rfl, rfl⟩) | (rw [if_neg (by omega), if_pos (by omega)]; exact ⟨rfl, rfl⟩) | (rw [if_neg (by omega), if_neg (by omega)]; exact ⟨rfl, rfl⟩)
    · exfalso; omega

def moHf (m : zkM) (r : Int) (t : Nat) (h : Int) : Int := if moHd m t = r then t else h
def moHol (m : zkM) (r : Int) : Int × zkM := if ¬ (0 ≤ r ∧ r ≤ 3) then (0, mset (mset m 7 0 0 0) 7 0 0 1) else (lp (moHf m r) (moN m) (-1), mset m 7 0 0 0)
set_option maxRecDepth 10000 in
theorem c_moholder {l : Launch} {G : zkG} {mem : zkM} (hl : l.stackTraces = false) {r : Int} (hA : moA mem) (hr : inR r) (h1 : ∀ t, t < 5 → inR (mem 36 0 t) ∧ inR (mem 37 0 t)) : zkCt l G i_Mo_holder 3 0 0 [vr 7 0, vi r] mem (zkR1 (vi (moHol mem r).1) (moHol mem r).2) := by
  refine zkCt_of hl ok_Mo_holder (by decide +kernel) rfl rfl (List.forall_mem_cons.mpr ⟨rfl, (List.forall_mem_cons.mpr ⟨rfl, fun _ h => nomatch h⟩)⟩) (Nat.le_of_ble_eq_true rfl) ?_
  have hn := moA_n hA
  refine m_aload_n rfl rfl rfl ?_
  refine m_iconst rfl rfl ?_
  refine m_pi (k := 0) rfl rfl (Nat.le_of_ble_eq_true rfl) rfl rfl rfl rfl (by first | decide | assumption | (simp only [cnt]; omega)) ?_
  refine m_iload_n rfl rfl rfl ?_
  refine m_iconst rfl rfl ?_
  refine m_iconst rfl rfl ?_
  refine m_cs1 rfl rfl lk_7_75 (c_isIn hl (by omega) (by omega) (by omega)) rfl rfl (Nat.le_of_ble_eq_true rfl) (Nat.le_of_ble_eq_true rfl) (Nat.le_of_ble_eq_true rfl) (Nat.le_of_ble_eq_true rfl) (Nat.le_of_ble_eq_true rfl) ?_
  refine m_if_ne_d (tgt := 20) rfl rfl rfl (fun c11 => ?_) (fun c11 => ?_)
  · refine m_iconst rfl rfl ?_
    refine m_istore_n rfl rfl (Nat.le_of_ble_eq_true rfl) rfl ?_
    refine m_iconst rfl rfl ?_
    refine m_istore_n rfl rfl (Nat.le_of_ble_eq_true rfl) rfl ?_
    refine zk_loop (P := fun (j : Nat) (s : Int) => zkW l G i_Mo_holder _ 0 0 24 [some (vr 7 0), some (vi r), some (vi s), some (vi j)] [] (mset mem 7 0 0 0)) (I := fun _ _ => True) (moHf mem r) (moN mem) (-1) trivial (fun _ _ _ _ => trivial) (fun j s hj _ hk => ?_) (fun _ => ?_)
    · have h2 := h1 j (by omega)
      have h3 := moHd_b hA (t := j) (by omega)
      unfold moHf at hk
      refine m_iload_n rfl rfl rfl ?_
      refine m_aload_n rfl rfl rfl ?_
      refine m_gix (k := 2) (x := mem 7 _ 2) rfl rfl (Nat.le_of_ble_eq_true rfl) rfl rfl (by first | decide | assumption | (simp only [cnt]; omega)) rfl ?_
      refine m_icmp_ge (tgt := 53) rfl rfl rfl (by omega) (by omega) (fun c29 => ?_) (fun c29 => ?_)
      · exfalso; omega
      · refine m_aload_n rfl rfl rfl ?_
        refine m_iload_n rfl rfl rfl ?_
        refine m_cv1 rfl rfl lk_7_171 (by have h := c_heldBy (l := l) (G := G) (mem := mset mem 7 0 0 0) hl (show moA _ from hA) (t := j) rfl (by omega) h2.1 h2.2; rw [moHd_T] at h; exact h) rfl (by first | decide | assumption | (simp only [cnt]; omega)) (Nat.le_of_ble_eq_true rfl) rfl rfl (Nat.le_of_ble_eq_true rfl) (Nat.le_of_ble_eq_true rfl) (Nat.le_of_ble_eq_true rfl) (Nat.le_of_ble_eq_true rfl) (Nat.le_of_ble_eq_true rfl) ?_
        refine m_iload_n rfl rfl rfl ?_
        refine m_icmp_ne (tgt := 45) rfl rfl rfl (by omega) (by omega) (fun c38 => ?_) (fun c38 => ?_)
        · refine m_iload_n rfl rfl rfl ?_
          refine m_istore_n rfl rfl (Nat.le_of_ble_eq_true rfl) rfl ?_
          refine m_iinc rfl rfl rfl (Nat.le_of_ble_eq_true rfl) rfl ?_
          refine m_goto (tgt := 24) rfl rfl rfl ?_
          first | (rw [if_pos (by omega)] at hk; exact hk) | (rw [if_neg (by omega)] at hk; exact hk)
        · refine m_iload_n rfl rfl rfl ?_
          refine m_goto (tgt := 46) rfl rfl rfl ?_
          refine m_istore_n rfl rfl (Nat.le_of_ble_eq_true rfl) rfl ?_
          refine m_iinc rfl rfl rfl (Nat.le_of_ble_eq_true rfl) rfl ?_
          refine m_goto (tgt := 24) rfl rfl rfl ?_
          first | (rw [if_pos (by omega)] at hk; exact hk) | (rw [if_neg (by omega)] at hk; exact hk)
    · refine m_iload_n rfl rfl rfl ?_
      refine m_aload_n rfl rfl rfl ?_
      refine m_gix (k := 2) (x := mem 7 _ 2) rfl rfl (Nat.le_of_ble_eq_true rfl) rfl rfl (by first | decide | assumption | (simp only [cnt]; omega)) rfl ?_
      refine m_icmp_ge (tgt := 53) rfl rfl rfl (by omega) (by omega) (fun c29 => ?_) (fun c29 => ?_)
      · refine m_iload_n rfl rfl rfl ?_
        refine m_iret rfl rfl rfl (Nat.le_of_ble_eq_true rfl) (Nat.le_of_ble_eq_true rfl) ?_
        unfold moHol
        first | (rw [if_neg (by omega)]; exact ⟨rfl, rfl⟩)
      · exfalso; omega
  · refine m_aload_n rfl rfl rfl ?_
    refine m_iconst rfl rfl ?_
    refine m_cv1 rfl rfl lk_7_114 (c_fail hl) rfl (by first | decide | assumption | (simp only [cnt]; omega)) (Nat.le_of_ble_eq_true rfl) rfl rfl (Nat.le_of_ble_eq_true rfl) (Nat.le_of_ble_eq_true rfl) (Nat.le_of_ble_eq_true rfl) (Nat.le_of_ble_eq_true rfl) (Nat.le_of_ble_eq_true rfl) ?_
    refine m_iret rfl rfl rfl (Nat.le_of_ble_eq_true rfl) (Nat.le_of_ble_eq_true rfl) ?_
    unfold moHol
    first | (rw [if_pos (by omega)]; exact ⟨rfl, rfl⟩)

def moRes (m : zkM) (x w : Int) : Int × zkM := if ¬ (0 ≤ x ∧ x ≤ m 7 0 2 - 1) then (0, mset m 7 0 0 1) else if ¬ (0 ≤ w ∧ w ≤ 5) then (0, mset m 7 0 0 2) else (m 39 0 (6 * x.toNat + w.toNat), mset m 7 0 0 0)
set_option maxRecDepth 10000 in
theorem c_moresult {l : Launch} {G : zkG} {mem : zkM} (hl : l.stackTraces = false) {x w : Int} (hx : inR x) (hw : inR w) (hm : 0 ≤ mem 7 0 2 ∧ mem 7 0 2 ≤ 5) : zkCt l G i_Mo_result 2 0 0 [vr 7 0, vi x, vi w] mem (zkR1 (vi (moRes mem x w).1) (moRes mem x w).2) := by
  refine zkCt_of hl ok_Mo_result (by decide +kernel) rfl rfl (List.forall_mem_cons.mpr ⟨rfl, (List.forall_mem_cons.mpr ⟨rfl, (List.forall_mem_cons.mpr ⟨rfl, fun _ h => nomatch h⟩)⟩)⟩) (Nat.le_of_ble_eq_true rfl) ?_
  refine m_aload_n rfl rfl rfl ?_
  refine m_aload_n rfl rfl rfl ?_
  refine m_iload_n rfl rfl rfl ?_
  refine m_cv1 rfl rfl lk_7_121 (c_isTask hl (by omega) (by omega)) rfl (by first | decide | assumption | (simp only [cnt]; omega)) (Nat.le_of_ble_eq_true rfl) rfl rfl (Nat.le_of_ble_eq_true rfl) (Nat.le_of_ble_eq_true rfl) (Nat.le_of_ble_eq_true rfl) (Nat.le_of_ble_eq_true rfl) (Nat.le_of_ble_eq_true rfl) ?_
  refine m_if_ne_d (tgt := 13) rfl rfl rfl (fun c6 => ?_) (fun c6 => ?_)
  · refine m_iload_n rfl rfl rfl ?_
    refine m_iconst rfl rfl ?_
    refine m_iconst rfl rfl ?_
    refine m_cs1 rfl rfl lk_7_75 (c_isIn hl (by omega) (by omega) (by omega)) rfl rfl (Nat.le_of_ble_eq_true rfl) (Nat.le_of_ble_eq_true rfl) (Nat.le_of_ble_eq_true rfl) (Nat.le_of_ble_eq_true rfl) (Nat.le_of_ble_eq_true rfl) ?_
    refine m_if_ne_d (tgt := 26) rfl rfl rfl (fun c19 => ?_) (fun c19 => ?_)
    · refine m_iconst rfl rfl ?_
      refine m_pi (k := 0) rfl rfl (Nat.le_of_ble_eq_true rfl) rfl rfl rfl rfl (by first | decide | assumption | (simp only [cnt]; omega)) ?_
      refine m_aload_n rfl rfl rfl ?_
      refine m_gix (k := 0) (x := 0) rfl rfl (Nat.le_of_ble_eq_true rfl) rfl rfl (by first | decide | assumption | (simp only [cnt]; omega)) rfl ?_
      refine m_if_ne (tgt := 51) rfl rfl rfl (by omega) (fun c34 => ?_) (fun c34 => ?_)
      · exfalso; omega
      · refine m_aload_n rfl rfl rfl ?_
        refine m_gr (k := 17) rfl rfl (Nat.le_of_ble_eq_true rfl) rfl rfl (by first | decide | assumption | (simp only [cnt]; omega)) ?_
        refine m_bipush rfl rfl (by decide) ?_
        refine m_iload_n rfl rfl rfl ?_
        refine m_imul rfl rfl ?_
        refine m_iload_n rfl rfl rfl ?_
        refine m_iadd rfl rfl ?_
        refine m_ialx (n := 6 * x.toNat + w.toNat) (y := mem 39 _ (6 * x.toNat + w.toNat)) rfl rfl (Nat.le_of_ble_eq_true rfl) rfl (by first | decide | assumption | (simp only [cnt]; omega)) (by omega) (by simp only [aln]; omega) rfl ?_
        refine m_goto (tgt := 52) rfl rfl rfl ?_
        refine m_iret rfl rfl rfl (Nat.le_of_ble_eq_true rfl) (Nat.le_of_ble_eq_true rfl) ?_
        unfold moRes
        first | (rw [if_pos (by omega)]; exact ⟨rfl, rfl⟩) | (rw [if_neg (by omega), if_pos (by omega)]; exact ⟨rfl, rfl⟩) | (rw [if_neg (by omega), if_neg (by omega)]; exact ⟨rfl, rfl⟩)
    · refine m_iconst rfl rfl ?_
      refine m_goto (tgt := 27) rfl rfl rfl ?_
      refine m_pi (k := 0) rfl rfl (Nat.le_of_ble_eq_true rfl) rfl rfl rfl rfl (by first | decide | assumption | (simp only [cnt]; omega)) ?_
      refine m_aload_n rfl rfl rfl ?_
      refine m_gix (k := 0) (x := 2) rfl rfl (Nat.le_of_ble_eq_true rfl) rfl rfl (by first | decide | assumption | (simp only [cnt]; omega)) rfl ?_
      refine m_if_ne (tgt := 51) rfl rfl rfl (by omega) (fun c34 => ?_) (fun c34 => ?_)
      · refine m_iconst rfl rfl ?_
        refine m_iret rfl rfl rfl (Nat.le_of_ble_eq_true rfl) (Nat.le_of_ble_eq_true rfl) ?_
        unfold moRes
        first | (rw [if_pos (by omega)]; exact ⟨rfl, rfl⟩) | (rw [if_neg (by omega), if_pos (by omega)]; exact ⟨rfl, rfl⟩) | (rw [if_neg (by omega), if_neg (by omega)]; exact ⟨rfl, rfl⟩)
      · exfalso; omega
  · refine m_iconst rfl rfl ?_
    refine m_goto (tgt := 27) rfl rfl rfl ?_
    refine m_pi (k := 0) rfl rfl (Nat.le_of_ble_eq_true rfl) rfl rfl rfl rfl (by first | decide | assumption | (simp only [cnt]; omega)) ?_
    refine m_aload_n rfl rfl rfl ?_
    refine m_gix (k := 0) (x := 1) rfl rfl (Nat.le_of_ble_eq_true rfl) rfl rfl (by first | decide | assumption | (simp only [cnt]; omega)) rfl ?_
    refine m_if_ne (tgt := 51) rfl rfl rfl (by omega) (fun c34 => ?_) (fun c34 => ?_)
    · refine m_iconst rfl rfl ?_
      refine m_iret rfl rfl rfl (Nat.le_of_ble_eq_true rfl) (Nat.le_of_ble_eq_true rfl) ?_
      unfold moRes
      first | (rw [if_pos (by omega)]; exact ⟨rfl, rfl⟩) | (rw [if_neg (by omega), if_pos (by omega)]; exact ⟨rfl, rfl⟩) | (rw [if_neg (by omega), if_neg (by omega)]; exact ⟨rfl, rfl⟩)
    · exfalso; omega

def moAvg (m : zkM) (x : Int) : UInt32 := FP.fdiv (FP.i2f (Int32.ofInt (m 40 0 x.toNat))) (FP.i2f (Int32.ofInt (m 39 0 (6 * x.toNat))))
def moAve (m : zkM) (x : Int) : UInt32 × zkM := if ¬ (0 ≤ x ∧ x ≤ m 7 0 2 - 1) then (FP.fconst0, mset m 7 0 0 1) else if m 39 0 (6 * x.toNat) = 0 then (FP.fconst0, mset m 7 0 0 2) else (moAvg m x, mset m 7 0 0 0)
set_option maxRecDepth 10000 in
theorem c_moaverage {l : Launch} {G : zkG} {mem : zkM} (hl : l.stackTraces = false) {x : Int} (hx : inR x) (hm : 0 ≤ mem 7 0 2 ∧ mem 7 0 2 ≤ 5) (hr : ∀ k, k < 30 → inR (mem 39 0 k)) (hN : 0 ≤ x ∧ x ≤ mem 7 0 2 - 1 → mem 39 0 (6 * x.toNat) ≠ 0 → vf_n32 (moAvg mem x)) : zkCt l G i_Mo_averageResponse 2 0 0 [vr 7 0, vi x] mem (zkR1 (vf (moAve mem x).1) (moAve mem x).2) := by
  refine zkCt_of hl ok_Mo_averageResponse (by decide +kernel) rfl rfl (List.forall_mem_cons.mpr ⟨rfl, (List.forall_mem_cons.mpr ⟨rfl, fun _ h => nomatch h⟩)⟩) (Nat.le_of_ble_eq_true rfl) ?_
  refine m_aload_n rfl rfl rfl ?_
  refine m_aload_n rfl rfl rfl ?_
  refine m_iload_n rfl rfl rfl ?_
  refine m_cv1 rfl rfl lk_7_121 (c_isTask hl (by omega) (by omega)) rfl (by first | decide | assumption | (simp only [cnt]; omega)) (Nat.le_of_ble_eq_true rfl) rfl rfl (Nat.le_of_ble_eq_true rfl) (Nat.le_of_ble_eq_true rfl) (Nat.le_of_ble_eq_true rfl) (Nat.le_of_ble_eq_true rfl) (Nat.le_of_ble_eq_true rfl) ?_
  refine m_if_ne_d (tgt := 13) rfl rfl rfl (fun c6 => ?_) (fun c6 => ?_)
  · have hr2 := hr (6 * x.toNat) (by omega)
    refine m_aload_n rfl rfl rfl ?_
    refine m_gr (k := 17) rfl rfl (Nat.le_of_ble_eq_true rfl) rfl rfl (by first | decide | assumption | (simp only [cnt]; omega)) ?_
    refine m_bipush rfl rfl (by decide) ?_
    refine m_iload_n rfl rfl rfl ?_
    refine m_imul rfl rfl ?_
    refine m_ialx (n := 6 * x.toNat) (y := mem 39 _ (6 * x.toNat)) rfl rfl (Nat.le_of_ble_eq_true rfl) rfl (by first | decide | assumption | (simp only [cnt]; omega)) (by omega) (by simp only [aln]; omega) rfl ?_
    refine m_if_ne (tgt := 29) rfl rfl rfl (by omega) (fun c22 => ?_) (fun c22 => ?_)
    · refine m_iconst rfl rfl ?_
      refine m_pi (k := 0) rfl rfl (Nat.le_of_ble_eq_true rfl) rfl rfl rfl rfl (by first | decide | assumption | (simp only [cnt]; omega)) ?_
      refine m_aload_n rfl rfl rfl ?_
      refine m_gix (k := 0) (x := 0) rfl rfl (Nat.le_of_ble_eq_true rfl) rfl rfl (by first | decide | assumption | (simp only [cnt]; omega)) rfl ?_
      refine m_if_ne (tgt := 61) rfl rfl rfl (by omega) (fun c37 => ?_) (fun c37 => ?_)
      · exfalso; omega
      · refine m_aload_n rfl rfl rfl ?_
        refine m_gr (k := 18) rfl rfl (Nat.le_of_ble_eq_true rfl) rfl rfl (by first | decide | assumption | (simp only [cnt]; omega)) ?_
        refine m_iload_n rfl rfl rfl ?_
        refine m_ialx (n := x.toNat) (y := mem 40 _ (x.toNat)) rfl rfl (Nat.le_of_ble_eq_true rfl) rfl (by first | decide | assumption | (simp only [cnt]; omega)) (by omega) (by simp only [aln]; omega) rfl ?_
        refine m_i2f rfl rfl ?_
        refine m_aload_n rfl rfl rfl ?_
        refine m_gr (k := 17) rfl rfl (Nat.le_of_ble_eq_true rfl) rfl rfl (by first | decide | assumption | (simp only [cnt]; omega)) ?_
        refine m_bipush rfl rfl (by decide) ?_
        refine m_iload_n rfl rfl rfl ?_
        refine m_imul rfl rfl ?_
        refine m_ialx (n := 6 * x.toNat) (y := mem 39 _ (6 * x.toNat)) rfl rfl (Nat.le_of_ble_eq_true rfl) rfl (by first | decide | assumption | (simp only [cnt]; omega)) (by omega) (by simp only [aln]; omega) rfl ?_
        refine m_i2f rfl rfl ?_
        refine m_fdiv rfl rfl (hN (by omega) (by omega)) ?_
        refine m_goto (tgt := 62) rfl rfl rfl ?_
        refine m_fret rfl rfl rfl (Nat.le_of_ble_eq_true rfl) (Nat.le_of_ble_eq_true rfl) ?_
        unfold moAve
        first | (rw [if_pos (by omega)]; exact ⟨rfl, rfl⟩) | (rw [if_neg (by omega), if_pos (by omega)]; exact ⟨rfl, rfl⟩) | (rw [if_neg (by omega), if_neg (by omega)]; exact ⟨rfl, rfl⟩)
    · refine m_iconst rfl rfl ?_
      refine m_goto (tgt := 30) rfl rfl rfl ?_
      refine m_pi (k := 0) rfl rfl (Nat.le_of_ble_eq_true rfl) rfl rfl rfl rfl (by first | decide | assumption | (simp only [cnt]; omega)) ?_
      refine m_aload_n rfl rfl rfl ?_
      refine m_gix (k := 0) (x := 2) rfl rfl (Nat.le_of_ble_eq_true rfl) rfl rfl (by first | decide | assumption | (simp only [cnt]; omega)) rfl ?_
      refine m_if_ne (tgt := 61) rfl rfl rfl (by omega) (fun c37 => ?_) (fun c37 => ?_)
      · refine m_fconst0 rfl rfl ?_
        refine m_fret rfl rfl rfl (Nat.le_of_ble_eq_true rfl) (Nat.le_of_ble_eq_true rfl) ?_
        unfold moAve
        first | (rw [if_pos (by omega)]; exact ⟨rfl, rfl⟩) | (rw [if_neg (by omega), if_pos (by omega)]; exact ⟨rfl, rfl⟩) | (rw [if_neg (by omega), if_neg (by omega)]; exact ⟨rfl, rfl⟩)
      · exfalso; omega
  · refine m_iconst rfl rfl ?_
    refine m_goto (tgt := 30) rfl rfl rfl ?_
    refine m_pi (k := 0) rfl rfl (Nat.le_of_ble_eq_true rfl) rfl rfl rfl rfl (by first | decide | assumption | (simp only [cnt]; omega)) ?_
    refine m_aload_n rfl rfl rfl ?_
    refine m_gix (k := 0) (x := 1) rfl rfl (Nat.le_of_ble_eq_true rfl) rfl rfl (by first | decide | assumption | (simp only [cnt]; omega)) rfl ?_
    refine m_if_ne (tgt := 61) rfl rfl rfl (by omega) (fun c37 => ?_) (fun c37 => ?_)
    · refine m_fconst0 rfl rfl ?_
      refine m_fret rfl rfl rfl (Nat.le_of_ble_eq_true rfl) (Nat.le_of_ble_eq_true rfl) ?_
      unfold moAve
      first | (rw [if_pos (by omega)]; exact ⟨rfl, rfl⟩) | (rw [if_neg (by omega), if_pos (by omega)]; exact ⟨rfl, rfl⟩) | (rw [if_neg (by omega), if_neg (by omega)]; exact ⟨rfl, rfl⟩)
    · exfalso; omega

def moBal (m : zkM) : Int × zkM := if 0 < m 7 0 6 then (m 7 0 19, mset m 7 0 0 0) else (0, mset (mset m 7 0 0 0) 7 0 0 1)
set_option maxRecDepth 10000 in
theorem c_mobalance {l : Launch} {G : zkG} {mem : zkM} (hl : l.stackTraces = false) (h6 : inR (mem 7 0 6)) : zkCt l G i_Mo_balance 1 0 0 [vr 7 0] mem (zkR1 (vi (moBal mem).1) (moBal mem).2) := by
  refine zkCt_of hl ok_Mo_balance (by decide +kernel) rfl rfl (List.forall_mem_cons.mpr ⟨rfl, fun _ h => nomatch h⟩) (Nat.le_of_ble_eq_true rfl) ?_
  refine m_aload_n rfl rfl rfl ?_
  refine m_iconst rfl rfl ?_
  refine m_pi (k := 0) rfl rfl (Nat.le_of_ble_eq_true rfl) rfl rfl rfl rfl (by first | decide | assumption | (simp only [cnt]; omega)) ?_
  refine m_aload_n rfl rfl rfl ?_
  refine m_cv1 rfl rfl lk_7_124 (show zkCt l G i_Mo_hasServer _ 0 0 _ _ (zkR1 (vi (b2i (decide (0 < mem 7 0 6)))) _) from c_hasServer hl (show inR (mem 7 0 6) by omega)) rfl (by first | decide | assumption | (simp only [cnt]; omega)) (Nat.le_of_ble_eq_true rfl) rfl rfl (Nat.le_of_ble_eq_true rfl) (Nat.le_of_ble_eq_true rfl) (Nat.le_of_ble_eq_true rfl) (Nat.le_of_ble_eq_true rfl) (Nat.le_of_ble_eq_true rfl) ?_
  refine m_if_eq_d (tgt := 19) rfl rfl rfl (fun c9 => ?_) (fun c9 => ?_)
  · refine m_aload_n rfl rfl rfl ?_
    refine m_iconst rfl rfl ?_
    refine m_cv1 rfl rfl lk_7_114 (c_fail hl) rfl (by first | decide | assumption | (simp only [cnt]; omega)) (Nat.le_of_ble_eq_true rfl) rfl rfl (Nat.le_of_ble_eq_true rfl) (Nat.le_of_ble_eq_true rfl) (Nat.le_of_ble_eq_true rfl) (Nat.le_of_ble_eq_true rfl) (Nat.le_of_ble_eq_true rfl) ?_
    refine m_iret rfl rfl rfl (Nat.le_of_ble_eq_true rfl) (Nat.le_of_ble_eq_true rfl) ?_
    unfold moBal
    first | (rw [if_pos (by omega)]; exact ⟨rfl, rfl⟩) | (rw [if_neg (by omega)]; exact ⟨rfl, rfl⟩)
  · refine m_aload_n rfl rfl rfl ?_
    refine m_gix (k := 19) (x := mem 7 _ 19) rfl rfl (Nat.le_of_ble_eq_true rfl) rfl rfl (by first | decide | assumption | (simp only [cnt]; omega)) rfl ?_
    refine m_goto (tgt := 24) rfl rfl rfl ?_
    refine m_iret rfl rfl rfl (Nat.le_of_ble_eq_true rfl) (Nat.le_of_ble_eq_true rfl) ?_
    unfold moBal
    first | (rw [if_pos (by omega)]; exact ⟨rfl, rfl⟩) | (rw [if_neg (by omega)]; exact ⟨rfl, rfl⟩)

def moNf (m : zkM) (k : Nat) (nx : Int) : Int := if nx = -1 then m 43 0 (2 * k) else min nx (m 43 0 (2 * k))
def moNr (m : zkM) : Int := lp (moNf m) (m 7 0 26).toNat (-1)
def moNex (m : zkM) : Int × zkM := if ¬ 0 < m 7 0 6 then (0, mset (mset m 7 0 0 0) 7 0 0 1) else if moNr m = -1 then (0, mset (mset m 7 0 0 0) 7 0 0 2) else (moNr m, mset m 7 0 0 0)
theorem moNf_b {m : zkM} (h : ∀ k, k < 800 → inR (m 43 0 k)) {k : Nat} (hk : k < 400) {s : Int} (hs : inR s) : inR (moNf m k s) := by
  have := h (2 * k) (by omega)
  unfold moNf
  split <;> omega
set_option maxRecDepth 10000 in
theorem c_monext {l : Launch} {G : zkG} {mem : zkM} (hl : l.stackTraces = false) (h6 : inR (mem 7 0 6)) (h26 : 0 ≤ mem 7 0 26 ∧ mem 7 0 26 ≤ 399) (hp : ∀ k, k < 800 → inR (mem 43 0 k)) : zkCt l G i_Mo_nextReplenishment 1 0 0 [vr 7 0] mem (zkR1 (vi (moNex mem).1) (moNex mem).2) := by
  refine zkCt_of hl ok_Mo_nextReplenishment (by decide +kernel) rfl rfl (List.forall_mem_cons.mpr ⟨rfl, fun _ h => nomatch h⟩) (Nat.le_of_ble_eq_true rfl) ?_
  refine m_aload_n rfl rfl rfl ?_
  refine m_iconst rfl rfl ?_
  refine m_pi (k := 0) rfl rfl (Nat.le_of_ble_eq_true rfl) rfl rfl rfl rfl (by first | decide | assumption | (simp only [cnt]; omega)) ?_
  refine m_aload_n rfl rfl rfl ?_
  refine m_cv1 rfl rfl lk_7_124 (show zkCt l G i_Mo_hasServer _ 0 0 _ _ (zkR1 (vi (b2i (decide (0 < mem 7 0 6)))) _) from c_hasServer hl (show inR (mem 7 0 6) by omega)) rfl (by first | decide | assumption | (simp only [cnt]; omega)) (Nat.le_of_ble_eq_true rfl) rfl rfl (Nat.le_of_ble_eq_true rfl) (Nat.le_of_ble_eq_true rfl) (Nat.le_of_ble_eq_true rfl) (Nat.le_of_ble_eq_true rfl) (Nat.le_of_ble_eq_true rfl) ?_
  refine m_if_ne_d (tgt := 18) rfl rfl rfl (fun c9 => ?_) (fun c9 => ?_)
  · refine m_iconst rfl rfl ?_
    refine m_istore_n rfl rfl (Nat.le_of_ble_eq_true rfl) rfl ?_
    refine m_iconst rfl rfl ?_
    refine m_istore_n rfl rfl (Nat.le_of_ble_eq_true rfl) rfl ?_
    refine zk_loop (P := fun (j : Nat) (s : Int) => zkW l G i_Mo_nextReplenishment _ 0 0 22 [some (vr 7 0), some (vi s), some (vi j)] [] (mset mem 7 0 0 0)) (I := fun _ s => inR s) (moNf mem) (mem 7 0 26).toNat (-1) (by omega) (fun j s hj hI => moNf_b hp (by omega) hI) (fun j s hj hI hk => ?_) (fun hI => ?_)
    · have h3 := hp (2 * j) (by omega)
      unfold moNf at hk
      refine m_iload_n rfl rfl rfl ?_
      refine m_aload_n rfl rfl rfl ?_
      refine m_gix (k := 26) (x := mem 7 _ 26) rfl rfl (Nat.le_of_ble_eq_true rfl) rfl rfl (by first | decide | assumption | (simp only [cnt]; omega)) rfl ?_
      refine m_icmp_ge (tgt := 65) rfl rfl rfl (by omega) (by omega) (fun c27 => ?_) (fun c27 => ?_)
      · exfalso; omega
      · refine m_iload_n rfl rfl rfl ?_
        refine m_iconst rfl rfl ?_
        refine m_icmp_ne (tgt := 46) rfl rfl rfl (by omega) (by omega) (fun c32 => ?_) (fun c32 => ?_)
        · refine m_iload_n rfl rfl rfl ?_
          refine m_aload_n rfl rfl rfl ?_
          refine m_gr (k := 25) rfl rfl (Nat.le_of_ble_eq_true rfl) rfl rfl (by first | decide | assumption | (simp only [cnt]; omega)) ?_
          refine m_iconst rfl rfl ?_
          refine m_iload_n rfl rfl rfl ?_
          refine m_imul rfl rfl ?_
          refine m_ialx (n := 2 * j) (y := mem 43 _ (2 * j)) rfl rfl (Nat.le_of_ble_eq_true rfl) rfl (by first | decide | assumption | (simp only [cnt]; omega)) (by omega) (by simp only [aln]; omega) rfl ?_
          refine m_min rfl rfl (by decide +kernel) (by omega) (by omega) (Nat.le_of_ble_eq_true rfl) (Nat.le_of_ble_eq_true rfl) (Nat.le_of_ble_eq_true rfl) (Nat.le_of_ble_eq_true rfl) ?_
          refine m_istore_n rfl rfl (Nat.le_of_ble_eq_true rfl) rfl ?_
          refine m_iinc rfl rfl rfl (Nat.le_of_ble_eq_true rfl) rfl ?_
          refine m_goto (tgt := 22) rfl rfl rfl ?_
          first | (rw [if_pos (by omega)] at hk; exact hk) | (rw [if_neg (by omega)] at hk; exact hk)
        · refine m_aload_n rfl rfl rfl ?_
          refine m_gr (k := 25) rfl rfl (Nat.le_of_ble_eq_true rfl) rfl rfl (by first | decide | assumption | (simp only [cnt]; omega)) ?_
          refine m_iconst rfl rfl ?_
          refine m_iload_n rfl rfl rfl ?_
          refine m_imul rfl rfl ?_
          refine m_ialx (n := 2 * j) (y := mem 43 _ (2 * j)) rfl rfl (Nat.le_of_ble_eq_true rfl) rfl (by first | decide | assumption | (simp only [cnt]; omega)) (by omega) (by simp only [aln]; omega) rfl ?_
          refine m_goto (tgt := 58) rfl rfl rfl ?_
          refine m_istore_n rfl rfl (Nat.le_of_ble_eq_true rfl) rfl ?_
          refine m_iinc rfl rfl rfl (Nat.le_of_ble_eq_true rfl) rfl ?_
          refine m_goto (tgt := 22) rfl rfl rfl ?_
          first | (rw [if_pos (by omega)] at hk; exact hk) | (rw [if_neg (by omega)] at hk; exact hk)
    · have e9 : moNr mem = lp (moNf mem) (mem 7 0 26).toNat (-1) := rfl
      rw [← e9] at hI ⊢
      refine m_iload_n rfl rfl rfl ?_
      refine m_aload_n rfl rfl rfl ?_
      refine m_gix (k := 26) (x := mem 7 _ 26) rfl rfl (Nat.le_of_ble_eq_true rfl) rfl rfl (by first | decide | assumption | (simp only [cnt]; omega)) rfl ?_
      refine m_icmp_ge (tgt := 65) rfl rfl rfl (by omega) (by omega) (fun c27 => ?_) (fun c27 => ?_)
      · refine m_iload_n rfl rfl rfl ?_
        refine m_iconst rfl rfl ?_
        refine m_icmp_ne (tgt := 78) rfl rfl rfl (by omega) (by omega) (fun c67 => ?_) (fun c67 => ?_)
        · refine m_iload_n rfl rfl rfl ?_
          refine m_iret rfl rfl rfl (Nat.le_of_ble_eq_true rfl) (Nat.le_of_ble_eq_true rfl) ?_
          unfold moNex
          first | (rw [if_neg (by omega), if_pos (by omega)]; exact ⟨rfl, rfl⟩) | (rw [if_neg (by omega), if_neg (by omega)]; exact ⟨rfl, rfl⟩)
        · refine m_aload_n rfl rfl rfl ?_
          refine m_iconst rfl rfl ?_
          refine m_cv1 rfl rfl lk_7_114 (c_fail hl) rfl (by first | decide | assumption | (simp only [cnt]; omega)) (Nat.le_of_ble_eq_true rfl) rfl rfl (Nat.le_of_ble_eq_true rfl) (Nat.le_of_ble_eq_true rfl) (Nat.le_of_ble_eq_true rfl) (Nat.le_of_ble_eq_true rfl) (Nat.le_of_ble_eq_true rfl) ?_
          refine m_goto (tgt := 79) rfl rfl rfl ?_
          refine m_iret rfl rfl rfl (Nat.le_of_ble_eq_true rfl) (Nat.le_of_ble_eq_true rfl) ?_
          unfold moNex
          first | (rw [if_neg (by omega), if_pos (by omega)]; exact ⟨rfl, rfl⟩) | (rw [if_neg (by omega), if_neg (by omega)]; exact ⟨rfl, rfl⟩)
      · exfalso; omega
  · refine m_aload_n rfl rfl rfl ?_
    refine m_iconst rfl rfl ?_
    refine m_cv1 rfl rfl lk_7_114 (c_fail hl) rfl (by first | decide | assumption | (simp only [cnt]; omega)) (Nat.le_of_ble_eq_true rfl) rfl rfl (Nat.le_of_ble_eq_true rfl) (Nat.le_of_ble_eq_true rfl) (Nat.le_of_ble_eq_true rfl) (Nat.le_of_ble_eq_true rfl) (Nat.le_of_ble_eq_true rfl) ?_
    refine m_iret rfl rfl rfl (Nat.le_of_ble_eq_true rfl) (Nat.le_of_ble_eq_true rfl) ?_
    unfold moNex
    first | (rw [if_pos (by omega)]; exact ⟨rfl, rfl⟩)

def moRq (m : zkM) (x : Int) : Int × zkM := if ¬ (0 ≤ x ∧ x ≤ m 7 0 9 - 1) then (0, mset m 7 0 0 1) else if m 42 0 x.toNat = -1 then (0, mset m 7 0 0 2) else (m 42 0 x.toNat - m 33 0 (2 * x.toNat), mset m 7 0 0 0)
set_option maxRecDepth 10000 in
theorem c_moreqresp {l : Launch} {G : zkG} {mem : zkM} (hl : l.stackTraces = false) {x : Int} (hx : inR x) (h9 : 0 ≤ mem 7 0 9 ∧ mem 7 0 9 ≤ 12) (hf : ∀ r, r < 12 → inR (mem 42 0 r)) : zkCt l G i_Mo_requestResponse 1 0 0 [vr 7 0, vi x] mem (zkR1 (vi (moRq mem x).1) (moRq mem x).2) := by
  refine zkCt_of hl ok_Mo_requestResponse (by decide +kernel) rfl rfl (List.forall_mem_cons.mpr ⟨rfl, (List.forall_mem_cons.mpr ⟨rfl, fun _ h => nomatch h⟩)⟩) (Nat.le_of_ble_eq_true rfl) ?_
  refine m_aload_n rfl rfl rfl ?_
  refine m_iload_n rfl rfl rfl ?_
  refine m_iconst rfl rfl ?_
  refine m_aload_n rfl rfl rfl ?_
  refine m_gix (k := 9) (x := mem 7 _ 9) rfl rfl (Nat.le_of_ble_eq_true rfl) rfl rfl (by first | decide | assumption | (simp only [cnt]; omega)) rfl ?_
  refine m_iconst rfl rfl ?_
  refine m_isub rfl rfl ?_
  refine m_cs1 rfl rfl lk_7_75 (c_isIn hl (by omega) (by omega) (by omega)) rfl rfl (Nat.le_of_ble_eq_true rfl) (Nat.le_of_ble_eq_true rfl) (Nat.le_of_ble_eq_true rfl) (Nat.le_of_ble_eq_true rfl) (Nat.le_of_ble_eq_true rfl) ?_
  refine m_if_ne_d (tgt := 19) rfl rfl rfl (fun c12 => ?_) (fun c12 => ?_)
  · have hf2 := hf x.toNat (by omega)
    refine m_aload_n rfl rfl rfl ?_
    refine m_gr (k := 24) rfl rfl (Nat.le_of_ble_eq_true rfl) rfl rfl (by first | decide | assumption | (simp only [cnt]; omega)) ?_
    refine m_iload_n rfl rfl rfl ?_
    refine m_ialx (n := x.toNat) (y := mem 42 _ (x.toNat)) rfl rfl (Nat.le_of_ble_eq_true rfl) rfl (by first | decide | assumption | (simp only [cnt]; omega)) (by omega) (by simp only [aln]; omega) rfl ?_
    refine m_iconst rfl rfl ?_
    refine m_icmp_ne (tgt := 33) rfl rfl rfl (by omega) (by omega) (fun c26 => ?_) (fun c26 => ?_)
    · refine m_iconst rfl rfl ?_
      refine m_pi (k := 0) rfl rfl (Nat.le_of_ble_eq_true rfl) rfl rfl rfl rfl (by first | decide | assumption | (simp only [cnt]; omega)) ?_
      refine m_aload_n rfl rfl rfl ?_
      refine m_gix (k := 0) (x := 0) rfl rfl (Nat.le_of_ble_eq_true rfl) rfl rfl (by first | decide | assumption | (simp only [cnt]; omega)) rfl ?_
      refine m_if_ne (tgt := 62) rfl rfl rfl (by omega) (fun c41 => ?_) (fun c41 => ?_)
      · exfalso; omega
      · refine m_aload_n rfl rfl rfl ?_
        refine m_gr (k := 24) rfl rfl (Nat.le_of_ble_eq_true rfl) rfl rfl (by first | decide | assumption | (simp only [cnt]; omega)) ?_
        refine m_iload_n rfl rfl rfl ?_
        refine m_ialx (n := x.toNat) (y := mem 42 _ (x.toNat)) rfl rfl (Nat.le_of_ble_eq_true rfl) rfl (by first | decide | assumption | (simp only [cnt]; omega)) (by omega) (by simp only [aln]; omega) rfl ?_
        refine m_aload_n rfl rfl rfl ?_
        refine m_gr (k := 10) rfl rfl (Nat.le_of_ble_eq_true rfl) rfl rfl (by first | decide | assumption | (simp only [cnt]; omega)) ?_
        refine m_iconst rfl rfl ?_
        refine m_iload_n rfl rfl rfl ?_
        refine m_imul rfl rfl ?_
        refine m_ialx (n := 2 * x.toNat) (y := mem 33 _ (2 * x.toNat)) rfl rfl (Nat.le_of_ble_eq_true rfl) rfl (by first | decide | assumption | (simp only [cnt]; omega)) (by omega) (by simp only [aln]; omega) rfl ?_
        refine m_isub rfl rfl ?_
        refine m_goto (tgt := 63) rfl rfl rfl ?_
        refine m_iret rfl rfl rfl (Nat.le_of_ble_eq_true rfl) (Nat.le_of_ble_eq_true rfl) ?_
        unfold moRq
        first | (rw [if_pos (by omega)]; exact ⟨rfl, rfl⟩) | (rw [if_neg (by omega), if_pos (by omega)]; exact ⟨rfl, rfl⟩) | (rw [if_neg (by omega), if_neg (by omega)]; exact ⟨rfl, rfl⟩)
    · refine m_iconst rfl rfl ?_
      refine m_goto (tgt := 34) rfl rfl rfl ?_
      refine m_pi (k := 0) rfl rfl (Nat.le_of_ble_eq_true rfl) rfl rfl rfl rfl (by first | decide | assumption | (simp only [cnt]; omega)) ?_
      refine m_aload_n rfl rfl rfl ?_
      refine m_gix (k := 0) (x := 2) rfl rfl (Nat.le_of_ble_eq_true rfl) rfl rfl (by first | decide | assumption | (simp only [cnt]; omega)) rfl ?_
      refine m_if_ne (tgt := 62) rfl rfl rfl (by omega) (fun c41 => ?_) (fun c41 => ?_)
      · refine m_iconst rfl rfl ?_
        refine m_iret rfl rfl rfl (Nat.le_of_ble_eq_true rfl) (Nat.le_of_ble_eq_true rfl) ?_
        unfold moRq
        first | (rw [if_pos (by omega)]; exact ⟨rfl, rfl⟩) | (rw [if_neg (by omega), if_pos (by omega)]; exact ⟨rfl, rfl⟩) | (rw [if_neg (by omega), if_neg (by omega)]; exact ⟨rfl, rfl⟩)
      · exfalso; omega
  · refine m_iconst rfl rfl ?_
    refine m_goto (tgt := 34) rfl rfl rfl ?_
    refine m_pi (k := 0) rfl rfl (Nat.le_of_ble_eq_true rfl) rfl rfl rfl rfl (by first | decide | assumption | (simp only [cnt]; omega)) ?_
    refine m_aload_n rfl rfl rfl ?_
    refine m_gix (k := 0) (x := 1) rfl rfl (Nat.le_of_ble_eq_true rfl) rfl rfl (by first | decide | assumption | (simp only [cnt]; omega)) rfl ?_
    refine m_if_ne (tgt := 62) rfl rfl rfl (by omega) (fun c41 => ?_) (fun c41 => ?_)
    · refine m_iconst rfl rfl ?_
      refine m_iret rfl rfl rfl (Nat.le_of_ble_eq_true rfl) (Nat.le_of_ble_eq_true rfl) ?_
      unfold moRq
      first | (rw [if_pos (by omega)]; exact ⟨rfl, rfl⟩) | (rw [if_neg (by omega), if_pos (by omega)]; exact ⟨rfl, rfl⟩) | (rw [if_neg (by omega), if_neg (by omega)]; exact ⟨rfl, rfl⟩)
    · exfalso; omega

def moUs (m : zkM) : Int := lp (fun t s => s + (if m 34 0 t = -1 then 0 else 1)) (m 7 0 11).toNat 0
def moUr (m : zkM) : UInt64 := FP.ddiv (FP.i2d (Int32.ofInt (moUs m))) (FP.i2d (Int32.ofInt (m 7 0 11)))
def moUtil (m : zkM) : UInt64 × zkM := if m 7 0 11 = 0 then (FP.i2d (Int32.ofInt 0), mset (mset m 7 0 0 0) 7 0 0 1) else (moUr m, mset m 7 0 0 0)
set_option maxRecDepth 10000 in
theorem c_moutil {l : Launch} {G : zkG} {mem : zkM} (hl : l.stackTraces = false) (hc : 0 ≤ mem 7 0 11 ∧ mem 7 0 11 ≤ 400) (hr : ∀ k, k < 400 → inR (mem 34 0 k)) (hN : mem 7 0 11 ≠ 0 → vf_n64 (moUr mem)) : zkCt l G i_Mo_utilization 1 0 0 [vr 7 0] mem (zkR1 (vd (moUtil mem).1) (moUtil mem).2) := by
  refine zkCt_of hl ok_Mo_utilization (by decide +kernel) rfl rfl (List.forall_mem_cons.mpr ⟨rfl, fun _ h => nomatch h⟩) (Nat.le_of_ble_eq_true rfl) ?_
  refine m_aload_n rfl rfl rfl ?_
  refine m_iconst rfl rfl ?_
  refine m_pi (k := 0) rfl rfl (Nat.le_of_ble_eq_true rfl) rfl rfl rfl rfl (by first | decide | assumption | (simp only [cnt]; omega)) ?_
  refine m_iconst rfl rfl ?_
  refine m_istore_n rfl rfl (Nat.le_of_ble_eq_true rfl) rfl ?_
  refine m_iconst rfl rfl ?_
  refine m_istore_n rfl rfl (Nat.le_of_ble_eq_true rfl) rfl ?_
  refine zk_loop (P := fun (j : Nat) (s : Int) => zkW l G i_Mo_utilization _ 0 0 9 [some (vr 7 0), some (vi s), some (vi j)] [] (mset mem 7 0 0 0)) (I := fun _ _ => True) (fun t s => s + (if mem 34 0 t = -1 then 0 else 1)) (mem 7 0 11).toNat 0 trivial (fun _ _ _ _ => trivial) (fun j s hj _ hk => ?_) (fun _ => ?_)
  · have h3 := hr j (by omega)
    refine m_iload_n rfl rfl rfl ?_
    refine m_aload_n rfl rfl rfl ?_
    refine m_gix (k := 11) (x := mem 7 _ 11) rfl rfl (Nat.le_of_ble_eq_true rfl) rfl rfl (by first | decide | assumption | (simp only [cnt]; omega)) rfl ?_
    refine m_icmp_ge (tgt := 41) rfl rfl rfl (by omega) (by omega) (fun c14 => ?_) (fun c14 => ?_)
    · exfalso; omega
    · refine m_iload_n rfl rfl rfl ?_
      refine m_aload_n rfl rfl rfl ?_
      refine m_gr (k := 12) rfl rfl (Nat.le_of_ble_eq_true rfl) rfl rfl (by first | decide | assumption | (simp only [cnt]; omega)) ?_
      refine m_iload_n rfl rfl rfl ?_
      refine m_ialx (n := j) (y := mem 34 _ (j)) rfl rfl (Nat.le_of_ble_eq_true rfl) rfl (by first | decide | assumption | (simp only [cnt]; omega)) (by omega) (by simp only [aln]; omega) rfl ?_
      refine m_iconst rfl rfl ?_
      refine m_icmp_ne (tgt := 32) rfl rfl rfl (by omega) (by omega) (fun c25 => ?_) (fun c25 => ?_)
      · refine m_iconst rfl rfl ?_
        refine m_iadd rfl rfl ?_
        refine m_istore_n rfl rfl (Nat.le_of_ble_eq_true rfl) rfl ?_
        refine m_iinc rfl rfl rfl (Nat.le_of_ble_eq_true rfl) rfl ?_
        refine m_goto (tgt := 9) rfl rfl rfl ?_
        first | (rw [if_pos (by omega)] at hk; exact hk) | (rw [if_neg (by omega)] at hk; exact hk)
      · refine m_iconst rfl rfl ?_
        refine m_goto (tgt := 33) rfl rfl rfl ?_
        refine m_iadd rfl rfl ?_
        refine m_istore_n rfl rfl (Nat.le_of_ble_eq_true rfl) rfl ?_
        refine m_iinc rfl rfl rfl (Nat.le_of_ble_eq_true rfl) rfl ?_
        refine m_goto (tgt := 9) rfl rfl rfl ?_
        first | (rw [if_pos (by omega)] at hk; exact hk) | (rw [if_neg (by omega)] at hk; exact hk)
  · refine m_iload_n rfl rfl rfl ?_
    refine m_aload_n rfl rfl rfl ?_
    refine m_gix (k := 11) (x := mem 7 _ 11) rfl rfl (Nat.le_of_ble_eq_true rfl) rfl rfl (by first | decide | assumption | (simp only [cnt]; omega)) rfl ?_
    refine m_icmp_ge (tgt := 41) rfl rfl rfl (by omega) (by omega) (fun c14 => ?_) (fun c14 => ?_)
    · refine m_aload_n rfl rfl rfl ?_
      refine m_gix (k := 11) (x := mem 7 _ 11) rfl rfl (Nat.le_of_ble_eq_true rfl) rfl rfl (by first | decide | assumption | (simp only [cnt]; omega)) rfl ?_
      refine m_if_ne (tgt := 57) rfl rfl rfl (by omega) (fun c45 => ?_) (fun c45 => ?_)
      · refine m_iload_n rfl rfl rfl ?_
        refine m_i2d rfl rfl ?_
        refine m_aload_n rfl rfl rfl ?_
        refine m_gix (k := 11) (x := mem 7 _ 11) rfl rfl (Nat.le_of_ble_eq_true rfl) rfl rfl (by first | decide | assumption | (simp only [cnt]; omega)) rfl ?_
        refine m_i2d rfl rfl ?_
        refine m_ddiv rfl rfl (hN (by omega)) ?_
        refine m_dret rfl rfl rfl (Nat.le_of_ble_eq_true rfl) (Nat.le_of_ble_eq_true rfl) ?_
        unfold moUtil
        first | (rw [if_pos (by omega)]; exact ⟨rfl, rfl⟩) | (rw [if_neg (by omega)]; exact ⟨rfl, rfl⟩)
      · refine m_aload_n rfl rfl rfl ?_
        refine m_iconst rfl rfl ?_
        refine m_cv1 rfl rfl lk_7_114 (c_fail hl) rfl (by first | decide | assumption | (simp only [cnt]; omega)) (Nat.le_of_ble_eq_true rfl) rfl rfl (Nat.le_of_ble_eq_true rfl) (Nat.le_of_ble_eq_true rfl) (Nat.le_of_ble_eq_true rfl) (Nat.le_of_ble_eq_true rfl) (Nat.le_of_ble_eq_true rfl) ?_
        refine m_i2d rfl rfl ?_
        refine m_goto (tgt := 65) rfl rfl rfl ?_
        refine m_dret rfl rfl rfl (Nat.le_of_ble_eq_true rfl) (Nat.le_of_ble_eq_true rfl) ?_
        unfold moUtil
        first | (rw [if_pos (by omega)]; exact ⟨rfl, rfl⟩) | (rw [if_neg (by omega)]; exact ⟨rfl, rfl⟩)
    · exfalso; omega

def dDiv (a b : Int) : UInt64 := FP.ddiv (FP.i2d (Int32.ofInt a)) (FP.i2d (Int32.ofInt b))
def moLf (m : zkM) (k : Nat) (s : UInt64) : UInt64 := FP.dadd s (dDiv (moDe m k) (moPe m k))
def moL0 (m : zkM) : UInt64 := lp (moLf m) (moN m) FP.dconst0
def moLoad (m : zkM) : UInt64 := if 0 < m 7 0 6 then FP.dadd (moL0 m) (dDiv (m 7 0 7) (m 7 0 8)) else moL0 m
def moLok (m : zkM) : Prop := (∀ j, j < moN m → vf_n64 (dDiv (moDe m j) (moPe m j)) ∧ vf_n64 (moLf m j (lp (moLf m) j FP.dconst0))) ∧ (0 < m 7 0 6 → vf_n64 (dDiv (m 7 0 7) (m 7 0 8)) ∧ vf_n64 (FP.dadd (moL0 m) (dDiv (m 7 0 7) (m 7 0 8))))
def moHfy (m : zkM) (k : Nat) (s : UInt64) : UInt64 := FP.dmul s (FP.dadd (dDiv (moDe m k) (moPe m k)) FP.dconst1)
def moH0 (m : zkM) : UInt64 := lp (moHfy m) (moN m) FP.dconst1
def moHyp (m : zkM) : UInt64 := if 0 < m 7 0 6 then FP.dmul (moH0 m) (FP.dadd (dDiv (m 7 0 7) (m 7 0 8)) FP.dconst1) else moH0 m
def moHok (m : zkM) : Prop := (∀ j, j < moN m → vf_n64 (dDiv (moDe m j) (moPe m j)) ∧ vf_n64 (FP.dadd (dDiv (moDe m j) (moPe m j)) FP.dconst1) ∧ vf_n64 (moHfy m j (lp (moHfy m) j FP.dconst1))) ∧ (0 < m 7 0 6 → vf_n64 (dDiv (m 7 0 7) (m 7 0 8)) ∧ vf_n64 (FP.dadd (dDiv (m 7 0 7) (m 7 0 8)) FP.dconst1) ∧ vf_n64 (FP.dmul (moH0 m) (FP.dadd (dDiv (m 7 0 7) (m 7 0 8)) FP.dconst1)))
set_option maxRecDepth 10000 in
theorem c_moload {l : Launch} {G : zkG} {mem : zkM} (hl : l.stackTraces = false) (hA : moA mem) (hN : moLok mem) : zkCt l G i_Mo_load 2 0 0 [vr 7 0] mem (zkR1 (vd (moLoad mem)) (mset mem 7 0 0 0)) := by
  refine zkCt_of hl ok_Mo_load (by decide +kernel) rfl rfl (List.forall_mem_cons.mpr ⟨rfl, fun _ h => nomatch h⟩) (Nat.le_of_ble_eq_true rfl) ?_
  have hn := moA_n hA
  have h6 := hA.2.2.2.2.2.1
  refine m_aload_n rfl rfl rfl ?_
  refine m_iconst rfl rfl ?_
  refine m_pi (k := 0) rfl rfl (Nat.le_of_ble_eq_true rfl) rfl rfl rfl rfl (by first | decide | assumption | (simp only [cnt]; omega)) ?_
  refine m_dconst0 rfl rfl ?_
  refine m_dstore_n rfl rfl (Nat.le_of_ble_eq_true rfl) rfl ?_
  refine m_iconst rfl rfl ?_
  refine m_istore_n rfl rfl (Nat.le_of_ble_eq_true rfl) rfl ?_
  refine zk_loop (P := fun (j : Nat) (s : UInt64) => zkW l G i_Mo_load _ 0 0 9 [some (vr 7 0), some (vd s), none, some (vi j)] [] (mset mem 7 0 0 0)) (I := fun j s => s = lp (moLf mem) j FP.dconst0) (moLf mem) (moN mem) FP.dconst0 rfl (fun j s hj hs => by rw [hs]; rfl) (fun j s hj hq hk => ?_) (fun _ => ?_)
  · refine m_iload_n rfl rfl rfl ?_
    refine m_aload_n rfl rfl rfl ?_
    refine m_gix (k := 2) (x := mem 7 _ 2) rfl rfl (Nat.le_of_ble_eq_true rfl) rfl rfl (by first | decide | assumption | (simp only [cnt]; omega)) rfl ?_
    refine m_icmp_ge (tgt := 39) rfl rfl rfl (by omega) (by omega) (fun c14 => ?_) (fun c14 => ?_)
    · exfalso; omega
    · refine m_dload_n rfl rfl rfl ?_
      refine m_aload_n rfl rfl rfl ?_
      refine m_iload_n rfl rfl rfl ?_
      refine m_cv1 rfl rfl lk_7_131 (show zkCt l G i_Mo_demandOf _ 0 0 _ _ (zkR1 (vi (moDe mem j)) _) from c_demandOf hl (show moA _ from hA) (i := j) rfl (by omega)) rfl (by first | decide | assumption | (simp only [cnt]; omega)) (Nat.le_of_ble_eq_true rfl) rfl rfl (Nat.le_of_ble_eq_true rfl) (Nat.le_of_ble_eq_true rfl) (Nat.le_of_ble_eq_true rfl) (Nat.le_of_ble_eq_true rfl) (Nat.le_of_ble_eq_true rfl) ?_
      refine m_i2d rfl rfl ?_
      refine m_aload_n rfl rfl rfl ?_
      refine m_iload_n rfl rfl rfl ?_
      refine m_cv1 rfl rfl lk_7_148 (show zkCt l G i_Mo_periodOf _ 0 0 _ _ (zkR1 (vi (moPe mem j)) _) from c_periodOf hl (i := j) rfl (by omega)) rfl (by first | decide | assumption | (simp only [cnt]; omega)) (Nat.le_of_ble_eq_true rfl) rfl rfl (Nat.le_of_ble_eq_true rfl) (Nat.le_of_ble_eq_true rfl) (Nat.le_of_ble_eq_true rfl) (Nat.le_of_ble_eq_true rfl) (Nat.le_of_ble_eq_true rfl) ?_
      refine m_i2d rfl rfl ?_
      refine m_ddiv rfl rfl (hN.1 j hj).1 ?_
      refine m_dadd rfl rfl (by rw [hq]; exact (hN.1 j hj).2) ?_
      refine m_dstore_n rfl rfl (Nat.le_of_ble_eq_true rfl) rfl ?_
      refine m_iinc rfl rfl rfl (Nat.le_of_ble_eq_true rfl) rfl ?_
      refine m_goto (tgt := 9) rfl rfl rfl ?_
      exact hk
  · refine m_iload_n rfl rfl rfl ?_
    refine m_aload_n rfl rfl rfl ?_
    refine m_gix (k := 2) (x := mem 7 _ 2) rfl rfl (Nat.le_of_ble_eq_true rfl) rfl rfl (by first | decide | assumption | (simp only [cnt]; omega)) rfl ?_
    refine m_icmp_ge (tgt := 39) rfl rfl rfl (by omega) (by omega) (fun c14 => ?_) (fun c14 => ?_)
    · refine m_aload_n rfl rfl rfl ?_
      refine m_cv1 rfl rfl lk_7_124 (show zkCt l G i_Mo_hasServer _ 0 0 _ _ (zkR1 (vi (b2i (decide (0 < mem 7 0 6)))) _) from c_hasServer hl (show inR (mem 7 0 6) by omega)) rfl (by first | decide | assumption | (simp only [cnt]; omega)) (Nat.le_of_ble_eq_true rfl) rfl rfl (Nat.le_of_ble_eq_true rfl) (Nat.le_of_ble_eq_true rfl) (Nat.le_of_ble_eq_true rfl) (Nat.le_of_ble_eq_true rfl) (Nat.le_of_ble_eq_true rfl) ?_
      refine m_if_eq_d (tgt := 62) rfl rfl rfl (fun c43 => ?_) (fun c43 => ?_)
      · refine m_dload_n rfl rfl rfl ?_
        refine m_dret rfl rfl rfl (Nat.le_of_ble_eq_true rfl) (Nat.le_of_ble_eq_true rfl) ?_
        unfold moLoad
        first | (rw [if_pos (by omega)]; exact ⟨rfl, rfl⟩) | (rw [if_neg (by omega)]; exact ⟨rfl, rfl⟩)
      · refine m_dload_n rfl rfl rfl ?_
        refine m_aload_n rfl rfl rfl ?_
        refine m_gix (k := 7) (x := mem 7 _ 7) rfl rfl (Nat.le_of_ble_eq_true rfl) rfl rfl (by first | decide | assumption | (simp only [cnt]; omega)) rfl ?_
        refine m_i2d rfl rfl ?_
        refine m_aload_n rfl rfl rfl ?_
        refine m_gix (k := 8) (x := mem 7 _ 8) rfl rfl (Nat.le_of_ble_eq_true rfl) rfl rfl (by first | decide | assumption | (simp only [cnt]; omega)) rfl ?_
        refine m_i2d rfl rfl ?_
        refine m_ddiv rfl rfl (hN.2 (by omega)).1 ?_
        refine m_dadd rfl rfl (hN.2 (by omega)).2 ?_
        refine m_goto (tgt := 63) rfl rfl rfl ?_
        refine m_dret rfl rfl rfl (Nat.le_of_ble_eq_true rfl) (Nat.le_of_ble_eq_true rfl) ?_
        unfold moLoad
        first | (rw [if_pos (by omega)]; exact ⟨rfl, rfl⟩) | (rw [if_neg (by omega)]; exact ⟨rfl, rfl⟩)
    · exfalso; omega

set_option maxRecDepth 10000 in
theorem c_mohyper {l : Launch} {G : zkG} {mem : zkM} (hl : l.stackTraces = false) (hA : moA mem) (hN : moHok mem) : zkCt l G i_Mo_hyperbolicLoad 2 0 0 [vr 7 0] mem (zkR1 (vd (moHyp mem)) (mset mem 7 0 0 0)) := by
  refine zkCt_of hl ok_Mo_hyperbolicLoad (by decide +kernel) rfl rfl (List.forall_mem_cons.mpr ⟨rfl, fun _ h => nomatch h⟩) (Nat.le_of_ble_eq_true rfl) ?_
  have hn := moA_n hA
  have h6 := hA.2.2.2.2.2.1
  refine m_aload_n rfl rfl rfl ?_
  refine m_iconst rfl rfl ?_
  refine m_pi (k := 0) rfl rfl (Nat.le_of_ble_eq_true rfl) rfl rfl rfl rfl (by first | decide | assumption | (simp only [cnt]; omega)) ?_
  refine m_dconst1 rfl rfl ?_
  refine m_dstore_n rfl rfl (Nat.le_of_ble_eq_true rfl) rfl ?_
  refine m_iconst rfl rfl ?_
  refine m_istore_n rfl rfl (Nat.le_of_ble_eq_true rfl) rfl ?_
  refine zk_loop (P := fun (j : Nat) (s : UInt64) => zkW l G i_Mo_hyperbolicLoad _ 0 0 9 [some (vr 7 0), some (vd s), none, some (vi j)] [] (mset mem 7 0 0 0)) (I := fun j s => s = lp (moHfy mem) j FP.dconst1) (moHfy mem) (moN mem) FP.dconst1 rfl (fun j s hj hs => by rw [hs]; rfl) (fun j s hj hq hk => ?_) (fun _ => ?_)
  · refine m_iload_n rfl rfl rfl ?_
    refine m_aload_n rfl rfl rfl ?_
    refine m_gix (k := 2) (x := mem 7 _ 2) rfl rfl (Nat.le_of_ble_eq_true rfl) rfl rfl (by first | decide | assumption | (simp only [cnt]; omega)) rfl ?_
    refine m_icmp_ge (tgt := 41) rfl rfl rfl (by omega) (by omega) (fun c14 => ?_) (fun c14 => ?_)
    · exfalso; omega
    · refine m_dload_n rfl rfl rfl ?_
      refine m_aload_n rfl rfl rfl ?_
      refine m_iload_n rfl rfl rfl ?_
      refine m_cv1 rfl rfl lk_7_131 (show zkCt l G i_Mo_demandOf _ 0 0 _ _ (zkR1 (vi (moDe mem j)) _) from c_demandOf hl (show moA _ from hA) (i := j) rfl (by omega)) rfl (by first | decide | assumption | (simp only [cnt]; omega)) (Nat.le_of_ble_eq_true rfl) rfl rfl (Nat.le_of_ble_eq_true rfl) (Nat.le_of_ble_eq_true rfl) (Nat.le_of_ble_eq_true rfl) (Nat.le_of_ble_eq_true rfl) (Nat.le_of_ble_eq_true rfl) ?_
      refine m_i2d rfl rfl ?_
      refine m_aload_n rfl rfl rfl ?_
      refine m_iload_n rfl rfl rfl ?_
      refine m_cv1 rfl rfl lk_7_148 (show zkCt l G i_Mo_periodOf _ 0 0 _ _ (zkR1 (vi (moPe mem j)) _) from c_periodOf hl (i := j) rfl (by omega)) rfl (by first | decide | assumption | (simp only [cnt]; omega)) (Nat.le_of_ble_eq_true rfl) rfl rfl (Nat.le_of_ble_eq_true rfl) (Nat.le_of_ble_eq_true rfl) (Nat.le_of_ble_eq_true rfl) (Nat.le_of_ble_eq_true rfl) (Nat.le_of_ble_eq_true rfl) ?_
      refine m_i2d rfl rfl ?_
      refine m_ddiv rfl rfl (hN.1 j hj).1 ?_
      refine m_dconst1 rfl rfl ?_
      refine m_dadd rfl rfl (hN.1 j hj).2.1 ?_
      refine m_dmul rfl rfl (by rw [hq]; exact (hN.1 j hj).2.2) ?_
      refine m_dstore_n rfl rfl (Nat.le_of_ble_eq_true rfl) rfl ?_
      refine m_iinc rfl rfl rfl (Nat.le_of_ble_eq_true rfl) rfl ?_
      refine m_goto (tgt := 9) rfl rfl rfl ?_
      exact hk
  · refine m_iload_n rfl rfl rfl ?_
    refine m_aload_n rfl rfl rfl ?_
    refine m_gix (k := 2) (x := mem 7 _ 2) rfl rfl (Nat.le_of_ble_eq_true rfl) rfl rfl (by first | decide | assumption | (simp only [cnt]; omega)) rfl ?_
    refine m_icmp_ge (tgt := 41) rfl rfl rfl (by omega) (by omega) (fun c14 => ?_) (fun c14 => ?_)
    · refine m_aload_n rfl rfl rfl ?_
      refine m_cv1 rfl rfl lk_7_124 (show zkCt l G i_Mo_hasServer _ 0 0 _ _ (zkR1 (vi (b2i (decide (0 < mem 7 0 6)))) _) from c_hasServer hl (show inR (mem 7 0 6) by omega)) rfl (by first | decide | assumption | (simp only [cnt]; omega)) (Nat.le_of_ble_eq_true rfl) rfl rfl (Nat.le_of_ble_eq_true rfl) (Nat.le_of_ble_eq_true rfl) (Nat.le_of_ble_eq_true rfl) (Nat.le_of_ble_eq_true rfl) (Nat.le_of_ble_eq_true rfl) ?_
      refine m_if_eq_d (tgt := 66) rfl rfl rfl (fun c45 => ?_) (fun c45 => ?_)
      · refine m_dload_n rfl rfl rfl ?_
        refine m_dret rfl rfl rfl (Nat.le_of_ble_eq_true rfl) (Nat.le_of_ble_eq_true rfl) ?_
        unfold moHyp
        first | (rw [if_pos (by omega)]; exact ⟨rfl, rfl⟩) | (rw [if_neg (by omega)]; exact ⟨rfl, rfl⟩)
      · refine m_dload_n rfl rfl rfl ?_
        refine m_aload_n rfl rfl rfl ?_
        refine m_gix (k := 7) (x := mem 7 _ 7) rfl rfl (Nat.le_of_ble_eq_true rfl) rfl rfl (by first | decide | assumption | (simp only [cnt]; omega)) rfl ?_
        refine m_i2d rfl rfl ?_
        refine m_aload_n rfl rfl rfl ?_
        refine m_gix (k := 8) (x := mem 7 _ 8) rfl rfl (Nat.le_of_ble_eq_true rfl) rfl rfl (by first | decide | assumption | (simp only [cnt]; omega)) rfl ?_
        refine m_i2d rfl rfl ?_
        refine m_ddiv rfl rfl (hN.2 (by omega)).1 ?_
        refine m_dconst1 rfl rfl ?_
        refine m_dadd rfl rfl (hN.2 (by omega)).2.1 ?_
        refine m_dmul rfl rfl (hN.2 (by omega)).2.2 ?_
        refine m_goto (tgt := 67) rfl rfl rfl ?_
        refine m_dret rfl rfl rfl (Nat.le_of_ble_eq_true rfl) (Nat.le_of_ble_eq_true rfl) ?_
        unfold moHyp
        first | (rw [if_pos (by omega)]; exact ⟨rfl, rfl⟩) | (rw [if_neg (by omega)]; exact ⟨rfl, rfl⟩)
    · exfalso; omega

