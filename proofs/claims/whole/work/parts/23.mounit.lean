/-! the reference: what is held, what is most urgent -/
def moSNf (m : zkM) (t : Nat) : Nat → Nat → Int → Int
  | 0, _, _ => -1
  | r + 1, k, b => if m 37 0 t < b + moLe m t k then (if m 37 0 t = b then -1 else k) else moSNf m t r (k + 1) (b + moLe m t k)
def moSN (m : zkM) (t : Nat) : Int := moSNf m t (moS m t) 0 0
theorem moSNf_b {m : zkM} {t : Nat} : ∀ (r k : Nat) (b : Int), -1 ≤ moSNf m t r k b ∧ moSNf m t r k b < ((r + k : Nat) : Int)
  | 0, k, b => by unfold moSNf; omega
  | r + 1, k, b => by
    unfold moSNf
    have := moSNf_b (m := m) (t := t) r (k + 1) (b + moLe m t k)
    split
    · split <;> omega
    · omega
theorem moSN_b {m : zkM} (h : moA m) {t : Nat} (ht : t < 5) : -1 ≤ moSN m t ∧ moSN m t < 6 := by
  have h1 := moA_s h ht
  have h2 := moSNf_b (m := m) (t := t) (moS m t) 0 0
  unfold moSN
  omega
def moHd (m : zkM) (t : Nat) : Int := if m 36 0 t = 0 then -1 else if moSN m t = -1 then -1 else moRe m t (moSN m t).toNat
theorem moHd_b {m : zkM} (h : moA m) {t : Nat} (ht : t < 5) : -1 ≤ moHd m t ∧ moHd m t ≤ 3 := by
  have h1 := moSN_b h ht
  unfold moHd
  split
  · omega
  · split
    · omega
    · have := (moA_r h ht (k := (moSN m t).toNat) (by omega)).1
      omega
def moAc (m : zkM) (t : Nat) : Int := if moHd m t = -1 then moPr m t else max (moPr m t) (moCe m (moHd m t))
theorem moAc_b {m : zkM} (h : moA m) {t : Nat} (ht : t < 5) : 0 ≤ moAc m t ∧ moAc m t ≤ 9 := by
  have h1 := moA_p h ht
  have h2 := moCe_b h (moHd m t)
  unfold moAc
  split <;> omega
set_option maxRecDepth 10000 in
theorem w_segmentNow {l : Launch} {G : zkG} {mem : zkM} (hl : l.stackTraces = false) {t : Nat} (hA : moA mem) (ht : t < 5) (hp : inR (mem 37 0 t)) : ∀ (r k : Nat) (b : Int), r + k = moS mem t → (0 ≤ b ∧ b ≤ 9 * (k : Int)) → zkW l G i_Mo_segmentNow (zkKm G 1 0 0 (zkR1 (vi (moSNf mem t r k b)) mem)) 0 0 5 [some (vr 7 0), some (vi t), some (vi 1), some (vi b), some (vi k), none] [] mem := by
  have hs := moA_s hA ht
  intro r
  induction r with
  | zero =>
    intro k b h1 h2
    refine m_iload rfl rfl rfl ?_
    refine m_aload_n rfl rfl rfl ?_
    refine m_gr (k := 4) rfl rfl (Nat.le_of_ble_eq_true rfl) rfl rfl (by first | decide | assumption | (simp only [cnt]; omega)) ?_
    refine m_iload_n rfl rfl rfl ?_
    refine m_ialx (n := t) (y := mem 31 _ (t)) rfl rfl (Nat.le_of_ble_eq_true rfl) rfl (by first | decide | assumption | (simp only [cnt]; omega)) (by omega) (by simp only [aln]; omega) rfl ?_
    refine m_icmp_ge (tgt := 68) rfl rfl rfl (by omega) (by omega) (fun c13 => ?_) (fun c13 => ?_)
    · refine m_iconst rfl rfl ?_
      refine m_iret rfl rfl rfl (Nat.le_of_ble_eq_true rfl) (Nat.le_of_ble_eq_true rfl) ?_
      exact ⟨rfl, rfl⟩
    · exfalso; omega
  | succ r ih =>
    intro k b h1 h2
    have hr := (moA_r hA ht (k := k) (by omega)).2
    refine m_iload rfl rfl rfl ?_
    refine m_aload_n rfl rfl rfl ?_
    refine m_gr (k := 4) rfl rfl (Nat.le_of_ble_eq_true rfl) rfl rfl (by first | decide | assumption | (simp only [cnt]; omega)) ?_
    refine m_iload_n rfl rfl rfl ?_
    refine m_ialx (n := t) (y := mem 31 _ (t)) rfl rfl (Nat.le_of_ble_eq_true rfl) rfl (by first | decide | assumption | (simp only [cnt]; omega)) (by omega) (by simp only [aln]; omega) rfl ?_
    refine m_icmp_ge (tgt := 68) rfl rfl rfl (by omega) (by omega) (fun c13 => ?_) (fun c13 => ?_)
    · exfalso; omega
    · refine m_iload_n rfl rfl rfl ?_
      refine m_aload_n rfl rfl rfl ?_
      refine m_iload_n rfl rfl rfl ?_
      refine m_iload rfl rfl rfl ?_
      refine m_cv1 rfl rfl lk_7_79 (c_lengthAt hl (i := _) (k := _) rfl rfl (by omega) (by omega)) rfl (by first | decide | assumption | (simp only [cnt]; omega)) (Nat.le_of_ble_eq_true rfl) rfl rfl (Nat.le_of_ble_eq_true rfl) (Nat.le_of_ble_eq_true rfl) (Nat.le_of_ble_eq_true rfl) (Nat.le_of_ble_eq_true rfl) (Nat.le_of_ble_eq_true rfl) ?_
      refine m_iadd rfl rfl ?_
      refine m_istore rfl rfl (Nat.le_of_ble_eq_true rfl) rfl ?_
      refine m_aload_n rfl rfl rfl ?_
      refine m_gr (k := 15) rfl rfl (Nat.le_of_ble_eq_true rfl) rfl rfl (by first | decide | assumption | (simp only [cnt]; omega)) ?_
      refine m_iload_n rfl rfl rfl ?_
      refine m_ialx (n := t) (y := mem 37 _ (t)) rfl rfl (Nat.le_of_ble_eq_true rfl) rfl (by first | decide | assumption | (simp only [cnt]; omega)) (by omega) (by simp only [aln]; omega) rfl ?_
      refine m_iload rfl rfl rfl ?_
      refine m_icmp_ge (tgt := 59) rfl rfl rfl (by omega) (by omega) (fun c35 => ?_) (fun c35 => ?_)
      · refine m_iload rfl rfl rfl ?_
        refine m_istore_n rfl rfl (Nat.le_of_ble_eq_true rfl) rfl ?_
        refine m_iinc rfl rfl rfl (Nat.le_of_ble_eq_true rfl) rfl ?_
        refine m_goto (tgt := 5) rfl rfl rfl ?_
        refine zk_fg 5 ?_
        have h3 := ih (k + 1) (b + moLe mem t k) (by omega) (by omega)
        unfold moSNf
        rw [if_neg (by omega)]
        exact h3
      · refine m_iload_n rfl rfl rfl ?_
        refine m_if_eq (tgt := 56) rfl rfl rfl (by omega) (fun c39 => ?_) (fun c39 => ?_)
        · exfalso; omega
        · refine m_aload_n rfl rfl rfl ?_
          refine m_gr (k := 15) rfl rfl (Nat.le_of_ble_eq_true rfl) rfl rfl (by first | decide | assumption | (simp only [cnt]; omega)) ?_
          refine m_iload_n rfl rfl rfl ?_
          refine m_ialx (n := t) (y := mem 37 _ (t)) rfl rfl (Nat.le_of_ble_eq_true rfl) rfl (by first | decide | assumption | (simp only [cnt]; omega)) (by omega) (by simp only [aln]; omega) rfl ?_
          refine m_iload_n rfl rfl rfl ?_
          refine m_icmp_ne (tgt := 56) rfl rfl rfl (by omega) (by omega) (fun c49 => ?_) (fun c49 => ?_)
          · refine m_iload rfl rfl rfl ?_
            refine m_iret rfl rfl rfl (Nat.le_of_ble_eq_true rfl) (Nat.le_of_ble_eq_true rfl) ?_
            unfold moSNf
            rw [if_pos (by omega)]
            first | (rw [if_pos (by omega)]; exact ⟨rfl, rfl⟩) | (rw [if_neg (by omega)]; exact ⟨rfl, rfl⟩)
          · refine m_iconst rfl rfl ?_
            refine m_goto (tgt := 58) rfl rfl rfl ?_
            refine m_iret rfl rfl rfl (Nat.le_of_ble_eq_true rfl) (Nat.le_of_ble_eq_true rfl) ?_
            unfold moSNf
            rw [if_pos (by omega)]
            first | (rw [if_pos (by omega)]; exact ⟨rfl, rfl⟩) | (rw [if_neg (by omega)]; exact ⟨rfl, rfl⟩)

set_option maxRecDepth 10000 in
theorem c_segmentNow {l : Launch} {G : zkG} {mem : zkM} (hl : l.stackTraces = false) {x : Int} {t : Nat} (hA : moA mem) (hx : x = t) (ht : t < 5) (hp : inR (mem 37 0 t)) : zkCt l G i_Mo_segmentNow 1 0 0 [vr 7 0, vi x, vi 1] mem (zkR1 (vi (moSN mem t)) mem) := by
  refine zkCt_of hl ok_Mo_segmentNow (by decide +kernel) rfl rfl (List.forall_mem_cons.mpr ⟨rfl, (List.forall_mem_cons.mpr ⟨rfl, (List.forall_mem_cons.mpr ⟨rfl, fun _ h => nomatch h⟩)⟩)⟩) (Nat.le_of_ble_eq_true rfl) ?_
  subst hx
  refine m_iconst rfl rfl ?_
  refine m_istore_n rfl rfl (Nat.le_of_ble_eq_true rfl) rfl ?_
  refine m_iconst rfl rfl ?_
  refine m_istore rfl rfl (Nat.le_of_ble_eq_true rfl) rfl ?_
  exact w_segmentNow hl hA ht hp (moS mem t) 0 0 (by omega) (by omega)

set_option maxRecDepth 10000 in
theorem c_heldBy {l : Launch} {G : zkG} {mem : zkM} (hl : l.stackTraces = false) {x : Int} {t : Nat} (hA : moA mem) (hx : x = t) (ht : t < 5) (hj : inR (mem 36 0 t)) (hp : inR (mem 37 0 t)) : zkCt l G i_Mo_heldBy 2 0 0 [vr 7 0, vi x] mem (zkR1 (vi (moHd mem t)) mem) := by
  refine zkCt_of hl ok_Mo_heldBy (by decide +kernel) rfl rfl (List.forall_mem_cons.mpr ⟨rfl, (List.forall_mem_cons.mpr ⟨rfl, fun _ h => nomatch h⟩)⟩) (Nat.le_of_ble_eq_true rfl) ?_
  subst hx
  have hsn := moSN_b hA ht
  refine m_aload_n rfl rfl rfl ?_
  refine m_gr (k := 14) rfl rfl (Nat.le_of_ble_eq_true rfl) rfl rfl (by first | decide | assumption | (simp only [cnt]; omega)) ?_
  refine m_iload_n rfl rfl rfl ?_
  refine m_ialx (n := t) (y := mem 36 _ (t)) rfl rfl (Nat.le_of_ble_eq_true rfl) rfl (by first | decide | assumption | (simp only [cnt]; omega)) (by omega) (by simp only [aln]; omega) rfl ?_
  refine m_if_ne (tgt := 13) rfl rfl rfl (by omega) (fun c6 => ?_) (fun c6 => ?_)
  · refine m_aload_n rfl rfl rfl ?_
    refine m_iload_n rfl rfl rfl ?_
    refine m_iconst rfl rfl ?_
    refine m_cv1 rfl rfl lk_7_167 (c_segmentNow hl hA (t := _) rfl (by omega) (by omega)) rfl (by first | decide | assumption | (simp only [cnt]; omega)) (Nat.le_of_ble_eq_true rfl) rfl rfl (Nat.le_of_ble_eq_true rfl) (Nat.le_of_ble_eq_true rfl) (Nat.le_of_ble_eq_true rfl) (Nat.le_of_ble_eq_true rfl) (Nat.le_of_ble_eq_true rfl) ?_
    refine m_istore_n rfl rfl (Nat.le_of_ble_eq_true rfl) rfl ?_
    refine m_iload_n rfl rfl rfl ?_
    refine m_iconst rfl rfl ?_
    refine m_icmp_ne (tgt := 29) rfl rfl rfl (by omega) (by omega) (fun c22 => ?_) (fun c22 => ?_)
    · refine m_aload_n rfl rfl rfl ?_
      refine m_iload_n rfl rfl rfl ?_
      refine m_iload_n rfl rfl rfl ?_
      refine m_cv1 rfl rfl lk_7_134 (c_resourceAt hl (i := t) (k := (moSN mem t).toNat) rfl (by omega) (by omega) (by omega)) rfl (by first | decide | assumption | (simp only [cnt]; omega)) (Nat.le_of_ble_eq_true rfl) rfl rfl (Nat.le_of_ble_eq_true rfl) (Nat.le_of_ble_eq_true rfl) (Nat.le_of_ble_eq_true rfl) (Nat.le_of_ble_eq_true rfl) (Nat.le_of_ble_eq_true rfl) ?_
      refine m_iret rfl rfl rfl (Nat.le_of_ble_eq_true rfl) (Nat.le_of_ble_eq_true rfl) ?_
      unfold moHd
      first | (exfalso; omega) | (rw [if_pos (by omega)]; exact ⟨rfl, rfl⟩) | (rw [if_neg (by omega), if_pos (by omega)]; exact ⟨rfl, rfl⟩) | (rw [if_neg (by omega), if_neg (by omega)]; exact ⟨rfl, rfl⟩)
    · refine m_iconst rfl rfl ?_
      refine m_goto (tgt := 35) rfl rfl rfl ?_
      refine m_iret rfl rfl rfl (Nat.le_of_ble_eq_true rfl) (Nat.le_of_ble_eq_true rfl) ?_
      unfold moHd
      first | (exfalso; omega) | (rw [if_pos (by omega)]; exact ⟨rfl, rfl⟩) | (rw [if_neg (by omega), if_pos (by omega)]; exact ⟨rfl, rfl⟩) | (rw [if_neg (by omega), if_neg (by omega)]; exact ⟨rfl, rfl⟩)
  · refine m_iconst rfl rfl ?_
    refine m_goto (tgt := 19) rfl rfl rfl ?_
    refine m_istore_n rfl rfl (Nat.le_of_ble_eq_true rfl) rfl ?_
    refine m_iload_n rfl rfl rfl ?_
    refine m_iconst rfl rfl ?_
    refine m_icmp_ne (tgt := 29) rfl rfl rfl (by omega) (by omega) (fun c22 => ?_) (fun c22 => ?_)
    · exfalso; omega
    · refine m_iconst rfl rfl ?_
      refine m_goto (tgt := 35) rfl rfl rfl ?_
      refine m_iret rfl rfl rfl (Nat.le_of_ble_eq_true rfl) (Nat.le_of_ble_eq_true rfl) ?_
      unfold moHd
      first | (exfalso; omega) | (rw [if_pos (by omega)]; exact ⟨rfl, rfl⟩) | (rw [if_neg (by omega), if_pos (by omega)]; exact ⟨rfl, rfl⟩) | (rw [if_neg (by omega), if_neg (by omega)]; exact ⟨rfl, rfl⟩)

set_option maxRecDepth 10000 in
theorem c_activeOf {l : Launch} {G : zkG} {mem : zkM} (hl : l.stackTraces = false) {x : Int} {t : Nat} (hA : moA mem) (hx : x = t) (ht : t < 5) (hj : inR (mem 36 0 t)) (hp : inR (mem 37 0 t)) : zkCt l G i_Mo_activeOf 3 0 0 [vr 7 0, vi x] mem (zkR1 (vi (moAc mem t)) mem) := by
  refine zkCt_of hl ok_Mo_activeOf (by decide +kernel) rfl rfl (List.forall_mem_cons.mpr ⟨rfl, (List.forall_mem_cons.mpr ⟨rfl, fun _ h => nomatch h⟩)⟩) (Nat.le_of_ble_eq_true rfl) ?_
  subst hx
  have hhd := moHd_b hA ht
  have hpr := moA_p hA ht
  have hce := moCe_b hA (moHd mem t)
  refine m_aload_n rfl rfl rfl ?_
  refine m_iload_n rfl rfl rfl ?_
  refine m_cv1 rfl rfl lk_7_171 (c_heldBy hl hA (t := _) rfl (by omega) (by omega) (by omega)) rfl (by first | decide | assumption | (simp only [cnt]; omega)) (Nat.le_of_ble_eq_true rfl) rfl rfl (Nat.le_of_ble_eq_true rfl) (Nat.le_of_ble_eq_true rfl) (Nat.le_of_ble_eq_true rfl) (Nat.le_of_ble_eq_true rfl) (Nat.le_of_ble_eq_true rfl) ?_
  refine m_istore_n rfl rfl (Nat.le_of_ble_eq_true rfl) rfl ?_
  refine m_iload_n rfl rfl rfl ?_
  refine m_iconst rfl rfl ?_
  refine m_icmp_ne (tgt := 19) rfl rfl rfl (by omega) (by omega) (fun c8 => ?_) (fun c8 => ?_)
  · refine m_aload_n rfl rfl rfl ?_
    refine m_iload_n rfl rfl rfl ?_
    refine m_cv1 rfl rfl lk_7_110 (c_priorityOf hl (i := _) rfl (by omega)) rfl (by first | decide | assumption | (simp only [cnt]; omega)) (Nat.le_of_ble_eq_true rfl) rfl rfl (Nat.le_of_ble_eq_true rfl) (Nat.le_of_ble_eq_true rfl) (Nat.le_of_ble_eq_true rfl) (Nat.le_of_ble_eq_true rfl) (Nat.le_of_ble_eq_true rfl) ?_
    refine m_aload_n rfl rfl rfl ?_
    refine m_iload_n rfl rfl rfl ?_
    refine m_cv1 rfl rfl lk_7_142 (c_ceilingOf hl hA (by omega)) rfl (by first | decide | assumption | (simp only [cnt]; omega)) (Nat.le_of_ble_eq_true rfl) rfl rfl (Nat.le_of_ble_eq_true rfl) (Nat.le_of_ble_eq_true rfl) (Nat.le_of_ble_eq_true rfl) (Nat.le_of_ble_eq_true rfl) (Nat.le_of_ble_eq_true rfl) ?_
    refine m_max rfl rfl (by decide +kernel) (by omega) (by omega) (Nat.le_of_ble_eq_true rfl) (Nat.le_of_ble_eq_true rfl) (Nat.le_of_ble_eq_true rfl) (Nat.le_of_ble_eq_true rfl) ?_
    refine m_iret rfl rfl rfl (Nat.le_of_ble_eq_true rfl) (Nat.le_of_ble_eq_true rfl) ?_
    unfold moAc
    first | (rw [if_pos (by omega)]; exact ⟨rfl, rfl⟩) | (rw [if_neg (by omega)]; exact ⟨rfl, rfl⟩)
  · refine m_aload_n rfl rfl rfl ?_
    refine m_iload_n rfl rfl rfl ?_
    refine m_cv1 rfl rfl lk_7_110 (c_priorityOf hl (i := _) rfl (by omega)) rfl (by first | decide | assumption | (simp only [cnt]; omega)) (Nat.le_of_ble_eq_true rfl) rfl rfl (Nat.le_of_ble_eq_true rfl) (Nat.le_of_ble_eq_true rfl) (Nat.le_of_ble_eq_true rfl) (Nat.le_of_ble_eq_true rfl) (Nat.le_of_ble_eq_true rfl) ?_
    refine m_goto (tgt := 32) rfl rfl rfl ?_
    refine m_iret rfl rfl rfl (Nat.le_of_ble_eq_true rfl) (Nat.le_of_ble_eq_true rfl) ?_
    unfold moAc
    first | (rw [if_pos (by omega)]; exact ⟨rfl, rfl⟩) | (rw [if_neg (by omega)]; exact ⟨rfl, rfl⟩)

def moQf (m : zkM) (bf : Int) (r : Nat) (best : Int) : Int := if (0 < m 41 0 r ∧ m 33 0 (2 * r) < bf) ∧ (best = -1 ∨ m 33 0 (2 * r) < m 33 0 (2 * best.toNat)) then r else best
def moFq (m : zkM) (bf : Int) : Int := lp (moQf m bf) (m 7 0 9).toNat (-1)
theorem moQf_b (m : zkM) (bf : Int) {j : Nat} {s : Int} (h : -1 ≤ s ∧ s < j) : -1 ≤ moQf m bf j s ∧ moQf m bf j s < ((j + 1 : Nat) : Int) := by
  unfold moQf
  split <;> omega
theorem moFq_b (m : zkM) (bf : Int) : -1 ≤ moFq m bf ∧ moFq m bf < ((m 7 0 9).toNat : Int) :=
  lp_inv (fun j s => -1 ≤ s ∧ s < (j : Int)) (moQf m bf) (m 7 0 9).toNat (-1 : Int) (by omega) (fun j s _ h => moQf_b m bf h)
/-- the requests' numbers are in bounds -/
def moQ0 (m : zkM) : Prop := (0 ≤ m 7 0 9 ∧ m 7 0 9 ≤ 12) ∧ (∀ r, r < 12 → inR (m 41 0 r)) ∧ ∀ k, k < 24 → inR (m 33 0 k)
set_option maxRecDepth 10000 in
theorem c_firstRequest {l : Launch} {G : zkG} {mem : zkM} (hl : l.stackTraces = false) {bf : Int} (hQ : moQ0 mem) (hb : inR bf) : zkCt l G i_Mo_firstRequest 0 0 0 [vr 7 0, vi bf] mem (zkR1 (vi (moFq mem bf)) mem) := by
  refine zkCt_of hl ok_Mo_firstRequest (by decide +kernel) rfl rfl (List.forall_mem_cons.mpr ⟨rfl, (List.forall_mem_cons.mpr ⟨rfl, fun _ h => nomatch h⟩)⟩) (Nat.le_of_ble_eq_true rfl) ?_
  obtain ⟨q1, q2, q3⟩ := hQ
  refine m_iconst rfl rfl ?_
  refine m_istore_n rfl rfl (Nat.le_of_ble_eq_true rfl) rfl ?_
  refine m_iconst rfl rfl ?_
  refine m_istore_n rfl rfl (Nat.le_of_ble_eq_true rfl) rfl ?_
  refine zk_loop (P := fun (j : Nat) (s : Int) => zkW l G i_Mo_firstRequest _ 0 0 4 [some (vr 7 0), some (vi bf), some (vi s), some (vi j), none] [] mem) (I := fun j s => -1 ≤ s ∧ s < (j : Int)) (moQf mem bf) (mem 7 0 9).toNat (-1) (by omega) (fun j s hj hI => moQf_b mem bf hI) (fun j s hj hI hk => ?_) (fun _ => ?_)
  · have a1 := q2 j (by omega)
    have a2 := q3 (2 * j) (by omega)
    unfold moQf at hk
    refine m_iload_n rfl rfl rfl ?_
    refine m_aload_n rfl rfl rfl ?_
    refine m_gix (k := 9) (x := mem 7 _ 9) rfl rfl (Nat.le_of_ble_eq_true rfl) rfl rfl (by first | decide | assumption | (simp only [cnt]; omega)) rfl ?_
    refine m_icmp_ge (tgt := 81) rfl rfl rfl (by omega) (by omega) (fun c9 => ?_) (fun c9 => ?_)
    · exfalso; omega
    · refine m_aload_n rfl rfl rfl ?_
      refine m_gr (k := 23) rfl rfl (Nat.le_of_ble_eq_true rfl) rfl rfl (by first | decide | assumption | (simp only [cnt]; omega)) ?_
      refine m_iload_n rfl rfl rfl ?_
      refine m_ialx (n := j) (y := mem 41 _ (j)) rfl rfl (Nat.le_of_ble_eq_true rfl) rfl (by first | decide | assumption | (simp only [cnt]; omega)) (by omega) (by simp only [aln]; omega) rfl ?_
      refine m_if_le (tgt := 37) rfl rfl rfl (by omega) (fun c18 => ?_) (fun c18 => ?_)
      · refine m_iconst rfl rfl ?_
        refine m_istore rfl rfl (Nat.le_of_ble_eq_true rfl) rfl ?_
        refine m_iload rfl rfl rfl ?_
        refine m_if_eq (tgt := 73) rfl rfl rfl (by omega) (fun c42 => ?_) (fun c42 => ?_)
        · refine m_iload_n rfl rfl rfl ?_
          refine m_istore_n rfl rfl (Nat.le_of_ble_eq_true rfl) rfl ?_
          refine m_iinc rfl rfl rfl (Nat.le_of_ble_eq_true rfl) rfl ?_
          refine m_goto (tgt := 4) rfl rfl rfl ?_
          refine zk_fg 4 ?_
          first | (rw [if_pos (by omega)] at hk; exact hk) | (rw [if_neg (by omega)] at hk; exact hk)
        · exfalso; omega
      · refine m_aload_n rfl rfl rfl ?_
        refine m_gr (k := 10) rfl rfl (Nat.le_of_ble_eq_true rfl) rfl rfl (by first | decide | assumption | (simp only [cnt]; omega)) ?_
        refine m_iconst rfl rfl ?_
        refine m_iload_n rfl rfl rfl ?_
        refine m_imul rfl rfl ?_
        refine m_ialx (n := 2 * j) (y := mem 33 _ (2 * j)) rfl rfl (Nat.le_of_ble_eq_true rfl) rfl (by first | decide | assumption | (simp only [cnt]; omega)) (by omega) (by simp only [aln]; omega) rfl ?_
        refine m_iload_n rfl rfl rfl ?_
        refine m_icmp_ge (tgt := 37) rfl rfl rfl (by omega) (by omega) (fun c30 => ?_) (fun c30 => ?_)
        · refine m_iconst rfl rfl ?_
          refine m_istore rfl rfl (Nat.le_of_ble_eq_true rfl) rfl ?_
          refine m_iload rfl rfl rfl ?_
          refine m_if_eq (tgt := 73) rfl rfl rfl (by omega) (fun c42 => ?_) (fun c42 => ?_)
          · refine m_iload_n rfl rfl rfl ?_
            refine m_istore_n rfl rfl (Nat.le_of_ble_eq_true rfl) rfl ?_
            refine m_iinc rfl rfl rfl (Nat.le_of_ble_eq_true rfl) rfl ?_
            refine m_goto (tgt := 4) rfl rfl rfl ?_
            refine zk_fg 4 ?_
            first | (rw [if_pos (by omega)] at hk; exact hk) | (rw [if_neg (by omega)] at hk; exact hk)
          · exfalso; omega
        · refine m_iconst rfl rfl ?_
          refine m_goto (tgt := 38) rfl rfl rfl ?_
          refine m_istore rfl rfl (Nat.le_of_ble_eq_true rfl) rfl ?_
          refine m_iload rfl rfl rfl ?_
          refine m_if_eq (tgt := 73) rfl rfl rfl (by omega) (fun c42 => ?_) (fun c42 => ?_)
          · exfalso; omega
          · refine m_iload_n rfl rfl rfl ?_
            refine m_iconst rfl rfl ?_
            refine m_icmp_eq (tgt := 69) rfl rfl rfl (by omega) (by omega) (fun c47 => ?_) (fun c47 => ?_)
            · refine m_iload_n rfl rfl rfl ?_
              refine m_goto (tgt := 74) rfl rfl rfl ?_
              refine m_istore_n rfl rfl (Nat.le_of_ble_eq_true rfl) rfl ?_
              refine m_iinc rfl rfl rfl (Nat.le_of_ble_eq_true rfl) rfl ?_
              refine m_goto (tgt := 4) rfl rfl rfl ?_
              refine zk_fg 4 ?_
              first | (rw [if_pos (by omega)] at hk; exact hk) | (rw [if_neg (by omega)] at hk; exact hk)
            · have a3 := q3 (2 * s.toNat) (by omega)
              refine m_aload_n rfl rfl rfl ?_
              refine m_gr (k := 10) rfl rfl (Nat.le_of_ble_eq_true rfl) rfl rfl (by first | decide | assumption | (simp only [cnt]; omega)) ?_
              refine m_iconst rfl rfl ?_
              refine m_iload_n rfl rfl rfl ?_
              refine m_imul rfl rfl ?_
              refine m_ialx (n := 2 * j) (y := mem 33 _ (2 * j)) rfl rfl (Nat.le_of_ble_eq_true rfl) rfl (by first | decide | assumption | (simp only [cnt]; omega)) (by omega) (by simp only [aln]; omega) rfl ?_
              refine m_aload_n rfl rfl rfl ?_
              refine m_gr (k := 10) rfl rfl (Nat.le_of_ble_eq_true rfl) rfl rfl (by first | decide | assumption | (simp only [cnt]; omega)) ?_
              refine m_iconst rfl rfl ?_
              refine m_iload_n rfl rfl rfl ?_
              refine m_imul rfl rfl ?_
              refine m_ialx (n := 2 * s.toNat) (y := mem 33 _ (2 * s.toNat)) rfl rfl (Nat.le_of_ble_eq_true rfl) rfl (by first | decide | assumption | (simp only [cnt]; omega)) (by omega) (by simp only [aln]; omega) rfl ?_
              refine m_icmp_ge (tgt := 73) rfl rfl rfl (by omega) (by omega) (fun c66 => ?_) (fun c66 => ?_)
              · refine m_iload_n rfl rfl rfl ?_
                refine m_istore_n rfl rfl (Nat.le_of_ble_eq_true rfl) rfl ?_
                refine m_iinc rfl rfl rfl (Nat.le_of_ble_eq_true rfl) rfl ?_
                refine m_goto (tgt := 4) rfl rfl rfl ?_
                refine zk_fg 4 ?_
                first | (rw [if_pos (by omega)] at hk; exact hk) | (rw [if_neg (by omega)] at hk; exact hk)
              · refine m_iload_n rfl rfl rfl ?_
                refine m_goto (tgt := 74) rfl rfl rfl ?_
                refine m_istore_n rfl rfl (Nat.le_of_ble_eq_true rfl) rfl ?_
                refine m_iinc rfl rfl rfl (Nat.le_of_ble_eq_true rfl) rfl ?_
                refine m_goto (tgt := 4) rfl rfl rfl ?_
                refine zk_fg 4 ?_
                first | (rw [if_pos (by omega)] at hk; exact hk) | (rw [if_neg (by omega)] at hk; exact hk)
  · refine m_iload_n rfl rfl rfl ?_
    refine m_aload_n rfl rfl rfl ?_
    refine m_gix (k := 9) (x := mem 7 _ 9) rfl rfl (Nat.le_of_ble_eq_true rfl) rfl rfl (by first | decide | assumption | (simp only [cnt]; omega)) rfl ?_
    refine m_icmp_ge (tgt := 81) rfl rfl rfl (by omega) (by omega) (fun c9 => ?_) (fun c9 => ?_)
    · refine m_iload_n rfl rfl rfl ?_
      refine m_iret rfl rfl rfl (Nat.le_of_ble_eq_true rfl) (Nat.le_of_ble_eq_true rfl) ?_
      exact ⟨rfl, rfl⟩
    · exfalso; omega

def moRd (m : zkM) (bf : Int) : Prop := 0 < m 7 0 6 ∧ 0 < m 7 0 19 ∧ moFq m bf ≠ -1
theorem moRd_d (m : zkM) (bf : Int) : Nonempty (Decidable (moRd m bf)) := ⟨by unfold moRd; exact inferInstance⟩
def moRb (m : zkM) (bf : Int) : Bool := decide (0 < m 7 0 6 ∧ 0 < m 7 0 19 ∧ moFq m bf ≠ -1)
set_option maxRecDepth 10000 in
theorem c_moisReady {l : Launch} {G : zkG} {mem : zkM} (hl : l.stackTraces = false) {bf : Int} (hQ : moQ0 mem) (hb : inR bf) (h6 : inR (mem 7 0 6)) (h19 : inR (mem 7 0 19)) : zkCt l G i_Mo_isReady 1 0 0 [vr 7 0, vi bf] mem (zkR1 (vi (b2i (moRb mem bf))) mem) := by
  refine zkCt_of hl ok_Mo_isReady (by decide +kernel) rfl rfl (List.forall_mem_cons.mpr ⟨rfl, (List.forall_mem_cons.mpr ⟨rfl, fun _ h => nomatch h⟩)⟩) (Nat.le_of_ble_eq_true rfl) ?_
  have hfq := moFq_b mem bf
  have hq9 := hQ.1
  refine m_aload_n rfl rfl rfl ?_
  refine m_cv1 rfl rfl lk_7_124 (c_hasServer hl (by omega)) rfl (by first | decide | assumption | (simp only [cnt]; omega)) (Nat.le_of_ble_eq_true rfl) rfl rfl (Nat.le_of_ble_eq_true rfl) (Nat.le_of_ble_eq_true rfl) (Nat.le_of_ble_eq_true rfl) (Nat.le_of_ble_eq_true rfl) (Nat.le_of_ble_eq_true rfl) ?_
  refine m_if_eq_d (tgt := 27) rfl rfl rfl (fun c4 => ?_) (fun c4 => ?_)
  · refine m_iconst rfl rfl ?_
    refine m_z0 rfl rfl rfl (Nat.le_of_ble_eq_true rfl) (Nat.le_of_ble_eq_true rfl) ?_
    unfold moRb
    first | exact ⟨by rw [dt (by omega)], rfl⟩ | exact ⟨by rw [df (by omega)], rfl⟩
  · refine m_aload_n rfl rfl rfl ?_
    refine m_gix (k := 19) (x := mem 7 _ 19) rfl rfl (Nat.le_of_ble_eq_true rfl) rfl rfl (by first | decide | assumption | (simp only [cnt]; omega)) rfl ?_
    refine m_if_le (tgt := 27) rfl rfl rfl (by omega) (fun c11 => ?_) (fun c11 => ?_)
    · refine m_iconst rfl rfl ?_
      refine m_z0 rfl rfl rfl (Nat.le_of_ble_eq_true rfl) (Nat.le_of_ble_eq_true rfl) ?_
      unfold moRb
      first | exact ⟨by rw [dt (by omega)], rfl⟩ | exact ⟨by rw [df (by omega)], rfl⟩
    · refine m_aload_n rfl rfl rfl ?_
      refine m_iload_n rfl rfl rfl ?_
      refine m_cv1 rfl rfl lk_7_174 (c_firstRequest hl hQ (by omega)) rfl (by first | decide | assumption | (simp only [cnt]; omega)) (Nat.le_of_ble_eq_true rfl) rfl rfl (Nat.le_of_ble_eq_true rfl) (Nat.le_of_ble_eq_true rfl) (Nat.le_of_ble_eq_true rfl) (Nat.le_of_ble_eq_true rfl) (Nat.le_of_ble_eq_true rfl) ?_
      refine m_iconst rfl rfl ?_
      refine m_icmp_eq (tgt := 27) rfl rfl rfl (by omega) (by omega) (fun c20 => ?_) (fun c20 => ?_)
      · refine m_iconst rfl rfl ?_
        refine m_z0 rfl rfl rfl (Nat.le_of_ble_eq_true rfl) (Nat.le_of_ble_eq_true rfl) ?_
        unfold moRb
        first | exact ⟨by rw [dt (by omega)], rfl⟩ | exact ⟨by rw [df (by omega)], rfl⟩
      · refine m_iconst rfl rfl ?_
        refine m_goto (tgt := 28) rfl rfl rfl ?_
        refine m_z1 rfl rfl rfl (Nat.le_of_ble_eq_true rfl) (Nat.le_of_ble_eq_true rfl) ?_
        unfold moRb
        first | exact ⟨by rw [dt (by omega)], rfl⟩ | exact ⟨by rw [df (by omega)], rfl⟩

def moAa (m : zkM) (t : Nat) : Int := if m 36 0 t = 0 then 0 else moAc m t
def moUf (m : zkM) (t : Nat) (q : Int × Int) : Int × Int := if q.2 < moAa m t ∨ (moAa m t = q.2 ∧ 0 < moAa m t ∧ moHd m t ≠ -1) then ((t : Int), moAa m t) else q
def moU0 (m : zkM) : Int × Int := if moRb m (m 7 0 11 + 1) = true then (9, m 7 0 6) else (-1, 0)
def moMU (m : zkM) : Int := (lp (moUf m) (moN m) (moU0 m)).1
theorem moAa_b {m : zkM} (h : moA m) {t : Nat} (ht : t < 5) : 0 ≤ moAa m t ∧ moAa m t ≤ 9 := by
  have := moAc_b h ht
  unfold moAa
  split <;> omega
theorem moMU_I {m : zkM} (h : moA m) : (-1 ≤ moMU m ∧ moMU m ≤ 9) ∧ 0 ≤ (lp (moUf m) (moN m) (moU0 m)).2 ∧ (lp (moUf m) (moN m) (moU0 m)).2 ≤ 9 := by
  have hn := moA_n h
  have h6 := h.2.2.2.2.2.1
  refine lp_inv (fun _ q => (-1 ≤ q.1 ∧ q.1 ≤ 9) ∧ 0 ≤ q.2 ∧ q.2 ≤ 9) (moUf m) (moN m) (moU0 m) ?_ (fun j q hj hq => ?_)
  · unfold moU0
    split <;> (dsimp only; omega)
  · have := moAa_b h (t := j) (by omega)
    unfold moUf
    split
    · dsimp only; omega
    · exact hq
set_option maxRecDepth 10000 in
theorem c_momostUrgent {l : Launch} {G : zkG} {mem : zkM} (hl : l.stackTraces = false) (hA : moA mem) (hQ : moQ0 mem) (hc : 0 ≤ mem 7 0 11 ∧ mem 7 0 11 ≤ 400) (h19 : inR (mem 7 0 19)) (h1 : ∀ t, t < 5 → inR (mem 36 0 t) ∧ inR (mem 37 0 t)) : zkCt l G i_Mo_mostUrgent 4 0 0 [vr 7 0] mem (zkR1 (vi (moMU mem)) mem) := by
  refine zkCt_of hl ok_Mo_mostUrgent (by decide +kernel) rfl rfl (List.forall_mem_cons.mpr ⟨rfl, fun _ h => nomatch h⟩) (Nat.le_of_ble_eq_true rfl) ?_
  have hn := moA_n hA
  have h6 := hA.2.2.2.2.2.1
  refine m_aload_n rfl rfl rfl ?_
  refine m_aload_n rfl rfl rfl ?_
  refine m_gix (k := 11) (x := mem 7 _ 11) rfl rfl (Nat.le_of_ble_eq_true rfl) rfl rfl (by first | decide | assumption | (simp only [cnt]; omega)) rfl ?_
  refine m_iconst rfl rfl ?_
  refine m_iadd rfl rfl ?_
  refine m_cv1 rfl rfl lk_7_177 (c_moisReady hl hQ (by omega) (by omega) (by omega)) rfl (by first | decide | assumption | (simp only [cnt]; omega)) (Nat.le_of_ble_eq_true rfl) rfl rfl (Nat.le_of_ble_eq_true rfl) (Nat.le_of_ble_eq_true rfl) (Nat.le_of_ble_eq_true rfl) (Nat.le_of_ble_eq_true rfl) (Nat.le_of_ble_eq_true rfl) ?_
  refine m_if_eq_b (tgt := 18) rfl rfl rfl (fun c10 => ?_) (fun c10 => ?_)
  · refine m_iconst rfl rfl ?_
    refine m_istore_n rfl rfl (Nat.le_of_ble_eq_true rfl) rfl ?_
    refine m_iload_n rfl rfl rfl ?_
    refine m_bipush rfl rfl (by decide) ?_
    refine m_icmp_ne (tgt := 33) rfl rfl rfl (by omega) (by omega) (fun c23 => ?_) (fun c23 => ?_)
    · refine m_iconst rfl rfl ?_
      refine m_istore_n rfl rfl (Nat.le_of_ble_eq_true rfl) rfl ?_
      refine m_iconst rfl rfl ?_
      refine m_istore_n rfl rfl (Nat.le_of_ble_eq_true rfl) rfl ?_
      refine zk_loop (P := fun (j : Nat) (q : Int × Int) => zkW l G i_Mo_mostUrgent _ 0 0 37 [some (vr 7 0), some (vi q.1), some (vi q.2), some (vi j), none] [] mem) (I := fun _ q => (-1 ≤ q.1 ∧ q.1 ≤ 9) ∧ 0 ≤ q.2 ∧ q.2 ≤ 9) (moUf mem) (moN mem) (_, _) ?_ (fun j q hj hq => ?_) (fun j q hj hI hk => ?_) (fun _ => ?_)
      · dsimp only; omega
      · have := moAa_b hA (t := j) (by omega)
        unfold moUf
        split
        · dsimp only; omega
        · exact hq
      · obtain ⟨b, s⟩ := q
        dsimp only at hI hk ⊢
        have a0 := h1 j (by omega)
        have a1 := moAc_b hA (t := j) (by omega)
        have a2 := moHd_b hA (t := j) (by omega)
        unfold moUf moAa at hk
        dsimp only at hk
        refine m_iload_n rfl rfl rfl ?_
        refine m_aload_n rfl rfl rfl ?_
        refine m_gix (k := 2) (x := mem 7 _ 2) rfl rfl (Nat.le_of_ble_eq_true rfl) rfl rfl (by first | decide | assumption | (simp only [cnt]; omega)) rfl ?_
        refine m_icmp_ge (tgt := 102) rfl rfl rfl (by omega) (by omega) (fun c42 => ?_) (fun c42 => ?_)
        · exfalso; omega
        · refine m_aload_n rfl rfl rfl ?_
          refine m_gr (k := 14) rfl rfl (Nat.le_of_ble_eq_true rfl) rfl rfl (by first | decide | assumption | (simp only [cnt]; omega)) ?_
          refine m_iload_n rfl rfl rfl ?_
          refine m_ialx (n := j) (y := mem 36 _ (j)) rfl rfl (Nat.le_of_ble_eq_true rfl) rfl (by first | decide | assumption | (simp only [cnt]; omega)) (by omega) (by simp only [aln]; omega) rfl ?_
          refine m_if_ne (tgt := 58) rfl rfl rfl (by omega) (fun c51 => ?_) (fun c51 => ?_)
          · refine m_aload_n rfl rfl rfl ?_
            refine m_iload_n rfl rfl rfl ?_
            refine m_cv1 rfl rfl lk_7_180 (c_activeOf hl hA (t := _) rfl (by omega) (by omega) (by omega)) rfl (by first | decide | assumption | (simp only [cnt]; omega)) (Nat.le_of_ble_eq_true rfl) rfl rfl (Nat.le_of_ble_eq_true rfl) (Nat.le_of_ble_eq_true rfl) (Nat.le_of_ble_eq_true rfl) (Nat.le_of_ble_eq_true rfl) (Nat.le_of_ble_eq_true rfl) ?_
            refine m_istore rfl rfl (Nat.le_of_ble_eq_true rfl) rfl ?_
            refine m_iload rfl rfl rfl ?_
            refine m_iload_n rfl rfl rfl ?_
            refine m_icmp_gt (tgt := 91) rfl rfl rfl (by omega) (by omega) (fun c68 => ?_) (fun c68 => ?_)
            · refine m_iload_n rfl rfl rfl ?_
              refine m_istore_n rfl rfl (Nat.le_of_ble_eq_true rfl) rfl ?_
              refine m_iload rfl rfl rfl ?_
              refine m_istore_n rfl rfl (Nat.le_of_ble_eq_true rfl) rfl ?_
              refine m_iinc rfl rfl rfl (Nat.le_of_ble_eq_true rfl) rfl ?_
              refine m_goto (tgt := 37) rfl rfl rfl ?_
              refine zk_fg 4 ?_
              first | (exfalso; omega) | (rw [if_pos (show mem 36 0 j = 0 by omega)] at hk; first | (rw [if_pos (by omega)] at hk; exact hk) | (rw [if_neg (by omega)] at hk; exact hk)) | (rw [if_neg (show ¬ mem 36 0 j = 0 by omega)] at hk; first | (rw [if_pos (by omega)] at hk; exact hk) | (rw [if_neg (by omega)] at hk; exact hk))
            · refine m_iload rfl rfl rfl ?_
              refine m_iload_n rfl rfl rfl ?_
              refine m_icmp_ne (tgt := 96) rfl rfl rfl (by omega) (by omega) (fun c74 => ?_) (fun c74 => ?_)
              · refine m_iinc rfl rfl rfl (Nat.le_of_ble_eq_true rfl) rfl ?_
                refine m_goto (tgt := 37) rfl rfl rfl ?_
                refine zk_fg 4 ?_
                first | (exfalso; omega) | (rw [if_pos (show mem 36 0 j = 0 by omega)] at hk; first | (rw [if_pos (by omega)] at hk; exact hk) | (rw [if_neg (by omega)] at hk; exact hk)) | (rw [if_neg (show ¬ mem 36 0 j = 0 by omega)] at hk; first | (rw [if_pos (by omega)] at hk; exact hk) | (rw [if_neg (by omega)] at hk; exact hk))
              · refine m_iload rfl rfl rfl ?_
                refine m_if_le (tgt := 96) rfl rfl rfl (by omega) (fun c79 => ?_) (fun c79 => ?_)
                · refine m_iinc rfl rfl rfl (Nat.le_of_ble_eq_true rfl) rfl ?_
                  refine m_goto (tgt := 37) rfl rfl rfl ?_
                  refine zk_fg 4 ?_
                  first | (exfalso; omega) | (rw [if_pos (show mem 36 0 j = 0 by omega)] at hk; first | (rw [if_pos (by omega)] at hk; exact hk) | (rw [if_neg (by omega)] at hk; exact hk)) | (rw [if_neg (show ¬ mem 36 0 j = 0 by omega)] at hk; first | (rw [if_pos (by omega)] at hk; exact hk) | (rw [if_neg (by omega)] at hk; exact hk))
                · refine m_aload_n rfl rfl rfl ?_
                  refine m_iload_n rfl rfl rfl ?_
                  refine m_cv1 rfl rfl lk_7_171 (c_heldBy hl hA (t := _) rfl (by omega) (by omega) (by omega)) rfl (by first | decide | assumption | (simp only [cnt]; omega)) (Nat.le_of_ble_eq_true rfl) rfl rfl (Nat.le_of_ble_eq_true rfl) (Nat.le_of_ble_eq_true rfl) (Nat.le_of_ble_eq_true rfl) (Nat.le_of_ble_eq_true rfl) (Nat.le_of_ble_eq_true rfl) ?_
                  refine m_iconst rfl rfl ?_
                  refine m_icmp_eq (tgt := 96) rfl rfl rfl (by omega) (by omega) (fun c88 => ?_) (fun c88 => ?_)
                  · refine m_iinc rfl rfl rfl (Nat.le_of_ble_eq_true rfl) rfl ?_
                    refine m_goto (tgt := 37) rfl rfl rfl ?_
                    refine zk_fg 4 ?_
                    first | (exfalso; omega) | (rw [if_pos (show mem 36 0 j = 0 by omega)] at hk; first | (rw [if_pos (by omega)] at hk; exact hk) | (rw [if_neg (by omega)] at hk; exact hk)) | (rw [if_neg (show ¬ mem 36 0 j = 0 by omega)] at hk; first | (rw [if_pos (by omega)] at hk; exact hk) | (rw [if_neg (by omega)] at hk; exact hk))
                  · refine m_iload_n rfl rfl rfl ?_
                    refine m_istore_n rfl rfl (Nat.le_of_ble_eq_true rfl) rfl ?_
                    refine m_iload rfl rfl rfl ?_
                    refine m_istore_n rfl rfl (Nat.le_of_ble_eq_true rfl) rfl ?_
                    refine m_iinc rfl rfl rfl (Nat.le_of_ble_eq_true rfl) rfl ?_
                    refine m_goto (tgt := 37) rfl rfl rfl ?_
                    refine zk_fg 4 ?_
                    first | (exfalso; omega) | (rw [if_pos (show mem 36 0 j = 0 by omega)] at hk; first | (rw [if_pos (by omega)] at hk; exact hk) | (rw [if_neg (by omega)] at hk; exact hk)) | (rw [if_neg (show ¬ mem 36 0 j = 0 by omega)] at hk; first | (rw [if_pos (by omega)] at hk; exact hk) | (rw [if_neg (by omega)] at hk; exact hk))
          · refine m_iconst rfl rfl ?_
            refine m_goto (tgt := 63) rfl rfl rfl ?_
            refine m_istore rfl rfl (Nat.le_of_ble_eq_true rfl) rfl ?_
            refine m_iload rfl rfl rfl ?_
            refine m_iload_n rfl rfl rfl ?_
            refine m_icmp_gt (tgt := 91) rfl rfl rfl (by omega) (by omega) (fun c68 => ?_) (fun c68 => ?_)
            · refine m_iload_n rfl rfl rfl ?_
              refine m_istore_n rfl rfl (Nat.le_of_ble_eq_true rfl) rfl ?_
              refine m_iload rfl rfl rfl ?_
              refine m_istore_n rfl rfl (Nat.le_of_ble_eq_true rfl) rfl ?_
              refine m_iinc rfl rfl rfl (Nat.le_of_ble_eq_true rfl) rfl ?_
              refine m_goto (tgt := 37) rfl rfl rfl ?_
              refine zk_fg 4 ?_
              first | (exfalso; omega) | (rw [if_pos (show mem 36 0 j = 0 by omega)] at hk; first | (rw [if_pos (by omega)] at hk; exact hk) | (rw [if_neg (by omega)] at hk; exact hk)) | (rw [if_neg (show ¬ mem 36 0 j = 0 by omega)] at hk; first | (rw [if_pos (by omega)] at hk; exact hk) | (rw [if_neg (by omega)] at hk; exact hk))
            · refine m_iload rfl rfl rfl ?_
              refine m_iload_n rfl rfl rfl ?_
              refine m_icmp_ne (tgt := 96) rfl rfl rfl (by omega) (by omega) (fun c74 => ?_) (fun c74 => ?_)
              · refine m_iinc rfl rfl rfl (Nat.le_of_ble_eq_true rfl) rfl ?_
                refine m_goto (tgt := 37) rfl rfl rfl ?_
                refine zk_fg 4 ?_
                first | (exfalso; omega) | (rw [if_pos (show mem 36 0 j = 0 by omega)] at hk; first | (rw [if_pos (by omega)] at hk; exact hk) | (rw [if_neg (by omega)] at hk; exact hk)) | (rw [if_neg (show ¬ mem 36 0 j = 0 by omega)] at hk; first | (rw [if_pos (by omega)] at hk; exact hk) | (rw [if_neg (by omega)] at hk; exact hk))
              · refine m_iload rfl rfl rfl ?_
                refine m_if_le (tgt := 96) rfl rfl rfl (by omega) (fun c79 => ?_) (fun c79 => ?_)
                · refine m_iinc rfl rfl rfl (Nat.le_of_ble_eq_true rfl) rfl ?_
                  refine m_goto (tgt := 37) rfl rfl rfl ?_
                  refine zk_fg 4 ?_
                  first | (exfalso; omega) | (rw [if_pos (show mem 36 0 j = 0 by omega)] at hk; first | (rw [if_pos (by omega)] at hk; exact hk) | (rw [if_neg (by omega)] at hk; exact hk)) | (rw [if_neg (show ¬ mem 36 0 j = 0 by omega)] at hk; first | (rw [if_pos (by omega)] at hk; exact hk) | (rw [if_neg (by omega)] at hk; exact hk))
                · exfalso; omega
      · refine m_iload_n rfl rfl rfl ?_
        refine m_aload_n rfl rfl rfl ?_
        refine m_gix (k := 2) (x := mem 7 _ 2) rfl rfl (Nat.le_of_ble_eq_true rfl) rfl rfl (by first | decide | assumption | (simp only [cnt]; omega)) rfl ?_
        refine m_icmp_ge (tgt := 102) rfl rfl rfl (by omega) (by omega) (fun c42 => ?_) (fun c42 => ?_)
        · refine m_iload_n rfl rfl rfl ?_
          refine m_iret rfl rfl rfl (Nat.le_of_ble_eq_true rfl) (Nat.le_of_ble_eq_true rfl) ?_
          unfold moMU moU0
          first | (rw [if_pos c10]; exact ⟨rfl, rfl⟩) | (rw [if_neg (by rw [c10]; decide)]; exact ⟨rfl, rfl⟩)
        · exfalso; omega
    · exfalso; omega
  · refine m_bipush rfl rfl (by decide) ?_
    refine m_goto (tgt := 19) rfl rfl rfl ?_
    refine m_istore_n rfl rfl (Nat.le_of_ble_eq_true rfl) rfl ?_
    refine m_iload_n rfl rfl rfl ?_
    refine m_bipush rfl rfl (by decide) ?_
    refine m_icmp_ne (tgt := 33) rfl rfl rfl (by omega) (by omega) (fun c23 => ?_) (fun c23 => ?_)
    · exfalso; omega
    · refine m_aload_n rfl rfl rfl ?_
      refine m_gix (k := 6) (x := mem 7 _ 6) rfl rfl (Nat.le_of_ble_eq_true rfl) rfl rfl (by first | decide | assumption | (simp only [cnt]; omega)) rfl ?_
      refine m_goto (tgt := 34) rfl rfl rfl ?_
      refine m_istore_n rfl rfl (Nat.le_of_ble_eq_true rfl) rfl ?_
      refine m_iconst rfl rfl ?_
      refine m_istore_n rfl rfl (Nat.le_of_ble_eq_true rfl) rfl ?_
      refine zk_loop (P := fun (j : Nat) (q : Int × Int) => zkW l G i_Mo_mostUrgent _ 0 0 37 [some (vr 7 0), some (vi q.1), some (vi q.2), some (vi j), none] [] mem) (I := fun _ q => (-1 ≤ q.1 ∧ q.1 ≤ 9) ∧ 0 ≤ q.2 ∧ q.2 ≤ 9) (moUf mem) (moN mem) (_, _) ?_ (fun j q hj hq => ?_) (fun j q hj hI hk => ?_) (fun _ => ?_)
      · dsimp only; omega
      · have := moAa_b hA (t := j) (by omega)
        unfold moUf
        split
        · dsimp only; omega
        · exact hq
      · obtain ⟨b, s⟩ := q
        dsimp only at hI hk ⊢
        have a0 := h1 j (by omega)
        have a1 := moAc_b hA (t := j) (by omega)
        have a2 := moHd_b hA (t := j) (by omega)
        unfold moUf moAa at hk
        dsimp only at hk
        refine m_iload_n rfl rfl rfl ?_
        refine m_aload_n rfl rfl rfl ?_
        refine m_gix (k := 2) (x := mem 7 _ 2) rfl rfl (Nat.le_of_ble_eq_true rfl) rfl rfl (by first | decide | assumption | (simp only [cnt]; omega)) rfl ?_
        refine m_icmp_ge (tgt := 102) rfl rfl rfl (by omega) (by omega) (fun c42 => ?_) (fun c42 => ?_)
        · exfalso; omega
        · refine m_aload_n rfl rfl rfl ?_
          refine m_gr (k := 14) rfl rfl (Nat.le_of_ble_eq_true rfl) rfl rfl (by first | decide | assumption | (simp only [cnt]; omega)) ?_
          refine m_iload_n rfl rfl rfl ?_
          refine m_ialx (n := j) (y := mem 36 _ (j)) rfl rfl (Nat.le_of_ble_eq_true rfl) rfl (by first | decide | assumption | (simp only [cnt]; omega)) (by omega) (by simp only [aln]; omega) rfl ?_
          refine m_if_ne (tgt := 58) rfl rfl rfl (by omega) (fun c51 => ?_) (fun c51 => ?_)
          · refine m_aload_n rfl rfl rfl ?_
            refine m_iload_n rfl rfl rfl ?_
            refine m_cv1 rfl rfl lk_7_180 (c_activeOf hl hA (t := _) rfl (by omega) (by omega) (by omega)) rfl (by first | decide | assumption | (simp only [cnt]; omega)) (Nat.le_of_ble_eq_true rfl) rfl rfl (Nat.le_of_ble_eq_true rfl) (Nat.le_of_ble_eq_true rfl) (Nat.le_of_ble_eq_true rfl) (Nat.le_of_ble_eq_true rfl) (Nat.le_of_ble_eq_true rfl) ?_
            refine m_istore rfl rfl (Nat.le_of_ble_eq_true rfl) rfl ?_
            refine m_iload rfl rfl rfl ?_
            refine m_iload_n rfl rfl rfl ?_
            refine m_icmp_gt (tgt := 91) rfl rfl rfl (by omega) (by omega) (fun c68 => ?_) (fun c68 => ?_)
            · refine m_iload_n rfl rfl rfl ?_
              refine m_istore_n rfl rfl (Nat.le_of_ble_eq_true rfl) rfl ?_
              refine m_iload rfl rfl rfl ?_
              refine m_istore_n rfl rfl (Nat.le_of_ble_eq_true rfl) rfl ?_
              refine m_iinc rfl rfl rfl (Nat.le_of_ble_eq_true rfl) rfl ?_
              refine m_goto (tgt := 37) rfl rfl rfl ?_
              refine zk_fg 4 ?_
              first | (exfalso; omega) | (rw [if_pos (show mem 36 0 j = 0 by omega)] at hk; first | (rw [if_pos (by omega)] at hk; exact hk) | (rw [if_neg (by omega)] at hk; exact hk)) | (rw [if_neg (show ¬ mem 36 0 j = 0 by omega)] at hk; first | (rw [if_pos (by omega)] at hk; exact hk) | (rw [if_neg (by omega)] at hk; exact hk))
            · refine m_iload rfl rfl rfl ?_
              refine m_iload_n rfl rfl rfl ?_
              refine m_icmp_ne (tgt := 96) rfl rfl rfl (by omega) (by omega) (fun c74 => ?_) (fun c74 => ?_)
              · refine m_iinc rfl rfl rfl (Nat.le_of_ble_eq_true rfl) rfl ?_
                refine m_goto (tgt := 37) rfl rfl rfl ?_
                refine zk_fg 4 ?_
                first | (exfalso; omega) | (rw [if_pos (show mem 36 0 j = 0 by omega)] at hk; first | (rw [if_pos (by omega)] at hk; exact hk) | (rw [if_neg (by omega)] at hk; exact hk)) | (rw [if_neg (show ¬ mem 36 0 j = 0 by omega)] at hk; first | (rw [if_pos (by omega)] at hk; exact hk) | (rw [if_neg (by omega)] at hk; exact hk))
              · refine m_iload rfl rfl rfl ?_
                refine m_if_le (tgt := 96) rfl rfl rfl (by omega) (fun c79 => ?_) (fun c79 => ?_)
                · refine m_iinc rfl rfl rfl (Nat.le_of_ble_eq_true rfl) rfl ?_
                  refine m_goto (tgt := 37) rfl rfl rfl ?_
                  refine zk_fg 4 ?_
                  first | (exfalso; omega) | (rw [if_pos (show mem 36 0 j = 0 by omega)] at hk; first | (rw [if_pos (by omega)] at hk; exact hk) | (rw [if_neg (by omega)] at hk; exact hk)) | (rw [if_neg (show ¬ mem 36 0 j = 0 by omega)] at hk; first | (rw [if_pos (by omega)] at hk; exact hk) | (rw [if_neg (by omega)] at hk; exact hk))
                · refine m_aload_n rfl rfl rfl ?_
                  refine m_iload_n rfl rfl rfl ?_
                  refine m_cv1 rfl rfl lk_7_171 (c_heldBy hl hA (t := _) rfl (by omega) (by omega) (by omega)) rfl (by first | decide | assumption | (simp only [cnt]; omega)) (Nat.le_of_ble_eq_true rfl) rfl rfl (Nat.le_of_ble_eq_true rfl) (Nat.le_of_ble_eq_true rfl) (Nat.le_of_ble_eq_true rfl) (Nat.le_of_ble_eq_true rfl) (Nat.le_of_ble_eq_true rfl) ?_
                  refine m_iconst rfl rfl ?_
                  refine m_icmp_eq (tgt := 96) rfl rfl rfl (by omega) (by omega) (fun c88 => ?_) (fun c88 => ?_)
                  · refine m_iinc rfl rfl rfl (Nat.le_of_ble_eq_true rfl) rfl ?_
                    refine m_goto (tgt := 37) rfl rfl rfl ?_
                    refine zk_fg 4 ?_
                    first | (exfalso; omega) | (rw [if_pos (show mem 36 0 j = 0 by omega)] at hk; first | (rw [if_pos (by omega)] at hk; exact hk) | (rw [if_neg (by omega)] at hk; exact hk)) | (rw [if_neg (show ¬ mem 36 0 j = 0 by omega)] at hk; first | (rw [if_pos (by omega)] at hk; exact hk) | (rw [if_neg (by omega)] at hk; exact hk))
                  · refine m_iload_n rfl rfl rfl ?_
                    refine m_istore_n rfl rfl (Nat.le_of_ble_eq_true rfl) rfl ?_
                    refine m_iload rfl rfl rfl ?_
                    refine m_istore_n rfl rfl (Nat.le_of_ble_eq_true rfl) rfl ?_
                    refine m_iinc rfl rfl rfl (Nat.le_of_ble_eq_true rfl) rfl ?_
                    refine m_goto (tgt := 37) rfl rfl rfl ?_
                    refine zk_fg 4 ?_
                    first | (exfalso; omega) | (rw [if_pos (show mem 36 0 j = 0 by omega)] at hk; first | (rw [if_pos (by omega)] at hk; exact hk) | (rw [if_neg (by omega)] at hk; exact hk)) | (rw [if_neg (show ¬ mem 36 0 j = 0 by omega)] at hk; first | (rw [if_pos (by omega)] at hk; exact hk) | (rw [if_neg (by omega)] at hk; exact hk))
          · refine m_iconst rfl rfl ?_
            refine m_goto (tgt := 63) rfl rfl rfl ?_
            refine m_istore rfl rfl (Nat.le_of_ble_eq_true rfl) rfl ?_
            refine m_iload rfl rfl rfl ?_
            refine m_iload_n rfl rfl rfl ?_
            refine m_icmp_gt (tgt := 91) rfl rfl rfl (by omega) (by omega) (fun c68 => ?_) (fun c68 => ?_)
            · refine m_iload_n rfl rfl rfl ?_
              refine m_istore_n rfl rfl (Nat.le_of_ble_eq_true rfl) rfl ?_
              refine m_iload rfl rfl rfl ?_
              refine m_istore_n rfl rfl (Nat.le_of_ble_eq_true rfl) rfl ?_
              refine m_iinc rfl rfl rfl (Nat.le_of_ble_eq_true rfl) rfl ?_
              refine m_goto (tgt := 37) rfl rfl rfl ?_
              refine zk_fg 4 ?_
              first | (exfalso; omega) | (rw [if_pos (show mem 36 0 j = 0 by omega)] at hk; first | (rw [if_pos (by omega)] at hk; exact hk) | (rw [if_neg (by omega)] at hk; exact hk)) | (rw [if_neg (show ¬ mem 36 0 j = 0 by omega)] at hk; first | (rw [if_pos (by omega)] at hk; exact hk) | (rw [if_neg (by omega)] at hk; exact hk))
            · refine m_iload rfl rfl rfl ?_
              refine m_iload_n rfl rfl rfl ?_
              refine m_icmp_ne (tgt := 96) rfl rfl rfl (by omega) (by omega) (fun c74 => ?_) (fun c74 => ?_)
              · refine m_iinc rfl rfl rfl (Nat.le_of_ble_eq_true rfl) rfl ?_
                refine m_goto (tgt := 37) rfl rfl rfl ?_
                refine zk_fg 4 ?_
                first | (exfalso; omega) | (rw [if_pos (show mem 36 0 j = 0 by omega)] at hk; first | (rw [if_pos (by omega)] at hk; exact hk) | (rw [if_neg (by omega)] at hk; exact hk)) | (rw [if_neg (show ¬ mem 36 0 j = 0 by omega)] at hk; first | (rw [if_pos (by omega)] at hk; exact hk) | (rw [if_neg (by omega)] at hk; exact hk))
              · refine m_iload rfl rfl rfl ?_
                refine m_if_le (tgt := 96) rfl rfl rfl (by omega) (fun c79 => ?_) (fun c79 => ?_)
                · refine m_iinc rfl rfl rfl (Nat.le_of_ble_eq_true rfl) rfl ?_
                  refine m_goto (tgt := 37) rfl rfl rfl ?_
                  refine zk_fg 4 ?_
                  first | (exfalso; omega) | (rw [if_pos (show mem 36 0 j = 0 by omega)] at hk; first | (rw [if_pos (by omega)] at hk; exact hk) | (rw [if_neg (by omega)] at hk; exact hk)) | (rw [if_neg (show ¬ mem 36 0 j = 0 by omega)] at hk; first | (rw [if_pos (by omega)] at hk; exact hk) | (rw [if_neg (by omega)] at hk; exact hk))
                · exfalso; omega
      · refine m_iload_n rfl rfl rfl ?_
        refine m_aload_n rfl rfl rfl ?_
        refine m_gix (k := 2) (x := mem 7 _ 2) rfl rfl (Nat.le_of_ble_eq_true rfl) rfl rfl (by first | decide | assumption | (simp only [cnt]; omega)) rfl ?_
        refine m_icmp_ge (tgt := 102) rfl rfl rfl (by omega) (by omega) (fun c42 => ?_) (fun c42 => ?_)
        · refine m_iload_n rfl rfl rfl ?_
          refine m_iret rfl rfl rfl (Nat.le_of_ble_eq_true rfl) (Nat.le_of_ble_eq_true rfl) ?_
          unfold moMU moU0
          first | (rw [if_pos c10]; exact ⟨rfl, rfl⟩) | (rw [if_neg (by rw [c10]; decide)]; exact ⟨rfl, rfl⟩)
        · exfalso; omega

