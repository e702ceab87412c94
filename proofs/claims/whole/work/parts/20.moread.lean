/-! the reference: what it reads of its configuration -/
def moPr (m : zkM) (i : Nat) : Int := m 30 0 (4 * i)
def moPe (m : zkM) (i : Nat) : Int := m 30 0 (4 * i + 1)
def moLe (m : zkM) (i k : Nat) : Int := m 32 0 (2 * (6 * i + k) + 1)
def moRe (m : zkM) (i k : Nat) : Int := m 32 0 (2 * (6 * i + k))
def moN (m : zkM) : Nat := (m 7 0 2).toNat
def moS (m : zkM) (i : Nat) : Nat := (m 31 0 i).toNat
/-- the configuration is in its bounds -/
def moA (m : zkM) : Prop := (0 ≤ m 7 0 2 ∧ m 7 0 2 ≤ 5) ∧ (∀ i, i < 5 → 0 ≤ m 31 0 i ∧ m 31 0 i ≤ 6) ∧ (∀ i, i < 5 → (0 ≤ m 30 0 (4 * i) ∧ m 30 0 (4 * i) ≤ 9) ∧ (0 ≤ m 30 0 (4 * i + 1) ∧ m 30 0 (4 * i + 1) ≤ 60) ∧ (0 ≤ m 30 0 (4 * i + 2) ∧ m 30 0 (4 * i + 2) ≤ 60) ∧ (0 ≤ m 30 0 (4 * i + 3) ∧ m 30 0 (4 * i + 3) ≤ 60)) ∧ (∀ i : Nat, (i : Int) < m 7 0 2 → 1 ≤ m 30 0 (4 * i + 1)) ∧ (∀ i k, i < 5 → k < 6 → (-1 ≤ moRe m i k ∧ moRe m i k ≤ 3) ∧ (0 ≤ moLe m i k ∧ moLe m i k ≤ 9)) ∧ (0 ≤ m 7 0 6 ∧ m 7 0 6 ≤ 9) ∧ (0 ≤ m 7 0 7 ∧ m 7 0 7 ≤ 9) ∧ (0 ≤ m 7 0 8 ∧ m 7 0 8 ≤ 60) ∧ (0 < m 7 0 6 → 1 ≤ m 7 0 8)
theorem moA_n {m : zkM} (h : moA m) : (moN m : Int) = m 7 0 2 ∧ moN m ≤ 5 := by
  have := h.1
  unfold moN
  omega
theorem moA_s {m : zkM} (h : moA m) {i : Nat} (hi : i < 5) : (moS m i : Int) = m 31 0 i ∧ moS m i ≤ 6 := by
  have := h.2.1 i hi
  unfold moS
  omega
theorem moA_p {m : zkM} (h : moA m) {i : Nat} (hi : i < 5) : 0 ≤ moPr m i ∧ moPr m i ≤ 9 := (h.2.2.1 i hi).1
theorem moA_e {m : zkM} (h : moA m) {i : Nat} (hi : i < 5) : 0 ≤ moPe m i ∧ moPe m i ≤ 60 := (h.2.2.1 i hi).2.1
theorem moA_e1 {m : zkM} (h : moA m) {i : Nat} (hi : i < moN m) : 1 ≤ moPe m i := h.2.2.2.1 i (by have := moA_n h; omega)
theorem moA_r {m : zkM} (h : moA m) {i k : Nat} (hi : i < 5) (hk : k < 6) : (-1 ≤ moRe m i k ∧ moRe m i k ≤ 3) ∧ (0 ≤ moLe m i k ∧ moLe m i k ≤ 9) := h.2.2.2.2.1 i k hi hk
theorem dt {p : Prop} [Decidable p] (h : p) : decide p = true := decide_eq_true h
theorem df {p : Prop} [Decidable p] (h : ¬ p) : decide p = false := decide_eq_false h
set_option maxRecDepth 10000 in
theorem c_isIn {l : Launch} {G : zkG} {mem : zkM} (hl : l.stackTraces = false) {x a b : Int} (hx : inR x) (ha : inR a) (hb : inR b) : zkCt l G i_Mo_isIn 0 0 0 [vi x, vi a, vi b] mem (zkR1 (vi (b2i (decide (a ≤ x ∧ x ≤ b)))) mem) := by
  refine zkCt_of hl ok_Mo_isIn (by decide +kernel) rfl rfl (List.forall_mem_cons.mpr ⟨rfl, (List.forall_mem_cons.mpr ⟨rfl, (List.forall_mem_cons.mpr ⟨rfl, fun _ h => nomatch h⟩)⟩)⟩) (Nat.le_of_ble_eq_true rfl) ?_
  refine m_iload_n rfl rfl rfl ?_
  refine m_iload_n rfl rfl rfl ?_
  refine m_icmp_lt (tgt := 14) rfl rfl rfl (by omega) (by omega) (fun c2 => ?_) (fun c2 => ?_)
  · refine m_iconst rfl rfl ?_
    refine m_z0 rfl rfl rfl (Nat.le_of_ble_eq_true rfl) (Nat.le_of_ble_eq_true rfl) ?_
    first | exact ⟨by rw [dt (by omega)], rfl⟩ | exact ⟨by rw [df (by omega)], rfl⟩
  · refine m_iload_n rfl rfl rfl ?_
    refine m_iload_n rfl rfl rfl ?_
    refine m_icmp_gt (tgt := 14) rfl rfl rfl (by omega) (by omega) (fun c7 => ?_) (fun c7 => ?_)
    · refine m_iconst rfl rfl ?_
      refine m_z0 rfl rfl rfl (Nat.le_of_ble_eq_true rfl) (Nat.le_of_ble_eq_true rfl) ?_
      first | exact ⟨by rw [dt (by omega)], rfl⟩ | exact ⟨by rw [df (by omega)], rfl⟩
    · refine m_iconst rfl rfl ?_
      refine m_goto (tgt := 15) rfl rfl rfl ?_
      refine m_z1 rfl rfl rfl (Nat.le_of_ble_eq_true rfl) (Nat.le_of_ble_eq_true rfl) ?_
      first | exact ⟨by rw [dt (by omega)], rfl⟩ | exact ⟨by rw [df (by omega)], rfl⟩

set_option maxRecDepth 10000 in
theorem c_hasServer {l : Launch} {G : zkG} {mem : zkM} (hl : l.stackTraces = false) (hx : inR (mem 7 0 6)) : zkCt l G i_Mo_hasServer 0 0 0 [vr 7 0] mem (zkR1 (vi (b2i (decide (0 < mem 7 0 6)))) mem) := by
  refine zkCt_of hl ok_Mo_hasServer (by decide +kernel) rfl rfl (List.forall_mem_cons.mpr ⟨rfl, fun _ h => nomatch h⟩) (Nat.le_of_ble_eq_true rfl) ?_
  refine m_aload_n rfl rfl rfl ?_
  refine m_gix (k := 6) (x := mem 7 _ 6) rfl rfl (Nat.le_of_ble_eq_true rfl) rfl rfl (by first | decide | assumption | (simp only [cnt]; omega)) rfl ?_
  refine m_if_le (tgt := 11) rfl rfl rfl (by omega) (fun c4 => ?_) (fun c4 => ?_)
  · refine m_iconst rfl rfl ?_
    refine m_z0 rfl rfl rfl (Nat.le_of_ble_eq_true rfl) (Nat.le_of_ble_eq_true rfl) ?_
    first | exact ⟨by rw [dt (by omega)], rfl⟩ | exact ⟨by rw [df (by omega)], rfl⟩
  · refine m_iconst rfl rfl ?_
    refine m_goto (tgt := 12) rfl rfl rfl ?_
    refine m_z1 rfl rfl rfl (Nat.le_of_ble_eq_true rfl) (Nat.le_of_ble_eq_true rfl) ?_
    first | exact ⟨by rw [dt (by omega)], rfl⟩ | exact ⟨by rw [df (by omega)], rfl⟩

set_option maxRecDepth 10000 in
theorem c_isTask {l : Launch} {G : zkG} {mem : zkM} (hl : l.stackTraces = false) {x : Int} (hx : inR x) (hm : 0 ≤ mem 7 0 2 ∧ mem 7 0 2 ≤ 5) : zkCt l G i_Mo_isTask 1 0 0 [vr 7 0, vi x] mem (zkR1 (vi (b2i (decide (0 ≤ x ∧ x ≤ mem 7 0 2 - 1)))) mem) := by
  refine zkCt_of hl ok_Mo_isTask (by decide +kernel) rfl rfl (List.forall_mem_cons.mpr ⟨rfl, (List.forall_mem_cons.mpr ⟨rfl, fun _ h => nomatch h⟩)⟩) (Nat.le_of_ble_eq_true rfl) ?_
  refine m_iload_n rfl rfl rfl ?_
  refine m_iconst rfl rfl ?_
  refine m_aload_n rfl rfl rfl ?_
  refine m_gix (k := 2) (x := mem 7 _ 2) rfl rfl (Nat.le_of_ble_eq_true rfl) rfl rfl (by first | decide | assumption | (simp only [cnt]; omega)) rfl ?_
  refine m_iconst rfl rfl ?_
  refine m_isub rfl rfl ?_
  refine m_cs1 rfl rfl lk_7_75 (c_isIn hl (by omega) (by omega) (by omega)) rfl rfl (Nat.le_of_ble_eq_true rfl) (Nat.le_of_ble_eq_true rfl) (Nat.le_of_ble_eq_true rfl) (Nat.le_of_ble_eq_true rfl) (Nat.le_of_ble_eq_true rfl) ?_
  refine m_zret rfl rfl rfl (Nat.le_of_ble_eq_true rfl) (Nat.le_of_ble_eq_true rfl) ?_
  exact ⟨rfl, rfl⟩

set_option maxRecDepth 10000 in
theorem c_thrown {l : Launch} {G : zkG} {mem : zkM} (hl : l.stackTraces = false) : zkCt l G i_Mo_thrown 0 0 0 [vr 7 0] mem (zkR1 (vi (mem 7 0 0)) mem) := by
  refine zkCt_of hl ok_Mo_thrown (by decide +kernel) rfl rfl (List.forall_mem_cons.mpr ⟨rfl, fun _ h => nomatch h⟩) (Nat.le_of_ble_eq_true rfl) ?_
  refine m_aload_n rfl rfl rfl ?_
  refine m_gix (k := 0) (x := mem 7 _ 0) rfl rfl (Nat.le_of_ble_eq_true rfl) rfl rfl (by first | decide | assumption | (simp only [cnt]; omega)) rfl ?_
  refine m_iret rfl rfl rfl (Nat.le_of_ble_eq_true rfl) (Nat.le_of_ble_eq_true rfl) ?_
  exact ⟨rfl, rfl⟩

set_option maxRecDepth 10000 in
theorem c_fail {l : Launch} {G : zkG} {mem : zkM} (hl : l.stackTraces = false) {x : Int} : zkCt l G i_Mo_fail 0 0 0 [vr 7 0, vi x] mem (zkR1 (vi 0) (mset mem 7 0 0 x)) := by
  refine zkCt_of hl ok_Mo_fail (by decide +kernel) rfl rfl (List.forall_mem_cons.mpr ⟨rfl, (List.forall_mem_cons.mpr ⟨rfl, fun _ h => nomatch h⟩)⟩) (Nat.le_of_ble_eq_true rfl) ?_
  refine m_aload_n rfl rfl rfl ?_
  refine m_iload_n rfl rfl rfl ?_
  refine m_pi (k := 0) rfl rfl (Nat.le_of_ble_eq_true rfl) rfl rfl rfl rfl (by first | decide | assumption | (simp only [cnt]; omega)) ?_
  refine m_iconst rfl rfl ?_
  refine m_iret rfl rfl rfl (Nat.le_of_ble_eq_true rfl) (Nat.le_of_ble_eq_true rfl) ?_
  exact ⟨rfl, rfl⟩

set_option maxRecDepth 10000 in
theorem c_priorityOf {l : Launch} {G : zkG} {mem : zkM} (hl : l.stackTraces = false) {x : Int} {i : Nat} (hx : x = i) (hi : i < 5) : zkCt l G i_Mo_priorityOf 0 0 0 [vr 7 0, vi x] mem (zkR1 (vi (moPr mem i)) mem) := by
  refine zkCt_of hl ok_Mo_priorityOf (by decide +kernel) rfl rfl (List.forall_mem_cons.mpr ⟨rfl, (List.forall_mem_cons.mpr ⟨rfl, fun _ h => nomatch h⟩)⟩) (Nat.le_of_ble_eq_true rfl) ?_
  refine m_aload_n rfl rfl rfl ?_
  refine m_gr (k := 3) rfl rfl (Nat.le_of_ble_eq_true rfl) rfl rfl (by first | decide | assumption | (simp only [cnt]; omega)) ?_
  refine m_iconst rfl rfl ?_
  refine m_iload_n rfl rfl rfl ?_
  refine m_imul rfl rfl ?_
  refine m_ialx (n := 4 * i) (y := mem 30 _ (4 * i)) rfl rfl (Nat.le_of_ble_eq_true rfl) rfl (by first | decide | assumption | (simp only [cnt]; omega)) (by omega) (by simp only [aln]; omega) rfl ?_
  refine m_iret rfl rfl rfl (Nat.le_of_ble_eq_true rfl) (Nat.le_of_ble_eq_true rfl) ?_
  exact ⟨rfl, rfl⟩

set_option maxRecDepth 10000 in
theorem c_periodOf {l : Launch} {G : zkG} {mem : zkM} (hl : l.stackTraces = false) {x : Int} {i : Nat} (hx : x = i) (hi : i < 5) : zkCt l G i_Mo_periodOf 0 0 0 [vr 7 0, vi x] mem (zkR1 (vi (moPe mem i)) mem) := by
  refine zkCt_of hl ok_Mo_periodOf (by decide +kernel) rfl rfl (List.forall_mem_cons.mpr ⟨rfl, (List.forall_mem_cons.mpr ⟨rfl, fun _ h => nomatch h⟩)⟩) (Nat.le_of_ble_eq_true rfl) ?_
  refine m_aload_n rfl rfl rfl ?_
  refine m_gr (k := 3) rfl rfl (Nat.le_of_ble_eq_true rfl) rfl rfl (by first | decide | assumption | (simp only [cnt]; omega)) ?_
  refine m_iconst rfl rfl ?_
  refine m_iload_n rfl rfl rfl ?_
  refine m_imul rfl rfl ?_
  refine m_iconst rfl rfl ?_
  refine m_iadd rfl rfl ?_
  refine m_ialx (n := 4 * i + 1) (y := mem 30 _ (4 * i + 1)) rfl rfl (Nat.le_of_ble_eq_true rfl) rfl (by first | decide | assumption | (simp only [cnt]; omega)) (by omega) (by simp only [aln]; omega) rfl ?_
  refine m_iret rfl rfl rfl (Nat.le_of_ble_eq_true rfl) (Nat.le_of_ble_eq_true rfl) ?_
  exact ⟨rfl, rfl⟩

set_option maxRecDepth 10000 in
theorem c_lengthAt {l : Launch} {G : zkG} {mem : zkM} (hl : l.stackTraces = false) {x y : Int} {i k : Nat} (hx : x = i) (hy : y = k) (hi : i < 5) (hk : k < 6) : zkCt l G i_Mo_lengthAt 0 0 0 [vr 7 0, vi x, vi y] mem (zkR1 (vi (moLe mem i k)) mem) := by
  refine zkCt_of hl ok_Mo_lengthAt (by decide +kernel) rfl rfl (List.forall_mem_cons.mpr ⟨rfl, (List.forall_mem_cons.mpr ⟨rfl, (List.forall_mem_cons.mpr ⟨rfl, fun _ h => nomatch h⟩)⟩)⟩) (Nat.le_of_ble_eq_true rfl) ?_
  refine m_aload_n rfl rfl rfl ?_
  refine m_gr (k := 5) rfl rfl (Nat.le_of_ble_eq_true rfl) rfl rfl (by first | decide | assumption | (simp only [cnt]; omega)) ?_
  refine m_iconst rfl rfl ?_
  refine m_bipush rfl rfl (by decide) ?_
  refine m_iload_n rfl rfl rfl ?_
  refine m_imul rfl rfl ?_
  refine m_iload_n rfl rfl rfl ?_
  refine m_iadd rfl rfl ?_
  refine m_imul rfl rfl ?_
  refine m_iconst rfl rfl ?_
  refine m_iadd rfl rfl ?_
  refine m_ialx (n := 2 * (6 * i + k) + 1) (y := mem 32 _ (2 * (6 * i + k) + 1)) rfl rfl (Nat.le_of_ble_eq_true rfl) rfl (by first | decide | assumption | (simp only [cnt]; omega)) (by omega) (by simp only [aln]; omega) rfl ?_
  refine m_iret rfl rfl rfl (Nat.le_of_ble_eq_true rfl) (Nat.le_of_ble_eq_true rfl) ?_
  exact ⟨rfl, rfl⟩

set_option maxRecDepth 10000 in
theorem c_resourceAt {l : Launch} {G : zkG} {mem : zkM} (hl : l.stackTraces = false) {x y : Int} {i k : Nat} (hx : x = i) (hy : y = k) (hi : i < 5) (hk : k < 6) : zkCt l G i_Mo_resourceAt 0 0 0 [vr 7 0, vi x, vi y] mem (zkR1 (vi (moRe mem i k)) mem) := by
  refine zkCt_of hl ok_Mo_resourceAt (by decide +kernel) rfl rfl (List.forall_mem_cons.mpr ⟨rfl, (List.forall_mem_cons.mpr ⟨rfl, (List.forall_mem_cons.mpr ⟨rfl, fun _ h => nomatch h⟩)⟩)⟩) (Nat.le_of_ble_eq_true rfl) ?_
  refine m_aload_n rfl rfl rfl ?_
  refine m_gr (k := 5) rfl rfl (Nat.le_of_ble_eq_true rfl) rfl rfl (by first | decide | assumption | (simp only [cnt]; omega)) ?_
  refine m_iconst rfl rfl ?_
  refine m_bipush rfl rfl (by decide) ?_
  refine m_iload_n rfl rfl rfl ?_
  refine m_imul rfl rfl ?_
  refine m_iload_n rfl rfl rfl ?_
  refine m_iadd rfl rfl ?_
  refine m_imul rfl rfl ?_
  refine m_ialx (n := 2 * (6 * i + k)) (y := mem 32 _ (2 * (6 * i + k))) rfl rfl (Nat.le_of_ble_eq_true rfl) rfl (by first | decide | assumption | (simp only [cnt]; omega)) (by omega) (by simp only [aln]; omega) rfl ?_
  refine m_iret rfl rfl rfl (Nat.le_of_ble_eq_true rfl) (Nat.le_of_ble_eq_true rfl) ?_
  exact ⟨rfl, rfl⟩

def moDe (m : zkM) (i : Nat) : Int := lp (fun k s => s + moLe m i k) (moS m i) 0
theorem moDe_b {m : zkM} (h : moA m) {i : Nat} (hi : i < 5) : 0 ≤ moDe m i ∧ moDe m i ≤ 54 := by
  have h2 := moA_s h hi
  have := lp_inv (fun j s => 0 ≤ s ∧ s ≤ 9 * (j : Int)) (fun k s => s + moLe m i k) (moS m i) (0 : Int) (by omega) (fun j s hj hs => by
    have := (moA_r h hi (k := j) (by omega)).2
    omega)
  unfold moDe
  omega
set_option maxRecDepth 10000 in
theorem c_demandOf {l : Launch} {G : zkG} {mem : zkM} (hl : l.stackTraces = false) {x : Int} {i : Nat} (hA : moA mem) (hx : x = i) (hi : i < 5) : zkCt l G i_Mo_demandOf 1 0 0 [vr 7 0, vi x] mem (zkR1 (vi (moDe mem i)) mem) := by
  refine zkCt_of hl ok_Mo_demandOf (by decide +kernel) rfl rfl (List.forall_mem_cons.mpr ⟨rfl, (List.forall_mem_cons.mpr ⟨rfl, fun _ h => nomatch h⟩)⟩) (Nat.le_of_ble_eq_true rfl) ?_
  subst hx
  have hs := moA_s hA hi
  refine m_iconst rfl rfl ?_
  refine m_istore_n rfl rfl (Nat.le_of_ble_eq_true rfl) rfl ?_
  refine m_iconst rfl rfl ?_
  refine m_istore_n rfl rfl (Nat.le_of_ble_eq_true rfl) rfl ?_
  refine zk_loop (P := fun (j : Nat) (s : Int) => zkW l G i_Mo_demandOf _ 0 0 4 [some (vr 7 0), some (vi i), some (vi s), some (vi j)] [] mem) (I := fun j s => 0 ≤ s ∧ s ≤ 9 * (j : Int)) (fun k s => s + moLe mem i k) (moS mem i) 0 (by omega) (fun j s hj hI => ?_) (fun j s hj hI hk => ?_) (fun hI => ?_)
  · have := (moA_r hA hi (k := j) (by omega)).2
    omega
  · refine m_iload_n rfl rfl rfl ?_
    refine m_aload_n rfl rfl rfl ?_
    refine m_gr (k := 4) rfl rfl (Nat.le_of_ble_eq_true rfl) rfl rfl (by first | decide | assumption | (simp only [cnt]; omega)) ?_
    refine m_iload_n rfl rfl rfl ?_
    refine m_ialx (n := i) (y := mem 31 _ (i)) rfl rfl (Nat.le_of_ble_eq_true rfl) rfl (by first | decide | assumption | (simp only [cnt]; omega)) (by omega) (by simp only [aln]; omega) rfl ?_
    refine m_icmp_ge (tgt := 29) rfl rfl rfl (by omega) (by omega) (fun c11 => ?_) (fun c11 => ?_)
    · exfalso; omega
    · refine m_iload_n rfl rfl rfl ?_
      refine m_aload_n rfl rfl rfl ?_
      refine m_iload_n rfl rfl rfl ?_
      refine m_iload_n rfl rfl rfl ?_
      refine m_cv1 rfl rfl lk_7_79 (c_lengthAt hl (i := _) (k := _) rfl rfl (by omega) (by omega)) rfl (by first | decide | assumption | (simp only [cnt]; omega)) (Nat.le_of_ble_eq_true rfl) rfl rfl (Nat.le_of_ble_eq_true rfl) (Nat.le_of_ble_eq_true rfl) (Nat.le_of_ble_eq_true rfl) (Nat.le_of_ble_eq_true rfl) (Nat.le_of_ble_eq_true rfl) ?_
      refine m_iadd rfl rfl ?_
      refine m_istore_n rfl rfl (Nat.le_of_ble_eq_true rfl) rfl ?_
      refine m_iinc rfl rfl rfl (Nat.le_of_ble_eq_true rfl) rfl ?_
      refine m_goto (tgt := 4) rfl rfl rfl ?_
      exact hk
  · refine m_iload_n rfl rfl rfl ?_
    refine m_aload_n rfl rfl rfl ?_
    refine m_gr (k := 4) rfl rfl (Nat.le_of_ble_eq_true rfl) rfl rfl (by first | decide | assumption | (simp only [cnt]; omega)) ?_
    refine m_iload_n rfl rfl rfl ?_
    refine m_ialx (n := i) (y := mem 31 _ (i)) rfl rfl (Nat.le_of_ble_eq_true rfl) rfl (by first | decide | assumption | (simp only [cnt]; omega)) (by omega) (by simp only [aln]; omega) rfl ?_
    refine m_icmp_ge (tgt := 29) rfl rfl rfl (by omega) (by omega) (fun c11 => ?_) (fun c11 => ?_)
    · refine m_iload_n rfl rfl rfl ?_
      refine m_iret rfl rfl rfl (Nat.le_of_ble_eq_true rfl) (Nat.le_of_ble_eq_true rfl) ?_
      exact ⟨rfl, rfl⟩
    · exfalso; omega

theorem zk_fg {l : Launch} {G : zkG} {i : zkI} {K : zkK} {cu su pc : Nat} {ls : List (Option zkV)} {st : List zkV} {mem : zkM} (n : Nat) (k : zkW l G i K cu su pc (ls.set n none) st mem) : zkW l G i K cu su pc ls st mem := by
  intro p e s m args below meth c C H locs a hP hS hl
  refine k p e s m args below meth c C H locs a hP hS ⟨hl.1, hl.2.1, fun x v hx => hl.2.2 x v ?_⟩
  rw [List.getElem?_set] at hx
  split at hx
  · split at hx <;> cases hx
  · exact hx
def moTk (m : zkM) (p : Int) : Bool := lp (fun k s => s || decide (moPr m k = p)) (moN m) false
set_option maxRecDepth 10000 in
theorem c_isTaken {l : Launch} {G : zkG} {mem : zkM} (hl : l.stackTraces = false) {p : Int} (hA : moA mem) (hp : inR p) : zkCt l G i_Mo_isTaken 1 0 0 [vr 7 0, vi p] mem (zkR1 (vi (b2i (moTk mem p))) mem) := by
  refine zkCt_of hl ok_Mo_isTaken (by decide +kernel) rfl rfl (List.forall_mem_cons.mpr ⟨rfl, (List.forall_mem_cons.mpr ⟨rfl, fun _ h => nomatch h⟩)⟩) (Nat.le_of_ble_eq_true rfl) ?_
  have hn := moA_n hA
  refine m_iconst rfl rfl ?_
  refine m_istore_n rfl rfl (Nat.le_of_ble_eq_true rfl) rfl ?_
  refine m_iconst rfl rfl ?_
  refine m_istore_n rfl rfl (Nat.le_of_ble_eq_true rfl) rfl ?_
  refine zk_loop (P := fun (j : Nat) (s : Bool) => zkW l G i_Mo_isTaken _ 0 0 4 [some (vr 7 0), some (vi p), some (vi (b2i s)), some (vi j)] [] mem) (I := fun _ _ => True) (fun k s => s || decide (moPr mem k = p)) (moN mem) false trivial (fun _ _ _ _ => trivial) (fun j s hj _ hk => ?_) (fun _ => ?_)
  · have hp2 := moA_p hA (i := j) (by omega)
    refine m_iload_n rfl rfl rfl ?_
    refine m_aload_n rfl rfl rfl ?_
    refine m_gix (k := 2) (x := mem 7 _ 2) rfl rfl (Nat.le_of_ble_eq_true rfl) rfl rfl (by first | decide | assumption | (simp only [cnt]; omega)) rfl ?_
    refine m_icmp_ge (tgt := 37) rfl rfl rfl (by omega) (by omega) (fun c9 => ?_) (fun c9 => ?_)
    · exfalso; omega
    · refine m_iload_n rfl rfl rfl ?_
      refine m_if_ne_b (tgt := 25) rfl rfl rfl (fun c13 => ?_) (fun c13 => ?_)
      · refine m_iconst rfl rfl ?_
        refine m_goto (tgt := 30) rfl rfl rfl ?_
        refine m_istore_n rfl rfl (Nat.le_of_ble_eq_true rfl) rfl ?_
        refine m_iinc rfl rfl rfl (Nat.le_of_ble_eq_true rfl) rfl ?_
        refine m_goto (tgt := 4) rfl rfl rfl ?_
        first | (subst c13; rw [dt c22] at hk; exact hk) | (subst c13; rw [df c22] at hk; exact hk) | (subst c13; exact hk)
      · refine m_aload_n rfl rfl rfl ?_
        refine m_iload_n rfl rfl rfl ?_
        refine m_cv1 rfl rfl lk_7_110 (c_priorityOf hl (i := _) rfl (by omega)) rfl (by first | decide | assumption | (simp only [cnt]; omega)) (Nat.le_of_ble_eq_true rfl) rfl rfl (Nat.le_of_ble_eq_true rfl) (Nat.le_of_ble_eq_true rfl) (Nat.le_of_ble_eq_true rfl) (Nat.le_of_ble_eq_true rfl) (Nat.le_of_ble_eq_true rfl) ?_
        refine m_iload_n rfl rfl rfl ?_
        refine m_icmp_ne (tgt := 29) rfl rfl rfl (by omega) (by omega) (fun c22 => ?_) (fun c22 => ?_)
        · refine m_iconst rfl rfl ?_
          refine m_istore_n rfl rfl (Nat.le_of_ble_eq_true rfl) rfl ?_
          refine m_iinc rfl rfl rfl (Nat.le_of_ble_eq_true rfl) rfl ?_
          refine m_goto (tgt := 4) rfl rfl rfl ?_
          first | (subst c13; rw [dt c22] at hk; exact hk) | (subst c13; rw [df c22] at hk; exact hk) | (subst c13; exact hk)
        · refine m_iconst rfl rfl ?_
          refine m_goto (tgt := 30) rfl rfl rfl ?_
          refine m_istore_n rfl rfl (Nat.le_of_ble_eq_true rfl) rfl ?_
          refine m_iinc rfl rfl rfl (Nat.le_of_ble_eq_true rfl) rfl ?_
          refine m_goto (tgt := 4) rfl rfl rfl ?_
          first | (subst c13; rw [dt c22] at hk; exact hk) | (subst c13; rw [df c22] at hk; exact hk) | (subst c13; exact hk)
  · refine m_iload_n rfl rfl rfl ?_
    refine m_aload_n rfl rfl rfl ?_
    refine m_gix (k := 2) (x := mem 7 _ 2) rfl rfl (Nat.le_of_ble_eq_true rfl) rfl rfl (by first | decide | assumption | (simp only [cnt]; omega)) rfl ?_
    refine m_icmp_ge (tgt := 37) rfl rfl rfl (by omega) (by omega) (fun c9 => ?_) (fun c9 => ?_)
    · refine m_iload_n rfl rfl rfl ?_
      refine m_zret rfl rfl rfl (Nat.le_of_ble_eq_true rfl) (Nat.le_of_ble_eq_true rfl) ?_
      exact ⟨rfl, rfl⟩
    · exfalso; omega

def moCi (m : zkM) (r : Int) (i : Nat) (s : Int) : Int := lp (fun k s => if moRe m i k = r then max s (moPr m i) else s) (moS m i) s
def moCe (m : zkM) (r : Int) : Int := lp (fun i s => moCi m r i s) (moN m) 0
theorem moCi_b {m : zkM} (h : moA m) (r : Int) {i : Nat} (hi : i < 5) {s : Int} (hs : 0 ≤ s ∧ s ≤ 9) : 0 ≤ moCi m r i s ∧ moCi m r i s ≤ 9 := by
  unfold moCi
  refine lp_inv (fun _ s => 0 ≤ s ∧ s ≤ 9) _ _ s hs (fun j s hj hs => ?_)
  have := moA_p h hi
  split <;> omega
theorem moCe_b {m : zkM} (h : moA m) (r : Int) : 0 ≤ moCe m r ∧ moCe m r ≤ 9 := by
  have hn := moA_n h
  exact lp_inv (fun _ s => 0 ≤ s ∧ s ≤ 9) (fun i s => moCi m r i s) (moN m) (0 : Int) (by omega) (fun j s hj hs => moCi_b h r (by omega) hs)
set_option maxRecDepth 10000 in
theorem c_ceilingOf {l : Launch} {G : zkG} {mem : zkM} (hl : l.stackTraces = false) {r : Int} (hA : moA mem) (hr : inR r) : zkCt l G i_Mo_ceilingOf 1 0 0 [vr 7 0, vi r] mem (zkR1 (vi (moCe mem r)) mem) := by
  refine zkCt_of hl ok_Mo_ceilingOf (by decide +kernel) rfl rfl (List.forall_mem_cons.mpr ⟨rfl, (List.forall_mem_cons.mpr ⟨rfl, fun _ h => nomatch h⟩)⟩) (Nat.le_of_ble_eq_true rfl) ?_
  have hn := moA_n hA
  refine m_iconst rfl rfl ?_
  refine m_istore_n rfl rfl (Nat.le_of_ble_eq_true rfl) rfl ?_
  refine m_iconst rfl rfl ?_
  refine m_istore_n rfl rfl (Nat.le_of_ble_eq_true rfl) rfl ?_
  refine zk_loop (P := fun (j : Nat) (s : Int) => zkW l G i_Mo_ceilingOf _ 0 0 4 [some (vr 7 0), some (vi r), some (vi s), some (vi j), none] [] mem) (I := fun _ s => 0 ≤ s ∧ s ≤ 9) (fun i s => moCi mem r i s) (moN mem) 0 (by omega) (fun j s hj hI => moCi_b hA r (by omega) hI) (fun j s hj hI hk => ?_) (fun _ => ?_)
  · have hs := moA_s hA (i := j) (by omega)
    have hp := moA_p hA (i := j) (by omega)
    refine m_iload_n rfl rfl rfl ?_
    refine m_aload_n rfl rfl rfl ?_
    refine m_gix (k := 2) (x := mem 7 _ 2) rfl rfl (Nat.le_of_ble_eq_true rfl) rfl rfl (by first | decide | assumption | (simp only [cnt]; omega)) rfl ?_
    refine m_icmp_ge (tgt := 63) rfl rfl rfl (by omega) (by omega) (fun c9 => ?_) (fun c9 => ?_)
    · exfalso; omega
    · refine m_iconst rfl rfl ?_
      refine m_istore rfl rfl (Nat.le_of_ble_eq_true rfl) rfl ?_
      refine zk_loop (P := fun (k : Nat) (s : Int) => zkW l G i_Mo_ceilingOf _ 0 0 15 [some (vr 7 0), some (vi r), some (vi s), some (vi j), some (vi k)] [] mem) (I := fun _ s => 0 ≤ s ∧ s ≤ 9) (fun k s => if moRe mem j k = r then max s (moPr mem j) else s) (moS mem j) s hI (fun k s hk hI => ?_) (fun k s hk hI hq => ?_) (fun _ => ?_)
      · split <;> omega
      · have hr2 := (moA_r hA (i := j) (k := k) (by omega) (by omega)).1
        refine m_iload rfl rfl rfl ?_
        refine m_aload_n rfl rfl rfl ?_
        refine m_gr (k := 4) rfl rfl (Nat.le_of_ble_eq_true rfl) rfl rfl (by first | decide | assumption | (simp only [cnt]; omega)) ?_
        refine m_iload_n rfl rfl rfl ?_
        refine m_ialx (n := j) (y := mem 31 _ (j)) rfl rfl (Nat.le_of_ble_eq_true rfl) rfl (by first | decide | assumption | (simp only [cnt]; omega)) (by omega) (by simp only [aln]; omega) rfl ?_
        refine m_icmp_ge (tgt := 57) rfl rfl rfl (by omega) (by omega) (fun c23 => ?_) (fun c23 => ?_)
        · exfalso; omega
        · refine m_aload_n rfl rfl rfl ?_
          refine m_iload_n rfl rfl rfl ?_
          refine m_iload rfl rfl rfl ?_
          refine m_cv1 rfl rfl lk_7_134 (c_resourceAt hl (i := _) (k := _) rfl rfl (by omega) (by omega)) rfl (by first | decide | assumption | (simp only [cnt]; omega)) (Nat.le_of_ble_eq_true rfl) rfl rfl (Nat.le_of_ble_eq_true rfl) (Nat.le_of_ble_eq_true rfl) (Nat.le_of_ble_eq_true rfl) (Nat.le_of_ble_eq_true rfl) (Nat.le_of_ble_eq_true rfl) ?_
          refine m_iload_n rfl rfl rfl ?_
          refine m_icmp_ne (tgt := 49) rfl rfl rfl (by omega) (by omega) (fun c34 => ?_) (fun c34 => ?_)
          · refine m_iload_n rfl rfl rfl ?_
            refine m_istore_n rfl rfl (Nat.le_of_ble_eq_true rfl) rfl ?_
            refine m_iinc rfl rfl rfl (Nat.le_of_ble_eq_true rfl) rfl ?_
            refine m_goto (tgt := 15) rfl rfl rfl ?_
            first | (rw [if_pos c34] at hq; exact hq) | (rw [if_neg c34] at hq; exact hq)
          · refine m_iload_n rfl rfl rfl ?_
            refine m_aload_n rfl rfl rfl ?_
            refine m_iload_n rfl rfl rfl ?_
            refine m_cv1 rfl rfl lk_7_110 (c_priorityOf hl (i := _) rfl (by omega)) rfl (by first | decide | assumption | (simp only [cnt]; omega)) (Nat.le_of_ble_eq_true rfl) rfl rfl (Nat.le_of_ble_eq_true rfl) (Nat.le_of_ble_eq_true rfl) (Nat.le_of_ble_eq_true rfl) (Nat.le_of_ble_eq_true rfl) (Nat.le_of_ble_eq_true rfl) ?_
            refine m_max rfl rfl (by decide +kernel) (by omega) (by omega) (Nat.le_of_ble_eq_true rfl) (Nat.le_of_ble_eq_true rfl) (Nat.le_of_ble_eq_true rfl) (Nat.le_of_ble_eq_true rfl) ?_
            refine m_goto (tgt := 50) rfl rfl rfl ?_
            refine m_istore_n rfl rfl (Nat.le_of_ble_eq_true rfl) rfl ?_
            refine m_iinc rfl rfl rfl (Nat.le_of_ble_eq_true rfl) rfl ?_
            refine m_goto (tgt := 15) rfl rfl rfl ?_
            first | (rw [if_pos c34] at hq; exact hq) | (rw [if_neg c34] at hq; exact hq)
      · refine m_iload rfl rfl rfl ?_
        refine m_aload_n rfl rfl rfl ?_
        refine m_gr (k := 4) rfl rfl (Nat.le_of_ble_eq_true rfl) rfl rfl (by first | decide | assumption | (simp only [cnt]; omega)) ?_
        refine m_iload_n rfl rfl rfl ?_
        refine m_ialx (n := j) (y := mem 31 _ (j)) rfl rfl (Nat.le_of_ble_eq_true rfl) rfl (by first | decide | assumption | (simp only [cnt]; omega)) (by omega) (by simp only [aln]; omega) rfl ?_
        refine m_icmp_ge (tgt := 57) rfl rfl rfl (by omega) (by omega) (fun c23 => ?_) (fun c23 => ?_)
        · refine m_iinc rfl rfl rfl (Nat.le_of_ble_eq_true rfl) rfl ?_
          refine m_goto (tgt := 4) rfl rfl rfl ?_
          refine zk_fg 4 ?_
          exact hk
        · exfalso; omega
  · refine m_iload_n rfl rfl rfl ?_
    refine m_aload_n rfl rfl rfl ?_
    refine m_gix (k := 2) (x := mem 7 _ 2) rfl rfl (Nat.le_of_ble_eq_true rfl) rfl rfl (by first | decide | assumption | (simp only [cnt]; omega)) rfl ?_
    refine m_icmp_ge (tgt := 63) rfl rfl rfl (by omega) (by omega) (fun c9 => ?_) (fun c9 => ?_)
    · refine m_iload_n rfl rfl rfl ?_
      refine m_iret rfl rfl rfl (Nat.le_of_ble_eq_true rfl) (Nat.le_of_ble_eq_true rfl) ?_
      exact ⟨rfl, rfl⟩
    · exfalso; omega

def moBf (m : zkM) (i o k : Nat) (s : Int) : Int := if moRe m o k ≠ -1 ∧ moPr m i ≤ moCe m (moRe m o k) then max s (moLe m o k - 1) else s
def moBi (m : zkM) (i o : Nat) (s : Int) : Int := lp (fun k s => moBf m i o k s) (if moPr m o < moPr m i then moS m o else 0) s
def moBl (m : zkM) (i : Nat) : Int := lp (fun o s => moBi m i o s) (moN m) 0
theorem moBf_b {m : zkM} (h : moA m) (i : Nat) {o k : Nat} (ho : o < 5) (hk : k < 6) {s : Int} (hs : 0 ≤ s ∧ s ≤ 8) : 0 ≤ moBf m i o k s ∧ moBf m i o k s ≤ 8 := by
  have := (moA_r h ho hk).2
  unfold moBf
  split <;> omega
theorem moBi_b {m : zkM} (h : moA m) (i : Nat) {o : Nat} (ho : o < 5) {s : Int} (hs : 0 ≤ s ∧ s ≤ 8) : 0 ≤ moBi m i o s ∧ moBi m i o s ≤ 8 := by
  have h2 := moA_s h ho
  unfold moBi
  refine lp_inv (fun _ s => 0 ≤ s ∧ s ≤ 8) _ _ s hs (fun j s hj hs => moBf_b h i ho ?_ hs)
  split at hj <;> omega
theorem moBl_b {m : zkM} (h : moA m) (i : Nat) : 0 ≤ moBl m i ∧ moBl m i ≤ 8 := by
  have hn := moA_n h
  exact lp_inv (fun _ s => 0 ≤ s ∧ s ≤ 8) (fun o s => moBi m i o s) (moN m) (0 : Int) (by omega) (fun j s hj hs => moBi_b h i (by omega) hs)
set_option maxRecDepth 10000 in
theorem c_blockingOf {l : Launch} {G : zkG} {mem : zkM} (hl : l.stackTraces = false) {x : Int} {i : Nat} (hA : moA mem) (hx : x = i) (hi : i < 5) : zkCt l G i_Mo_blockingOf 2 0 0 [vr 7 0, vi x] mem (zkR1 (vi (moBl mem i)) mem) := by
  refine zkCt_of hl ok_Mo_blockingOf (by decide +kernel) rfl rfl (List.forall_mem_cons.mpr ⟨rfl, (List.forall_mem_cons.mpr ⟨rfl, fun _ h => nomatch h⟩)⟩) (Nat.le_of_ble_eq_true rfl) ?_
  subst hx
  have hn := moA_n hA
  have hpi := moA_p hA hi
  refine m_iconst rfl rfl ?_
  refine m_istore_n rfl rfl (Nat.le_of_ble_eq_true rfl) rfl ?_
  refine m_iconst rfl rfl ?_
  refine m_istore_n rfl rfl (Nat.le_of_ble_eq_true rfl) rfl ?_
  refine zk_loop (P := fun (j : Nat) (s : Int) => zkW l G i_Mo_blockingOf _ 0 0 4 [some (vr 7 0), some (vi i), some (vi s), some (vi j), none, none, none] [] mem) (I := fun _ s => 0 ≤ s ∧ s ≤ 8) (fun o s => moBi mem i o s) (moN mem) 0 (by omega) (fun j s hj hI => moBi_b hA i (by omega) hI) (fun j s hj hI hk => ?_) (fun _ => ?_)
  · have hs := moA_s hA (i := j) (by omega)
    have hp := moA_p hA (i := j) (by omega)
    refine m_iload_n rfl rfl rfl ?_
    refine m_aload_n rfl rfl rfl ?_
    refine m_gix (k := 2) (x := mem 7 _ 2) rfl rfl (Nat.le_of_ble_eq_true rfl) rfl rfl (by first | decide | assumption | (simp only [cnt]; omega)) rfl ?_
    refine m_icmp_ge (tgt := 110) rfl rfl rfl (by omega) (by omega) (fun c9 => ?_) (fun c9 => ?_)
    · exfalso; omega
    · refine m_iconst rfl rfl ?_
      refine m_istore rfl rfl (Nat.le_of_ble_eq_true rfl) rfl ?_
      unfold moBi at hk
      refine zk_loop (P := fun (k : Nat) (s : Int) => zkW l G i_Mo_blockingOf _ 0 0 15 [some (vr 7 0), some (vi i), some (vi s), some (vi j), some (vi k), none, none] [] mem) (I := fun _ s => 0 ≤ s ∧ s ≤ 8) (fun k s => moBf mem i j k s) (if moPr mem j < moPr mem i then moS mem j else 0) s hI (fun k s hk hI => moBf_b hA i (by omega) (by split at hk <;> omega) hI) (fun k s hk2 hI hq => ?_) (fun _ => ?_)
      · have hlt : moPr mem j < moPr mem i ∧ k < moS mem j := by split at hk2 <;> omega
        have hr2 := moA_r hA (i := j) (k := k) (by omega) (by omega)
        have hce := moCe_b hA (moRe mem j k)
        unfold moBf at hq
        refine m_iload rfl rfl rfl ?_
        refine m_aload_n rfl rfl rfl ?_
        refine m_gr (k := 4) rfl rfl (Nat.le_of_ble_eq_true rfl) rfl rfl (by first | decide | assumption | (simp only [cnt]; omega)) ?_
        refine m_iload_n rfl rfl rfl ?_
        refine m_ialx (n := j) (y := mem 31 _ (j)) rfl rfl (Nat.le_of_ble_eq_true rfl) rfl (by first | decide | assumption | (simp only [cnt]; omega)) (by omega) (by simp only [aln]; omega) rfl ?_
        refine m_icmp_ge (tgt := 104) rfl rfl rfl (by omega) (by omega) (fun c23 => ?_) (fun c23 => ?_)
        · exfalso; omega
        · refine m_aload_n rfl rfl rfl ?_
          refine m_iload_n rfl rfl rfl ?_
          refine m_cv1 rfl rfl lk_7_110 (c_priorityOf hl (i := _) rfl (by omega)) rfl (by first | decide | assumption | (simp only [cnt]; omega)) (Nat.le_of_ble_eq_true rfl) rfl rfl (Nat.le_of_ble_eq_true rfl) (Nat.le_of_ble_eq_true rfl) (Nat.le_of_ble_eq_true rfl) (Nat.le_of_ble_eq_true rfl) (Nat.le_of_ble_eq_true rfl) ?_
          refine m_aload_n rfl rfl rfl ?_
          refine m_iload_n rfl rfl rfl ?_
          refine m_cv1 rfl rfl lk_7_110 (c_priorityOf hl (i := _) rfl (by omega)) rfl (by first | decide | assumption | (simp only [cnt]; omega)) (Nat.le_of_ble_eq_true rfl) rfl rfl (Nat.le_of_ble_eq_true rfl) (Nat.le_of_ble_eq_true rfl) (Nat.le_of_ble_eq_true rfl) (Nat.le_of_ble_eq_true rfl) (Nat.le_of_ble_eq_true rfl) ?_
          refine m_icmp_ge (tgt := 104) rfl rfl rfl (by omega) (by omega) (fun c36 => ?_) (fun c36 => ?_)
          · exfalso; omega
          · refine m_aload_n rfl rfl rfl ?_
            refine m_iload_n rfl rfl rfl ?_
            refine m_iload rfl rfl rfl ?_
            refine m_cv1 rfl rfl lk_7_134 (c_resourceAt hl (i := _) (k := _) rfl rfl (by omega) (by omega)) rfl (by first | decide | assumption | (simp only [cnt]; omega)) (Nat.le_of_ble_eq_true rfl) rfl rfl (Nat.le_of_ble_eq_true rfl) (Nat.le_of_ble_eq_true rfl) (Nat.le_of_ble_eq_true rfl) (Nat.le_of_ble_eq_true rfl) (Nat.le_of_ble_eq_true rfl) ?_
            refine m_istore rfl rfl (Nat.le_of_ble_eq_true rfl) rfl ?_
            refine m_iload rfl rfl rfl ?_
            refine m_iconst rfl rfl ?_
            refine m_icmp_eq (tgt := 72) rfl rfl rfl (by omega) (by omega) (fun c51 => ?_) (fun c51 => ?_)
            · refine m_iconst rfl rfl ?_
              refine m_istore rfl rfl (Nat.le_of_ble_eq_true rfl) rfl ?_
              refine m_iload rfl rfl rfl ?_
              refine m_if_eq (tgt := 96) rfl rfl rfl (by omega) (fun c77 => ?_) (fun c77 => ?_)
              · refine m_iload_n rfl rfl rfl ?_
                refine m_istore_n rfl rfl (Nat.le_of_ble_eq_true rfl) rfl ?_
                refine m_iinc rfl rfl rfl (Nat.le_of_ble_eq_true rfl) rfl ?_
                refine m_goto (tgt := 15) rfl rfl rfl ?_
                refine zk_fg 5 ?_
                refine zk_fg 6 ?_
                first | (rw [if_pos (by omega)] at hq; exact hq) | (rw [if_neg (by omega)] at hq; exact hq)
              · exfalso; omega
            · refine m_aload_n rfl rfl rfl ?_
              refine m_iload rfl rfl rfl ?_
              refine m_cv1 rfl rfl lk_7_142 (c_ceilingOf hl hA (by omega)) rfl (by first | decide | assumption | (simp only [cnt]; omega)) (Nat.le_of_ble_eq_true rfl) rfl rfl (Nat.le_of_ble_eq_true rfl) (Nat.le_of_ble_eq_true rfl) (Nat.le_of_ble_eq_true rfl) (Nat.le_of_ble_eq_true rfl) (Nat.le_of_ble_eq_true rfl) ?_
              refine m_aload_n rfl rfl rfl ?_
              refine m_iload_n rfl rfl rfl ?_
              refine m_cv1 rfl rfl lk_7_110 (c_priorityOf hl (i := _) rfl (by omega)) rfl (by first | decide | assumption | (simp only [cnt]; omega)) (Nat.le_of_ble_eq_true rfl) rfl rfl (Nat.le_of_ble_eq_true rfl) (Nat.le_of_ble_eq_true rfl) (Nat.le_of_ble_eq_true rfl) (Nat.le_of_ble_eq_true rfl) (Nat.le_of_ble_eq_true rfl) ?_
              refine m_icmp_lt (tgt := 72) rfl rfl rfl (by omega) (by omega) (fun c65 => ?_) (fun c65 => ?_)
              · refine m_iconst rfl rfl ?_
                refine m_istore rfl rfl (Nat.le_of_ble_eq_true rfl) rfl ?_
                refine m_iload rfl rfl rfl ?_
                refine m_if_eq (tgt := 96) rfl rfl rfl (by omega) (fun c77 => ?_) (fun c77 => ?_)
                · refine m_iload_n rfl rfl rfl ?_
                  refine m_istore_n rfl rfl (Nat.le_of_ble_eq_true rfl) rfl ?_
                  refine m_iinc rfl rfl rfl (Nat.le_of_ble_eq_true rfl) rfl ?_
                  refine m_goto (tgt := 15) rfl rfl rfl ?_
                  refine zk_fg 5 ?_
                  refine zk_fg 6 ?_
                  first | (rw [if_pos (by omega)] at hq; exact hq) | (rw [if_neg (by omega)] at hq; exact hq)
                · exfalso; omega
              · refine m_iconst rfl rfl ?_
                refine m_goto (tgt := 73) rfl rfl rfl ?_
                refine m_istore rfl rfl (Nat.le_of_ble_eq_true rfl) rfl ?_
                refine m_iload rfl rfl rfl ?_
                refine m_if_eq (tgt := 96) rfl rfl rfl (by omega) (fun c77 => ?_) (fun c77 => ?_)
                · exfalso; omega
                · refine m_iload_n rfl rfl rfl ?_
                  refine m_aload_n rfl rfl rfl ?_
                  refine m_iload_n rfl rfl rfl ?_
                  refine m_iload rfl rfl rfl ?_
                  refine m_cv1 rfl rfl lk_7_79 (c_lengthAt hl (i := _) (k := _) rfl rfl (by omega) (by omega)) rfl (by first | decide | assumption | (simp only [cnt]; omega)) (Nat.le_of_ble_eq_true rfl) rfl rfl (Nat.le_of_ble_eq_true rfl) (Nat.le_of_ble_eq_true rfl) (Nat.le_of_ble_eq_true rfl) (Nat.le_of_ble_eq_true rfl) (Nat.le_of_ble_eq_true rfl) ?_
                  refine m_iconst rfl rfl ?_
                  refine m_isub rfl rfl ?_
                  refine m_max rfl rfl (by decide +kernel) (by omega) (by omega) (Nat.le_of_ble_eq_true rfl) (Nat.le_of_ble_eq_true rfl) (Nat.le_of_ble_eq_true rfl) (Nat.le_of_ble_eq_true rfl) ?_
                  refine m_goto (tgt := 97) rfl rfl rfl ?_
                  refine m_istore_n rfl rfl (Nat.le_of_ble_eq_true rfl) rfl ?_
                  refine m_iinc rfl rfl rfl (Nat.le_of_ble_eq_true rfl) rfl ?_
                  refine m_goto (tgt := 15) rfl rfl rfl ?_
                  refine zk_fg 5 ?_
                  refine zk_fg 6 ?_
                  first | (rw [if_pos (by omega)] at hq; exact hq) | (rw [if_neg (by omega)] at hq; exact hq)
      · have hN : (if moPr mem j < moPr mem i then moS mem j else 0) ≤ 6 := by split <;> omega
        refine m_iload rfl rfl rfl ?_
        refine m_aload_n rfl rfl rfl ?_
        refine m_gr (k := 4) rfl rfl (Nat.le_of_ble_eq_true rfl) rfl rfl (by first | decide | assumption | (simp only [cnt]; omega)) ?_
        refine m_iload_n rfl rfl rfl ?_
        refine m_ialx (n := j) (y := mem 31 _ (j)) rfl rfl (Nat.le_of_ble_eq_true rfl) rfl (by first | decide | assumption | (simp only [cnt]; omega)) (by omega) (by simp only [aln]; omega) rfl ?_
        refine m_icmp_ge (tgt := 104) rfl rfl rfl (by omega) (by omega) (fun c23 => ?_) (fun c23 => ?_)
        · refine m_iinc rfl rfl rfl (Nat.le_of_ble_eq_true rfl) rfl ?_
          refine m_goto (tgt := 4) rfl rfl rfl ?_
          refine zk_fg 4 ?_
          exact hk
        · refine m_aload_n rfl rfl rfl ?_
          refine m_iload_n rfl rfl rfl ?_
          refine m_cv1 rfl rfl lk_7_110 (c_priorityOf hl (i := _) rfl (by omega)) rfl (by first | decide | assumption | (simp only [cnt]; omega)) (Nat.le_of_ble_eq_true rfl) rfl rfl (Nat.le_of_ble_eq_true rfl) (Nat.le_of_ble_eq_true rfl) (Nat.le_of_ble_eq_true rfl) (Nat.le_of_ble_eq_true rfl) (Nat.le_of_ble_eq_true rfl) ?_
          refine m_aload_n rfl rfl rfl ?_
          refine m_iload_n rfl rfl rfl ?_
          refine m_cv1 rfl rfl lk_7_110 (c_priorityOf hl (i := _) rfl (by omega)) rfl (by first | decide | assumption | (simp only [cnt]; omega)) (Nat.le_of_ble_eq_true rfl) rfl rfl (Nat.le_of_ble_eq_true rfl) (Nat.le_of_ble_eq_true rfl) (Nat.le_of_ble_eq_true rfl) (Nat.le_of_ble_eq_true rfl) (Nat.le_of_ble_eq_true rfl) ?_
          refine m_icmp_ge (tgt := 104) rfl rfl rfl (by omega) (by omega) (fun c36 => ?_) (fun c36 => ?_)
          · refine m_iinc rfl rfl rfl (Nat.le_of_ble_eq_true rfl) rfl ?_
            refine m_goto (tgt := 4) rfl rfl rfl ?_
            refine zk_fg 4 ?_
            exact hk
          · exfalso
            split at c23 <;> omega
  · refine m_iload_n rfl rfl rfl ?_
    refine m_aload_n rfl rfl rfl ?_
    refine m_gix (k := 2) (x := mem 7 _ 2) rfl rfl (Nat.le_of_ble_eq_true rfl) rfl rfl (by first | decide | assumption | (simp only [cnt]; omega)) rfl ?_
    refine m_icmp_ge (tgt := 110) rfl rfl rfl (by omega) (by omega) (fun c9 => ?_) (fun c9 => ?_)
    · refine m_iload_n rfl rfl rfl ?_
      refine m_iret rfl rfl rfl (Nat.le_of_ble_eq_true rfl) (Nat.le_of_ble_eq_true rfl) ?_
      exact ⟨rfl, rfl⟩
    · exfalso; omega

theorem mul_b {a b A B : Int} (ha : 0 ≤ a ∧ a ≤ A) (hb : 0 ≤ b ∧ b ≤ B) : 0 ≤ a * b ∧ a * b ≤ A * B :=
  ⟨Int.mul_nonneg ha.1 hb.1, Int.mul_le_mul ha.2 hb.2 hb.1 (by omega)⟩
def moQ (a b : Int) : Int := (a + b - 1) / b
theorem moQ_b {a b : Int} (ha : 0 ≤ a) (hb : 1 ≤ b) : 0 ≤ moQ a b ∧ moQ a b ≤ a + b - 1 := ⟨Int.ediv_nonneg (by omega) (by omega), Int.ediv_le_self b (by omega)⟩
set_option maxRecDepth 10000 in
theorem c_quotientUp {l : Launch} {G : zkG} {mem : zkM} (hl : l.stackTraces = false) {a b : Int} (ha : 0 ≤ a ∧ a ≤ 100000) (hb : 1 ≤ b ∧ b ≤ 100000) : zkCt l G i_Mo_quotientUp 0 0 0 [vi a, vi b] mem (zkR1 (vi (moQ a b)) mem) := by
  refine zkCt_of hl ok_Mo_quotientUp (by decide +kernel) rfl rfl (List.forall_mem_cons.mpr ⟨rfl, (List.forall_mem_cons.mpr ⟨rfl, fun _ h => nomatch h⟩)⟩) (Nat.le_of_ble_eq_true rfl) ?_
  refine m_iload_n rfl rfl rfl ?_
  refine m_iload_n rfl rfl rfl ?_
  refine m_iadd rfl rfl ?_
  refine m_iconst rfl rfl ?_
  refine m_isub rfl rfl ?_
  refine m_iload_n rfl rfl rfl ?_
  refine m_idiv rfl rfl (by omega) (by omega) (by omega) (by omega) ?_
  refine m_iret rfl rfl rfl (Nat.le_of_ble_eq_true rfl) (Nat.le_of_ble_eq_true rfl) ?_
  exact ⟨rfl, rfl⟩

def moWf (m : zkM) (i : Nat) (r : Int) (o : Nat) (s : Int) : Int := s + (if moPr m i < moPr m o then moDe m o * moQ r (moPe m o) else 0)
def moWk (m : zkM) (i : Nat) (r : Int) : Int := lp (moWf m i r) (moN m) (moBl m i + moDe m i) + (if moPr m i < m 7 0 6 then m 7 0 7 * moQ r (m 7 0 8) else 0)
theorem moWf_b {m : zkM} (h : moA m) (i : Nat) {r : Int} (hr : 0 ≤ r ∧ r ≤ 1001) {j : Nat} (hj : j < moN m) {s : Int} (hs : 0 ≤ s ∧ s ≤ 62 + 57294 * (j : Int)) : 0 ≤ moWf m i r j s ∧ moWf m i r j s ≤ 62 + 57294 * ((j + 1 : Nat) : Int) := by
  have hn := moA_n h
  have h1 := moDe_b h (i := j) (by omega)
  have h2 := moA_e h (i := j) (by omega)
  have h3 := moA_e1 h hj
  have h4 := moQ_b hr.1 h3
  have h5 := mul_b h1 (B := 1061) (b := moQ r (moPe m j)) (by omega)
  unfold moWf
  split <;> omega
theorem moWs_b {m : zkM} (h : moA m) (i : Nat) (hi : i < 5) {r : Int} (hr : 0 ≤ r ∧ r ≤ 1001) : 0 ≤ (if moPr m i < m 7 0 6 then m 7 0 7 * moQ r (m 7 0 8) else 0) ∧ (if moPr m i < m 7 0 6 then m 7 0 7 * moQ r (m 7 0 8) else 0) ≤ 9549 := by
  obtain ⟨-, -, -, -, -, h6, h7, h8, h9⟩ := id h
  have hp := moA_p h hi
  split
  · next hq =>
    have h4 := moQ_b (b := m 7 0 8) hr.1 (by omega)
    have h5 := mul_b h7 (B := 1061) (b := moQ r (m 7 0 8)) (by omega)
    omega
  · omega
theorem moWl_b {m : zkM} (h : moA m) (i : Nat) (hi : i < 5) {r : Int} (hr : 0 ≤ r ∧ r ≤ 1001) : 0 ≤ lp (moWf m i r) (moN m) (moBl m i + moDe m i) ∧ lp (moWf m i r) (moN m) (moBl m i + moDe m i) ≤ 300000 := by
  have hn := moA_n h
  have h1 := moBl_b h i
  have h2 := moDe_b h hi
  have := lp_inv (fun j s => 0 ≤ s ∧ s ≤ 62 + 57294 * (j : Int)) (moWf m i r) (moN m) (moBl m i + moDe m i) (by omega) (fun j s hj hs => moWf_b h i hr hj hs)
  omega
theorem moWk_b {m : zkM} (h : moA m) (i : Nat) (hi : i < 5) {r : Int} (hr : 0 ≤ r ∧ r ≤ 1001) : 0 ≤ moWk m i r ∧ moWk m i r ≤ 400000 := by
  have h1 := moWl_b h i hi hr
  have h2 := moWs_b h i hi hr
  unfold moWk
  omega
set_option maxRecDepth 10000 in
theorem c_workUpTo {l : Launch} {G : zkG} {mem : zkM} (hl : l.stackTraces = false) {x r : Int} {i : Nat} (hA : moA mem) (hx : x = i) (hi : i < 5) (hr : 0 ≤ r ∧ r ≤ 1001) : zkCt l G i_Mo_workUpTo 3 0 0 [vr 7 0, vi x, vi r] mem (zkR1 (vi (moWk mem i r)) mem) := by
  refine zkCt_of hl ok_Mo_workUpTo (by decide +kernel) rfl rfl (List.forall_mem_cons.mpr ⟨rfl, (List.forall_mem_cons.mpr ⟨rfl, (List.forall_mem_cons.mpr ⟨rfl, fun _ h => nomatch h⟩)⟩)⟩) (Nat.le_of_ble_eq_true rfl) ?_
  subst hx
  have hn := moA_n hA
  have hpi := moA_p hA hi
  have hbl := moBl_b hA i
  have hde := moDe_b hA hi
  obtain ⟨-, -, -, -, -, g6, g7, g8, g9⟩ := id hA
  refine m_aload_n rfl rfl rfl ?_
  refine m_iload_n rfl rfl rfl ?_
  refine m_cv1 rfl rfl lk_7_145 (c_blockingOf hl hA (i := _) rfl (by omega)) rfl (by first | decide | assumption | (simp only [cnt]; omega)) (Nat.le_of_ble_eq_true rfl) rfl rfl (Nat.le_of_ble_eq_true rfl) (Nat.le_of_ble_eq_true rfl) (Nat.le_of_ble_eq_true rfl) (Nat.le_of_ble_eq_true rfl) (Nat.le_of_ble_eq_true rfl) ?_
  refine m_aload_n rfl rfl rfl ?_
  refine m_iload_n rfl rfl rfl ?_
  refine m_cv1 rfl rfl lk_7_131 (c_demandOf hl hA (i := _) rfl (by omega)) rfl (by first | decide | assumption | (simp only [cnt]; omega)) (Nat.le_of_ble_eq_true rfl) rfl rfl (Nat.le_of_ble_eq_true rfl) (Nat.le_of_ble_eq_true rfl) (Nat.le_of_ble_eq_true rfl) (Nat.le_of_ble_eq_true rfl) (Nat.le_of_ble_eq_true rfl) ?_
  refine m_iadd rfl rfl ?_
  refine m_istore_n rfl rfl (Nat.le_of_ble_eq_true rfl) rfl ?_
  refine m_iconst rfl rfl ?_
  refine m_istore rfl rfl (Nat.le_of_ble_eq_true rfl) rfl ?_
  refine zk_loop (P := fun (j : Nat) (s : Int) => zkW l G i_Mo_workUpTo _ 0 0 15 [some (vr 7 0), some (vi i), some (vi r), some (vi s), some (vi j)] [] mem) (I := fun j s => 0 ≤ s ∧ s ≤ 62 + 57294 * (j : Int)) (moWf mem i r) (moN mem) (moBl mem i + moDe mem i) (by omega) (fun j s hj hI => moWf_b hA i hr hj hI) (fun j s hj hI hk => ?_) (fun hI => ?_)
  · have hp := moA_p hA (i := j) (by omega)
    have he := moA_e hA (i := j) (by omega)
    have he1 := moA_e1 hA hj
    unfold moWf at hk
    refine m_iload rfl rfl rfl ?_
    refine m_aload_n rfl rfl rfl ?_
    refine m_gix (k := 2) (x := mem 7 _ 2) rfl rfl (Nat.le_of_ble_eq_true rfl) rfl rfl (by first | decide | assumption | (simp only [cnt]; omega)) rfl ?_
    refine m_icmp_ge (tgt := 68) rfl rfl rfl (by omega) (by omega) (fun c21 => ?_) (fun c21 => ?_)
    · exfalso; omega
    · refine m_iload_n rfl rfl rfl ?_
      refine m_aload_n rfl rfl rfl ?_
      refine m_iload rfl rfl rfl ?_
      refine m_cv1 rfl rfl lk_7_110 (c_priorityOf hl (i := _) rfl (by omega)) rfl (by first | decide | assumption | (simp only [cnt]; omega)) (Nat.le_of_ble_eq_true rfl) rfl rfl (Nat.le_of_ble_eq_true rfl) (Nat.le_of_ble_eq_true rfl) (Nat.le_of_ble_eq_true rfl) (Nat.le_of_ble_eq_true rfl) (Nat.le_of_ble_eq_true rfl) ?_
      refine m_aload_n rfl rfl rfl ?_
      refine m_iload_n rfl rfl rfl ?_
      refine m_cv1 rfl rfl lk_7_110 (c_priorityOf hl (i := _) rfl (by omega)) rfl (by first | decide | assumption | (simp only [cnt]; omega)) (Nat.le_of_ble_eq_true rfl) rfl rfl (Nat.le_of_ble_eq_true rfl) (Nat.le_of_ble_eq_true rfl) (Nat.le_of_ble_eq_true rfl) (Nat.le_of_ble_eq_true rfl) (Nat.le_of_ble_eq_true rfl) ?_
      refine m_icmp_le (tgt := 59) rfl rfl rfl (by omega) (by omega) (fun c36 => ?_) (fun c36 => ?_)
      · refine m_iconst rfl rfl ?_
        refine m_iadd rfl rfl ?_
        refine m_istore_n rfl rfl (Nat.le_of_ble_eq_true rfl) rfl ?_
        refine m_iinc rfl rfl rfl (Nat.le_of_ble_eq_true rfl) rfl ?_
        refine m_goto (tgt := 15) rfl rfl rfl ?_
        first | (rw [if_pos (by omega)] at hk; exact hk) | (rw [if_neg (by omega)] at hk; exact hk)
      · refine m_aload_n rfl rfl rfl ?_
        refine m_iload rfl rfl rfl ?_
        refine m_cv1 rfl rfl lk_7_131 (c_demandOf hl hA (i := _) rfl (by omega)) rfl (by first | decide | assumption | (simp only [cnt]; omega)) (Nat.le_of_ble_eq_true rfl) rfl rfl (Nat.le_of_ble_eq_true rfl) (Nat.le_of_ble_eq_true rfl) (Nat.le_of_ble_eq_true rfl) (Nat.le_of_ble_eq_true rfl) (Nat.le_of_ble_eq_true rfl) ?_
        refine m_iload_n rfl rfl rfl ?_
        refine m_aload_n rfl rfl rfl ?_
        refine m_iload rfl rfl rfl ?_
        refine m_cv1 rfl rfl lk_7_148 (c_periodOf hl (i := _) rfl (by omega)) rfl (by first | decide | assumption | (simp only [cnt]; omega)) (Nat.le_of_ble_eq_true rfl) rfl rfl (Nat.le_of_ble_eq_true rfl) (Nat.le_of_ble_eq_true rfl) (Nat.le_of_ble_eq_true rfl) (Nat.le_of_ble_eq_true rfl) (Nat.le_of_ble_eq_true rfl) ?_
        refine m_cs1 rfl rfl lk_7_151 (c_quotientUp hl (by omega) (by omega)) rfl rfl (Nat.le_of_ble_eq_true rfl) (Nat.le_of_ble_eq_true rfl) (Nat.le_of_ble_eq_true rfl) (Nat.le_of_ble_eq_true rfl) (Nat.le_of_ble_eq_true rfl) ?_
        refine m_imul rfl rfl ?_
        refine m_goto (tgt := 60) rfl rfl rfl ?_
        refine m_iadd rfl rfl ?_
        refine m_istore_n rfl rfl (Nat.le_of_ble_eq_true rfl) rfl ?_
        refine m_iinc rfl rfl rfl (Nat.le_of_ble_eq_true rfl) rfl ?_
        refine m_goto (tgt := 15) rfl rfl rfl ?_
        first | (rw [if_pos (by omega)] at hk; exact hk) | (rw [if_neg (by omega)] at hk; exact hk)
  · refine m_iload rfl rfl rfl ?_
    refine m_aload_n rfl rfl rfl ?_
    refine m_gix (k := 2) (x := mem 7 _ 2) rfl rfl (Nat.le_of_ble_eq_true rfl) rfl rfl (by first | decide | assumption | (simp only [cnt]; omega)) rfl ?_
    refine m_icmp_ge (tgt := 68) rfl rfl rfl (by omega) (by omega) (fun c21 => ?_) (fun c21 => ?_)
    · refine m_iload_n rfl rfl rfl ?_
      refine m_aload_n rfl rfl rfl ?_
      refine m_gix (k := 6) (x := mem 7 _ 6) rfl rfl (Nat.le_of_ble_eq_true rfl) rfl rfl (by first | decide | assumption | (simp only [cnt]; omega)) rfl ?_
      refine m_aload_n rfl rfl rfl ?_
      refine m_iload_n rfl rfl rfl ?_
      refine m_cv1 rfl rfl lk_7_110 (c_priorityOf hl (i := _) rfl (by omega)) rfl (by first | decide | assumption | (simp only [cnt]; omega)) (Nat.le_of_ble_eq_true rfl) rfl rfl (Nat.le_of_ble_eq_true rfl) (Nat.le_of_ble_eq_true rfl) (Nat.le_of_ble_eq_true rfl) (Nat.le_of_ble_eq_true rfl) (Nat.le_of_ble_eq_true rfl) ?_
      refine m_icmp_le (tgt := 97) rfl rfl rfl (by omega) (by omega) (fun c78 => ?_) (fun c78 => ?_)
      · refine m_iconst rfl rfl ?_
        refine m_iadd rfl rfl ?_
        refine m_iret rfl rfl rfl (Nat.le_of_ble_eq_true rfl) (Nat.le_of_ble_eq_true rfl) ?_
        unfold moWk
        first | (rw [if_pos (by omega)]; exact ⟨rfl, rfl⟩) | (rw [if_neg (by omega)]; exact ⟨rfl, rfl⟩)
      · refine m_aload_n rfl rfl rfl ?_
        refine m_gix (k := 7) (x := mem 7 _ 7) rfl rfl (Nat.le_of_ble_eq_true rfl) rfl rfl (by first | decide | assumption | (simp only [cnt]; omega)) rfl ?_
        refine m_iload_n rfl rfl rfl ?_
        refine m_aload_n rfl rfl rfl ?_
        refine m_gix (k := 8) (x := mem 7 _ 8) rfl rfl (Nat.le_of_ble_eq_true rfl) rfl rfl (by first | decide | assumption | (simp only [cnt]; omega)) rfl ?_
        refine m_cs1 rfl rfl lk_7_151 (c_quotientUp hl (by omega) (by omega)) rfl rfl (Nat.le_of_ble_eq_true rfl) (Nat.le_of_ble_eq_true rfl) (Nat.le_of_ble_eq_true rfl) (Nat.le_of_ble_eq_true rfl) (Nat.le_of_ble_eq_true rfl) ?_
        refine m_imul rfl rfl ?_
        refine m_goto (tgt := 98) rfl rfl rfl ?_
        refine m_iadd rfl rfl ?_
        refine m_iret rfl rfl rfl (Nat.le_of_ble_eq_true rfl) (Nat.le_of_ble_eq_true rfl) ?_
        unfold moWk
        first | (rw [if_pos (by omega)]; exact ⟨rfl, rfl⟩) | (rw [if_neg (by omega)]; exact ⟨rfl, rfl⟩)
    · exfalso; omega

def moBdf (m : zkM) (i : Nat) : Nat → Int → Int
  | 0, _ => -1
  | k + 1, r => if moWk m i r = r then r else moBdf m i k (r + 1)
def moBd (m : zkM) (i : Nat) : Int := moBdf m i 1000 1
theorem moBdf_b {m : zkM} {i : Nat} : ∀ (k : Nat) (r : Int), 1 ≤ r → r + k = 1001 → -1 ≤ moBdf m i k r ∧ moBdf m i k r ≤ 1000 ∧ moBdf m i k r ≠ 0
  | 0, _, _, _ => by unfold moBdf; omega
  | k + 1, r, h1, h2 => by
    unfold moBdf
    split
    · omega
    · exact moBdf_b k (r + 1) (by omega) (by omega)
theorem moBd_b (m : zkM) (i : Nat) : -1 ≤ moBd m i ∧ moBd m i ≤ 1000 ∧ moBd m i ≠ 0 := moBdf_b 1000 1 (by omega) (by omega)
set_option maxRecDepth 10000 in
theorem w_boundOf {l : Launch} {G : zkG} {mem : zkM} (hl : l.stackTraces = false) {i : Nat} (hA : moA mem) (hi : i < 5) : ∀ (k : Nat) (r : Int), 1 ≤ r → r + k = 1001 → zkW l G i_Mo_boundOf (zkKm G 4 0 0 (zkR1 (vi (moBdf mem i k r)) mem)) 0 0 2 [some (vr 7 0), some (vi i), some (vi r)] [] mem := by
  intro k
  induction k with
  | zero =>
    intro r h1 h2
    refine m_iload_n rfl rfl rfl ?_
    refine m_sipush rfl rfl (by decide) ?_
    refine m_icmp_gt (tgt := 25) rfl rfl rfl (by omega) (by omega) (fun c6 => ?_) (fun c6 => ?_)
    · refine m_iload_n rfl rfl rfl ?_
      refine m_sipush rfl rfl (by decide) ?_
      refine m_icmp_le (tgt := 36) rfl rfl rfl (by omega) (by omega) (fun c29 => ?_) (fun c29 => ?_)
      · exfalso; omega
      · refine m_iconst rfl rfl ?_
        refine m_goto (tgt := 37) rfl rfl rfl ?_
        refine m_iret rfl rfl rfl (Nat.le_of_ble_eq_true rfl) (Nat.le_of_ble_eq_true rfl) ?_
        exact ⟨rfl, rfl⟩
    · exfalso; omega
  | succ k ih =>
    intro r h1 h2
    have hw := moWk_b hA i hi (r := r) (by omega)
    refine m_iload_n rfl rfl rfl ?_
    refine m_sipush rfl rfl (by decide) ?_
    refine m_icmp_gt (tgt := 25) rfl rfl rfl (by omega) (by omega) (fun c6 => ?_) (fun c6 => ?_)
    · exfalso; omega
    · refine m_aload_n rfl rfl rfl ?_
      refine m_iload_n rfl rfl rfl ?_
      refine m_iload_n rfl rfl rfl ?_
      refine m_cv1 rfl rfl lk_7_154 (c_workUpTo hl hA (i := _) rfl (by omega) (by omega)) rfl (by first | decide | assumption | (simp only [cnt]; omega)) (Nat.le_of_ble_eq_true rfl) rfl rfl (Nat.le_of_ble_eq_true rfl) (Nat.le_of_ble_eq_true rfl) (Nat.le_of_ble_eq_true rfl) (Nat.le_of_ble_eq_true rfl) (Nat.le_of_ble_eq_true rfl) ?_
      refine m_iload_n rfl rfl rfl ?_
      refine m_icmp_eq (tgt := 25) rfl rfl rfl (by omega) (by omega) (fun c16 => ?_) (fun c16 => ?_)
      · refine m_iload_n rfl rfl rfl ?_
        refine m_sipush rfl rfl (by decide) ?_
        refine m_icmp_le (tgt := 36) rfl rfl rfl (by omega) (by omega) (fun c29 => ?_) (fun c29 => ?_)
        · refine m_iload_n rfl rfl rfl ?_
          refine m_iret rfl rfl rfl (Nat.le_of_ble_eq_true rfl) (Nat.le_of_ble_eq_true rfl) ?_
          unfold moBdf
          rw [if_pos c16]
          exact ⟨rfl, rfl⟩
        · exfalso; omega
      · refine m_iinc rfl rfl rfl (Nat.le_of_ble_eq_true rfl) rfl ?_
        refine m_goto (tgt := 2) rfl rfl rfl ?_
        have h3 := ih (r + 1) (by omega) (by omega)
        unfold moBdf
        rw [if_neg c16]
        exact h3

set_option maxRecDepth 10000 in
theorem c_boundOf {l : Launch} {G : zkG} {mem : zkM} (hl : l.stackTraces = false) {x : Int} {i : Nat} (hA : moA mem) (hx : x = i) (hi : i < 5) : zkCt l G i_Mo_boundOf 4 0 0 [vr 7 0, vi x] mem (zkR1 (vi (moBd mem i)) mem) := by
  refine zkCt_of hl ok_Mo_boundOf (by decide +kernel) rfl rfl (List.forall_mem_cons.mpr ⟨rfl, (List.forall_mem_cons.mpr ⟨rfl, fun _ h => nomatch h⟩)⟩) (Nat.le_of_ble_eq_true rfl) ?_
  subst hx
  refine m_iconst rfl rfl ?_
  refine m_istore_n rfl rfl (Nat.le_of_ble_eq_true rfl) rfl ?_
  exact w_boundOf hl hA hi 1000 1 (by omega) (by omega)

def moCf (m : zkM) (i : Nat) (t : Int) (o : Nat) (s : Int) : Int := s + (if moPr m i < moPr m o ∧ t % moPe m o = 0 then moDe m o else 0)
def moCm (m : zkM) (i : Nat) (t : Int) : Int := lp (moCf m i t) (moN m) 0 + (if moPr m i < m 7 0 6 ∧ t % m 7 0 8 = 0 then m 7 0 7 else 0)
theorem moCf_b {m : zkM} (h : moA m) (i : Nat) (t : Int) {j : Nat} (hj : j < moN m) {s : Int} (hs : 0 ≤ s ∧ s ≤ 54 * (j : Int)) : 0 ≤ moCf m i t j s ∧ moCf m i t j s ≤ 54 * ((j + 1 : Nat) : Int) := by
  have hn := moA_n h
  have h1 := moDe_b h (i := j) (by omega)
  unfold moCf
  split <;> omega
theorem moCm_b {m : zkM} (h : moA m) (i : Nat) (t : Int) : 0 ≤ moCm m i t ∧ moCm m i t ≤ 279 := by
  have hn := moA_n h
  have h7 := h.2.2.2.2.2.2.1
  have := lp_inv (fun j s => 0 ≤ s ∧ s ≤ 54 * (j : Int)) (moCf m i t) (moN m) (0 : Int) (by omega) (fun j s hj hs => moCf_b h i t hj hs)
  unfold moCm
  split <;> omega
set_option maxRecDepth 10000 in
theorem c_comes {l : Launch} {G : zkG} {mem : zkM} (hl : l.stackTraces = false) {x t : Int} {i : Nat} (hA : moA mem) (hx : x = i) (hi : i < 5) (ht : 0 ≤ t ∧ t ≤ 1000) : zkCt l G i_Mo_comes 2 0 0 [vr 7 0, vi x, vi t] mem (zkR1 (vi (moCm mem i t)) mem) := by
  refine zkCt_of hl ok_Mo_comes (by decide +kernel) rfl rfl (List.forall_mem_cons.mpr ⟨rfl, (List.forall_mem_cons.mpr ⟨rfl, (List.forall_mem_cons.mpr ⟨rfl, fun _ h => nomatch h⟩)⟩)⟩) (Nat.le_of_ble_eq_true rfl) ?_
  subst hx
  have hn := moA_n hA
  have hpi := moA_p hA hi
  obtain ⟨-, -, -, -, -, g6, g7, g8, g9⟩ := id hA
  refine m_iconst rfl rfl ?_
  refine m_istore_n rfl rfl (Nat.le_of_ble_eq_true rfl) rfl ?_
  refine m_iconst rfl rfl ?_
  refine m_istore rfl rfl (Nat.le_of_ble_eq_true rfl) rfl ?_
  refine zk_loop (P := fun (j : Nat) (s : Int) => zkW l G i_Mo_comes _ 0 0 5 [some (vr 7 0), some (vi i), some (vi t), some (vi s), some (vi j)] [] mem) (I := fun j s => 0 ≤ s ∧ s ≤ 54 * (j : Int)) (moCf mem i t) (moN mem) 0 (by omega) (fun j s hj hI => moCf_b hA i t hj hI) (fun j s hj hI hk => ?_) (fun hI => ?_)
  · have hp := moA_p hA (i := j) (by omega)
    have he := moA_e hA (i := j) (by omega)
    have he1 := moA_e1 hA hj
    have hm := Int.emod_nonneg t (b := moPe mem j) (by omega)
    have hm2 := Int.emod_lt_of_pos t (b := moPe mem j) (by omega)
    unfold moCf at hk
    refine m_iload rfl rfl rfl ?_
    refine m_aload_n rfl rfl rfl ?_
    refine m_gix (k := 2) (x := mem 7 _ 2) rfl rfl (Nat.le_of_ble_eq_true rfl) rfl rfl (by first | decide | assumption | (simp only [cnt]; omega)) rfl ?_
    refine m_icmp_ge (tgt := 58) rfl rfl rfl (by omega) (by omega) (fun c11 => ?_) (fun c11 => ?_)
    · exfalso; omega
    · refine m_iload_n rfl rfl rfl ?_
      refine m_aload_n rfl rfl rfl ?_
      refine m_iload rfl rfl rfl ?_
      refine m_cv1 rfl rfl lk_7_110 (c_priorityOf hl (i := _) rfl (by omega)) rfl (by first | decide | assumption | (simp only [cnt]; omega)) (Nat.le_of_ble_eq_true rfl) rfl rfl (Nat.le_of_ble_eq_true rfl) (Nat.le_of_ble_eq_true rfl) (Nat.le_of_ble_eq_true rfl) (Nat.le_of_ble_eq_true rfl) (Nat.le_of_ble_eq_true rfl) ?_
      refine m_aload_n rfl rfl rfl ?_
      refine m_iload_n rfl rfl rfl ?_
      refine m_cv1 rfl rfl lk_7_110 (c_priorityOf hl (i := _) rfl (by omega)) rfl (by first | decide | assumption | (simp only [cnt]; omega)) (Nat.le_of_ble_eq_true rfl) rfl rfl (Nat.le_of_ble_eq_true rfl) (Nat.le_of_ble_eq_true rfl) (Nat.le_of_ble_eq_true rfl) (Nat.le_of_ble_eq_true rfl) (Nat.le_of_ble_eq_true rfl) ?_
      refine m_icmp_le (tgt := 49) rfl rfl rfl (by omega) (by omega) (fun c26 => ?_) (fun c26 => ?_)
      · refine m_iconst rfl rfl ?_
        refine m_iadd rfl rfl ?_
        refine m_istore_n rfl rfl (Nat.le_of_ble_eq_true rfl) rfl ?_
        refine m_iinc rfl rfl rfl (Nat.le_of_ble_eq_true rfl) rfl ?_
        refine m_goto (tgt := 5) rfl rfl rfl ?_
        first | (rw [if_pos (by omega)] at hk; exact hk) | (rw [if_neg (by omega)] at hk; exact hk)
      · refine m_iload_n rfl rfl rfl ?_
        refine m_aload_n rfl rfl rfl ?_
        refine m_iload rfl rfl rfl ?_
        refine m_cv1 rfl rfl lk_7_148 (c_periodOf hl (i := _) rfl (by omega)) rfl (by first | decide | assumption | (simp only [cnt]; omega)) (Nat.le_of_ble_eq_true rfl) rfl rfl (Nat.le_of_ble_eq_true rfl) (Nat.le_of_ble_eq_true rfl) (Nat.le_of_ble_eq_true rfl) (Nat.le_of_ble_eq_true rfl) (Nat.le_of_ble_eq_true rfl) ?_
        refine m_irem rfl rfl (by omega) (by omega) (by omega) (by omega) ?_
        refine m_if_ne (tgt := 49) rfl rfl rfl (by omega) (fun c37 => ?_) (fun c37 => ?_)
        · refine m_iconst rfl rfl ?_
          refine m_iadd rfl rfl ?_
          refine m_istore_n rfl rfl (Nat.le_of_ble_eq_true rfl) rfl ?_
          refine m_iinc rfl rfl rfl (Nat.le_of_ble_eq_true rfl) rfl ?_
          refine m_goto (tgt := 5) rfl rfl rfl ?_
          first | (rw [if_pos (by omega)] at hk; exact hk) | (rw [if_neg (by omega)] at hk; exact hk)
        · refine m_aload_n rfl rfl rfl ?_
          refine m_iload rfl rfl rfl ?_
          refine m_cv1 rfl rfl lk_7_131 (c_demandOf hl hA (i := _) rfl (by omega)) rfl (by first | decide | assumption | (simp only [cnt]; omega)) (Nat.le_of_ble_eq_true rfl) rfl rfl (Nat.le_of_ble_eq_true rfl) (Nat.le_of_ble_eq_true rfl) (Nat.le_of_ble_eq_true rfl) (Nat.le_of_ble_eq_true rfl) (Nat.le_of_ble_eq_true rfl) ?_
          refine m_goto (tgt := 50) rfl rfl rfl ?_
          refine m_iadd rfl rfl ?_
          refine m_istore_n rfl rfl (Nat.le_of_ble_eq_true rfl) rfl ?_
          refine m_iinc rfl rfl rfl (Nat.le_of_ble_eq_true rfl) rfl ?_
          refine m_goto (tgt := 5) rfl rfl rfl ?_
          first | (rw [if_pos (by omega)] at hk; exact hk) | (rw [if_neg (by omega)] at hk; exact hk)
  · refine m_iload rfl rfl rfl ?_
    refine m_aload_n rfl rfl rfl ?_
    refine m_gix (k := 2) (x := mem 7 _ 2) rfl rfl (Nat.le_of_ble_eq_true rfl) rfl rfl (by first | decide | assumption | (simp only [cnt]; omega)) rfl ?_
    refine m_icmp_ge (tgt := 58) rfl rfl rfl (by omega) (by omega) (fun c11 => ?_) (fun c11 => ?_)
    · refine m_iload_n rfl rfl rfl ?_
      refine m_aload_n rfl rfl rfl ?_
      refine m_gix (k := 6) (x := mem 7 _ 6) rfl rfl (Nat.le_of_ble_eq_true rfl) rfl rfl (by first | decide | assumption | (simp only [cnt]; omega)) rfl ?_
      refine m_aload_n rfl rfl rfl ?_
      refine m_iload_n rfl rfl rfl ?_
      refine m_cv1 rfl rfl lk_7_110 (c_priorityOf hl (i := _) rfl (by omega)) rfl (by first | decide | assumption | (simp only [cnt]; omega)) (Nat.le_of_ble_eq_true rfl) rfl rfl (Nat.le_of_ble_eq_true rfl) (Nat.le_of_ble_eq_true rfl) (Nat.le_of_ble_eq_true rfl) (Nat.le_of_ble_eq_true rfl) (Nat.le_of_ble_eq_true rfl) ?_
      refine m_icmp_le (tgt := 87) rfl rfl rfl (by omega) (by omega) (fun c68 => ?_) (fun c68 => ?_)
      · refine m_iconst rfl rfl ?_
        refine m_iadd rfl rfl ?_
        refine m_iret rfl rfl rfl (Nat.le_of_ble_eq_true rfl) (Nat.le_of_ble_eq_true rfl) ?_
        unfold moCm
        first | (rw [if_pos (by omega)]; exact ⟨rfl, rfl⟩) | (rw [if_neg (by omega)]; exact ⟨rfl, rfl⟩)
      · have hm := Int.emod_nonneg t (b := mem 7 0 8) (by omega)
        have hm2 := Int.emod_lt_of_pos t (b := mem 7 0 8) (by omega)
        refine m_iload_n rfl rfl rfl ?_
        refine m_aload_n rfl rfl rfl ?_
        refine m_gix (k := 8) (x := mem 7 _ 8) rfl rfl (Nat.le_of_ble_eq_true rfl) rfl rfl (by first | decide | assumption | (simp only [cnt]; omega)) rfl ?_
        refine m_irem rfl rfl (by omega) (by omega) (by omega) (by omega) ?_
        refine m_if_ne (tgt := 87) rfl rfl rfl (by omega) (fun c77 => ?_) (fun c77 => ?_)
        · refine m_iconst rfl rfl ?_
          refine m_iadd rfl rfl ?_
          refine m_iret rfl rfl rfl (Nat.le_of_ble_eq_true rfl) (Nat.le_of_ble_eq_true rfl) ?_
          unfold moCm
          first | (rw [if_pos (by omega)]; exact ⟨rfl, rfl⟩) | (rw [if_neg (by omega)]; exact ⟨rfl, rfl⟩)
        · refine m_aload_n rfl rfl rfl ?_
          refine m_gix (k := 7) (x := mem 7 _ 7) rfl rfl (Nat.le_of_ble_eq_true rfl) rfl rfl (by first | decide | assumption | (simp only [cnt]; omega)) rfl ?_
          refine m_goto (tgt := 88) rfl rfl rfl ?_
          refine m_iadd rfl rfl ?_
          refine m_iret rfl rfl rfl (Nat.le_of_ble_eq_true rfl) (Nat.le_of_ble_eq_true rfl) ?_
          unfold moCm
          first | (rw [if_pos (by omega)]; exact ⟨rfl, rfl⟩) | (rw [if_neg (by omega)]; exact ⟨rfl, rfl⟩)
    · exfalso; omega

