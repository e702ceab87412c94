/-! the class: copies -/
def cpR (m : zkM) (t a b : Nat) : zkM := mrow m t a (fun x => if x < aln t then m t b x else m t a x)
def cpF (m : zkM) (t a b : Nat) (ks : List Nat) : zkM := ks.foldl (fun s k => mset s t a k (m t b k)) m
theorem mrow_f {t i t' i' : Nat} (h : t' ≠ t ∨ i' ≠ i) (m : zkM) (f : Nat → Int) (k' : Nat) : mrow m t i f t' i' k' = m t' i' k' := by
  rcases h with h | h
  · exact mrow_t h _ _ _ _ _
  · exact mrow_i h _ _ _ _ _
theorem cpR_f {t a b t' i' : Nat} (h : t' ≠ t ∨ i' ≠ a) (m : zkM) (k' : Nat) : cpR m t a b t' i' k' = m t' i' k' := mrow_f h _ _ _
theorem cpF_g {t a t' i' : Nat} (h : t' ≠ t ∨ i' ≠ a) (m : zkM) (b k' : Nat) : ∀ (ks : List Nat) (s : zkM), ks.foldl (fun s k => mset s t a k (m t b k)) s t' i' k' = s t' i' k'
  | [], _ => rfl
  | k :: ks, s => by rw [List.foldl_cons, cpF_g h m b k' ks, ms_f h]
theorem cpF_f {t a t' i' : Nat} (h : t' ≠ t ∨ i' ≠ a) (m : zkM) (b k' : Nat) (ks : List Nat) : cpF m t a b ks t' i' k' = m t' i' k' := cpF_g h m b k' ks m
def joCp (m : zkM) (a b : Nat) : zkM := cpF (cpR m 21 a b) 1 a b [1, 2]
def taCp0 (m : zkM) (a b : Nat) : zkM := joCp (cpR (cpR (cpR m 19 a b) 20 a b) 22 a b) a b
def taCp (m : zkM) (a b : Nat) : zkM := cpF (taCp0 m a b) 5 a b [4, 5, 6, 7, 8, 9, 10, 11, 12, 13, 14]
def rqCp (m : zkM) (a b : Nat) : zkM := cpF (cpR (cpR (cpR (cpR m 13 a b) 14 a b) 15 a b) 16 a b) 3 a b [4]
def seCp (m : zkM) (a b : Nat) : zkM := cpF (cpR (cpR m 11 a b) 12 a b) 4 a b [2, 3, 4, 5, 6, 7, 8, 9, 10]
theorem joCp_f {a t' i' : Nat} (h : frT a t' i') (m : zkM) (b k' : Nat) : joCp m a b t' i' k' = m t' i' k' := by
  unfold joCp
  rw [cpF_f (by omega), cpR_f (by omega)]
theorem taCp0_f {a t' i' : Nat} (h : frT a t' i') (m : zkM) (b k' : Nat) : taCp0 m a b t' i' k' = m t' i' k' := by
  unfold taCp0
  rw [joCp_f h, cpR_f (by omega), cpR_f (by omega), cpR_f (by omega)]
theorem taCp_f {a t' i' : Nat} (h : frT a t' i') (m : zkM) (b k' : Nat) : taCp m a b t' i' k' = m t' i' k' := by
  unfold taCp
  rw [cpF_f (by omega), taCp0_f h]
theorem rqCp_f {a t' i' : Nat} (h : (t' ≠ 3 ∧ t' ≠ 13 ∧ t' ≠ 14 ∧ t' ≠ 15 ∧ t' ≠ 16) ∨ i' ≠ a) (m : zkM) (b k' : Nat) : rqCp m a b t' i' k' = m t' i' k' := by
  unfold rqCp
  rw [cpF_f (by omega), cpR_f (by omega), cpR_f (by omega), cpR_f (by omega), cpR_f (by omega)]
theorem seCp_f {a t' i' : Nat} (h : (t' ≠ 4 ∧ t' ≠ 11 ∧ t' ≠ 12) ∨ i' ≠ a) (m : zkM) (b k' : Nat) : seCp m a b t' i' k' = m t' i' k' := by
  unfold seCp
  rw [cpF_f (by omega), cpR_f (by omega), cpR_f (by omega)]
set_option maxRecDepth 10000 in
theorem c_joCp {l : Launch} {G : zkG} {mem : zkM} (hl : l.stackTraces = false) {a b : Nat} (ha : a < 10) (hb : b < 10) : zkCt l G i_Jo_copyFrom 1 0 0 [vr 1 a, vr 1 b] mem (zkR0 (joCp mem a b)) := by
  refine zkCt_of hl ok_Jo_copyFrom (by decide +kernel) rfl rfl (List.forall_mem_cons.mpr ⟨rfl, (List.forall_mem_cons.mpr ⟨rfl, fun _ h => nomatch h⟩)⟩) (Nat.le_of_ble_eq_true rfl) ?_
  refine m_aload_n rfl rfl rfl ?_
  refine m_gr (k := 0) rfl rfl (Nat.le_of_ble_eq_true rfl) rfl rfl (by first | decide | assumption | (simp only [cnt]; omega)) ?_
  refine m_iconst rfl rfl ?_
  refine m_aload_n rfl rfl rfl ?_
  refine m_gr (k := 0) rfl rfl (Nat.le_of_ble_eq_true rfl) rfl rfl (by first | decide | assumption | (simp only [cnt]; omega)) ?_
  refine m_iconst rfl rfl ?_
  refine m_aload_n rfl rfl rfl ?_
  refine m_gr (k := 0) rfl rfl (Nat.le_of_ble_eq_true rfl) rfl rfl (by first | decide | assumption | (simp only [cnt]; omega)) ?_
  refine m_alen rfl rfl (Nat.le_of_ble_eq_true rfl) (Or.inl rfl) (by first | decide | assumption | (simp only [cnt]; omega)) ?_
  refine m_acopy rfl rfl (by decide +kernel) (Nat.le_of_ble_eq_true rfl) rfl (by first | decide | assumption | (simp only [cnt]; omega)) (by first | decide | assumption | (simp only [cnt]; omega)) (Nat.le_of_ble_eq_true rfl) (Nat.le_of_ble_eq_true rfl) ?_
  refine m_aload_n rfl rfl rfl ?_
  refine m_aload_n rfl rfl rfl ?_
  refine m_gix (k := 1) (x := (cpR mem 21 a b) 1 b 1) rfl rfl (Nat.le_of_ble_eq_true rfl) rfl rfl (by first | decide | assumption | (simp only [cnt]; omega)) (by first | rfl | ((repeat (first | rw [ms_s] | rw [ms_t (by decide)] | rw [ms_k (by decide)])) <;> rfl)) ?_
  refine m_pi (k := 1) rfl rfl (Nat.le_of_ble_eq_true rfl) rfl rfl rfl rfl (by first | decide | assumption | (simp only [cnt]; omega)) ?_
  refine m_aload_n rfl rfl rfl ?_
  refine m_aload_n rfl rfl rfl ?_
  refine m_gix (k := 2) (x := (cpR mem 21 a b) 1 b 2) rfl rfl (Nat.le_of_ble_eq_true rfl) rfl rfl (by first | decide | assumption | (simp only [cnt]; omega)) (by first | rfl | ((repeat (first | rw [ms_s] | rw [ms_t (by decide)] | rw [ms_k (by decide)])) <;> rfl)) ?_
  refine m_pi (k := 2) rfl rfl (Nat.le_of_ble_eq_true rfl) rfl rfl rfl rfl (by first | decide | assumption | (simp only [cnt]; omega)) ?_
  refine m_vret rfl rfl rfl (Nat.le_of_ble_eq_true rfl) (Nat.le_of_ble_eq_true rfl) ?_
  exact ⟨rfl, rfl⟩

set_option maxRecDepth 10000 in
theorem c_taCp {l : Launch} {G : zkG} {mem : zkM} (hl : l.stackTraces = false) {a b : Nat} (ha : a < 10) (hb : b < 10) (h11 : mem 5 b 11 = 0 ∨ mem 5 b 11 = 1) : zkCt l G i_Ta_copyFrom 2 0 0 [vr 5 a, vr 5 b] mem (zkR0 (taCp mem a b)) := by
  refine zkCt_of hl ok_Ta_copyFrom (by decide +kernel) rfl rfl (List.forall_mem_cons.mpr ⟨rfl, (List.forall_mem_cons.mpr ⟨rfl, fun _ h => nomatch h⟩)⟩) (Nat.le_of_ble_eq_true rfl) ?_
  refine m_aload_n rfl rfl rfl ?_
  refine m_gr (k := 0) rfl rfl (Nat.le_of_ble_eq_true rfl) rfl rfl (by first | decide | assumption | (simp only [cnt]; omega)) ?_
  refine m_iconst rfl rfl ?_
  refine m_aload_n rfl rfl rfl ?_
  refine m_gr (k := 0) rfl rfl (Nat.le_of_ble_eq_true rfl) rfl rfl (by first | decide | assumption | (simp only [cnt]; omega)) ?_
  refine m_iconst rfl rfl ?_
  refine m_aload_n rfl rfl rfl ?_
  refine m_gr (k := 0) rfl rfl (Nat.le_of_ble_eq_true rfl) rfl rfl (by first | decide | assumption | (simp only [cnt]; omega)) ?_
  refine m_alen rfl rfl (Nat.le_of_ble_eq_true rfl) (Or.inl rfl) (by first | decide | assumption | (simp only [cnt]; omega)) ?_
  refine m_acopy rfl rfl (by decide +kernel) (Nat.le_of_ble_eq_true rfl) rfl (by first | decide | assumption | (simp only [cnt]; omega)) (by first | decide | assumption | (simp only [cnt]; omega)) (Nat.le_of_ble_eq_true rfl) (Nat.le_of_ble_eq_true rfl) ?_
  refine m_aload_n rfl rfl rfl ?_
  refine m_gr (k := 1) rfl rfl (Nat.le_of_ble_eq_true rfl) rfl rfl (by first | decide | assumption | (simp only [cnt]; omega)) ?_
  refine m_iconst rfl rfl ?_
  refine m_aload_n rfl rfl rfl ?_
  refine m_gr (k := 1) rfl rfl (Nat.le_of_ble_eq_true rfl) rfl rfl (by first | decide | assumption | (simp only [cnt]; omega)) ?_
  refine m_iconst rfl rfl ?_
  refine m_aload_n rfl rfl rfl ?_
  refine m_gr (k := 1) rfl rfl (Nat.le_of_ble_eq_true rfl) rfl rfl (by first | decide | assumption | (simp only [cnt]; omega)) ?_
  refine m_alen rfl rfl (Nat.le_of_ble_eq_true rfl) (Or.inl rfl) (by first | decide | assumption | (simp only [cnt]; omega)) ?_
  refine m_acopy rfl rfl (by decide +kernel) (Nat.le_of_ble_eq_true rfl) rfl (by first | decide | assumption | (simp only [cnt]; omega)) (by first | decide | assumption | (simp only [cnt]; omega)) (Nat.le_of_ble_eq_true rfl) (Nat.le_of_ble_eq_true rfl) ?_
  refine m_aload_n rfl rfl rfl ?_
  refine m_gr (k := 3) rfl rfl (Nat.le_of_ble_eq_true rfl) rfl rfl (by first | decide | assumption | (simp only [cnt]; omega)) ?_
  refine m_iconst rfl rfl ?_
  refine m_aload_n rfl rfl rfl ?_
  refine m_gr (k := 3) rfl rfl (Nat.le_of_ble_eq_true rfl) rfl rfl (by first | decide | assumption | (simp only [cnt]; omega)) ?_
  refine m_iconst rfl rfl ?_
  refine m_aload_n rfl rfl rfl ?_
  refine m_gr (k := 3) rfl rfl (Nat.le_of_ble_eq_true rfl) rfl rfl (by first | decide | assumption | (simp only [cnt]; omega)) ?_
  refine m_alen rfl rfl (Nat.le_of_ble_eq_true rfl) (Or.inl rfl) (by first | decide | assumption | (simp only [cnt]; omega)) ?_
  refine m_acopy rfl rfl (by decide +kernel) (Nat.le_of_ble_eq_true rfl) rfl (by first | decide | assumption | (simp only [cnt]; omega)) (by first | decide | assumption | (simp only [cnt]; omega)) (Nat.le_of_ble_eq_true rfl) (Nat.le_of_ble_eq_true rfl) ?_
  refine m_aload_n rfl rfl rfl ?_
  refine m_gr (k := 2) rfl rfl (Nat.le_of_ble_eq_true rfl) rfl rfl (by first | decide | assumption | (simp only [cnt]; omega)) ?_
  refine m_aload_n rfl rfl rfl ?_
  refine m_gr (k := 2) rfl rfl (Nat.le_of_ble_eq_true rfl) rfl rfl (by first | decide | assumption | (simp only [cnt]; omega)) ?_
  refine m_cv0 rfl rfl lk_5_105 (c_joCp hl (by omega) (by omega)) rfl (by first | decide | assumption | (simp only [cnt]; omega)) (Nat.le_of_ble_eq_true rfl) rfl rfl (Nat.le_of_ble_eq_true rfl) (Nat.le_of_ble_eq_true rfl) (Nat.le_of_ble_eq_true rfl) (Nat.le_of_ble_eq_true rfl) (Nat.le_of_ble_eq_true rfl) ?_
  change zkW l G i_Ta_copyFrom _ 0 0 65 _ _ (taCp0 mem a b)
  have e11 : taCp0 mem a b 5 b 11 = mem 5 b 11 := rfl
  refine m_aload_n rfl rfl rfl ?_
  refine m_aload_n rfl rfl rfl ?_
  refine m_gix (k := 4) (x := (taCp0 mem a b) 5 b 4) rfl rfl (Nat.le_of_ble_eq_true rfl) rfl rfl (by first | decide | assumption | (simp only [cnt]; omega)) (by first | rfl | ((repeat (first | rw [ms_s] | rw [ms_t (by decide)] | rw [ms_k (by decide)])) <;> rfl)) ?_
  refine m_pi (k := 4) rfl rfl (Nat.le_of_ble_eq_true rfl) rfl rfl rfl rfl (by first | decide | assumption | (simp only [cnt]; omega)) ?_
  refine m_aload_n rfl rfl rfl ?_
  refine m_aload_n rfl rfl rfl ?_
  refine m_gix (k := 5) (x := (taCp0 mem a b) 5 b 5) rfl rfl (Nat.le_of_ble_eq_true rfl) rfl rfl (by first | decide | assumption | (simp only [cnt]; omega)) (by first | rfl | ((repeat (first | rw [ms_s] | rw [ms_t (by decide)] | rw [ms_k (by decide)])) <;> rfl)) ?_
  refine m_pi (k := 5) rfl rfl (Nat.le_of_ble_eq_true rfl) rfl rfl rfl rfl (by first | decide | assumption | (simp only [cnt]; omega)) ?_
  refine m_aload_n rfl rfl rfl ?_
  refine m_aload_n rfl rfl rfl ?_
  refine m_gix (k := 6) (x := (taCp0 mem a b) 5 b 6) rfl rfl (Nat.le_of_ble_eq_true rfl) rfl rfl (by first | decide | assumption | (simp only [cnt]; omega)) (by first | rfl | ((repeat (first | rw [ms_s] | rw [ms_t (by decide)] | rw [ms_k (by decide)])) <;> rfl)) ?_
  refine m_pi (k := 6) rfl rfl (Nat.le_of_ble_eq_true rfl) rfl rfl rfl rfl (by first | decide | assumption | (simp only [cnt]; omega)) ?_
  refine m_aload_n rfl rfl rfl ?_
  refine m_aload_n rfl rfl rfl ?_
  refine m_gix (k := 7) (x := (taCp0 mem a b) 5 b 7) rfl rfl (Nat.le_of_ble_eq_true rfl) rfl rfl (by first | decide | assumption | (simp only [cnt]; omega)) (by first | rfl | ((repeat (first | rw [ms_s] | rw [ms_t (by decide)] | rw [ms_k (by decide)])) <;> rfl)) ?_
  refine m_pi (k := 7) rfl rfl (Nat.le_of_ble_eq_true rfl) rfl rfl rfl rfl (by first | decide | assumption | (simp only [cnt]; omega)) ?_
  refine m_aload_n rfl rfl rfl ?_
  refine m_aload_n rfl rfl rfl ?_
  refine m_gix (k := 8) (x := (taCp0 mem a b) 5 b 8) rfl rfl (Nat.le_of_ble_eq_true rfl) rfl rfl (by first | decide | assumption | (simp only [cnt]; omega)) (by first | rfl | ((repeat (first | rw [ms_s] | rw [ms_t (by decide)] | rw [ms_k (by decide)])) <;> rfl)) ?_
  refine m_pi (k := 8) rfl rfl (Nat.le_of_ble_eq_true rfl) rfl rfl rfl rfl (by first | decide | assumption | (simp only [cnt]; omega)) ?_
  refine m_aload_n rfl rfl rfl ?_
  refine m_aload_n rfl rfl rfl ?_
  refine m_gix (k := 9) (x := (taCp0 mem a b) 5 b 9) rfl rfl (Nat.le_of_ble_eq_true rfl) rfl rfl (by first | decide | assumption | (simp only [cnt]; omega)) (by first | rfl | ((repeat (first | rw [ms_s] | rw [ms_t (by decide)] | rw [ms_k (by decide)])) <;> rfl)) ?_
  refine m_pi (k := 9) rfl rfl (Nat.le_of_ble_eq_true rfl) rfl rfl rfl rfl (by first | decide | assumption | (simp only [cnt]; omega)) ?_
  refine m_aload_n rfl rfl rfl ?_
  refine m_aload_n rfl rfl rfl ?_
  refine m_gix (k := 10) (x := (taCp0 mem a b) 5 b 10) rfl rfl (Nat.le_of_ble_eq_true rfl) rfl rfl (by first | decide | assumption | (simp only [cnt]; omega)) (by first | rfl | ((repeat (first | rw [ms_s] | rw [ms_t (by decide)] | rw [ms_k (by decide)])) <;> rfl)) ?_
  refine m_pi (k := 10) rfl rfl (Nat.le_of_ble_eq_true rfl) rfl rfl rfl rfl (by first | decide | assumption | (simp only [cnt]; omega)) ?_
  refine m_aload_n rfl rfl rfl ?_
  refine m_aload_n rfl rfl rfl ?_
  refine m_gix (k := 11) (x := (taCp0 mem a b) 5 b 11) rfl rfl (Nat.le_of_ble_eq_true rfl) rfl rfl (by first | decide | assumption | (simp only [cnt]; omega)) (by first | rfl | ((repeat (first | rw [ms_s] | rw [ms_t (by decide)] | rw [ms_k (by decide)])) <;> rfl)) ?_
  refine m_pzx (k := 11) rfl rfl (Nat.le_of_ble_eq_true rfl) rfl rfl rfl rfl (by first | decide | assumption | (simp only [cnt]; omega)) (by omega) ?_
  refine m_aload_n rfl rfl rfl ?_
  refine m_aload_n rfl rfl rfl ?_
  refine m_gix (k := 12) (x := (taCp0 mem a b) 5 b 12) rfl rfl (Nat.le_of_ble_eq_true rfl) rfl rfl (by first | decide | assumption | (simp only [cnt]; omega)) (by first | rfl | ((repeat (first | rw [ms_s] | rw [ms_t (by decide)] | rw [ms_k (by decide)])) <;> rfl)) ?_
  refine m_pi (k := 12) rfl rfl (Nat.le_of_ble_eq_true rfl) rfl rfl rfl rfl (by first | decide | assumption | (simp only [cnt]; omega)) ?_
  refine m_aload_n rfl rfl rfl ?_
  refine m_aload_n rfl rfl rfl ?_
  refine m_gix (k := 13) (x := (taCp0 mem a b) 5 b 13) rfl rfl (Nat.le_of_ble_eq_true rfl) rfl rfl (by first | decide | assumption | (simp only [cnt]; omega)) (by first | rfl | ((repeat (first | rw [ms_s] | rw [ms_t (by decide)] | rw [ms_k (by decide)])) <;> rfl)) ?_
  refine m_pi (k := 13) rfl rfl (Nat.le_of_ble_eq_true rfl) rfl rfl rfl rfl (by first | decide | assumption | (simp only [cnt]; omega)) ?_
  refine m_aload_n rfl rfl rfl ?_
  refine m_aload_n rfl rfl rfl ?_
  refine m_gix (k := 14) (x := (taCp0 mem a b) 5 b 14) rfl rfl (Nat.le_of_ble_eq_true rfl) rfl rfl (by first | decide | assumption | (simp only [cnt]; omega)) (by first | rfl | ((repeat (first | rw [ms_s] | rw [ms_t (by decide)] | rw [ms_k (by decide)])) <;> rfl)) ?_
  refine m_pi (k := 14) rfl rfl (Nat.le_of_ble_eq_true rfl) rfl rfl rfl rfl (by first | decide | assumption | (simp only [cnt]; omega)) ?_
  refine m_vret rfl rfl rfl (Nat.le_of_ble_eq_true rfl) (Nat.le_of_ble_eq_true rfl) ?_
  exact ⟨rfl, rfl⟩

set_option maxRecDepth 10000 in
theorem c_rqCp {l : Launch} {G : zkG} {mem : zkM} (hl : l.stackTraces = false) {a b : Nat} (ha : a < 2) (hb : b < 2) : zkCt l G i_Rq_copyFrom 1 0 0 [vr 3 a, vr 3 b] mem (zkR0 (rqCp mem a b)) := by
  refine zkCt_of hl ok_Rq_copyFrom (by decide +kernel) rfl rfl (List.forall_mem_cons.mpr ⟨rfl, (List.forall_mem_cons.mpr ⟨rfl, fun _ h => nomatch h⟩)⟩) (Nat.le_of_ble_eq_true rfl) ?_
  refine m_aload_n rfl rfl rfl ?_
  refine m_gr (k := 0) rfl rfl (Nat.le_of_ble_eq_true rfl) rfl rfl (by first | decide | assumption | (simp only [cnt]; omega)) ?_
  refine m_iconst rfl rfl ?_
  refine m_aload_n rfl rfl rfl ?_
  refine m_gr (k := 0) rfl rfl (Nat.le_of_ble_eq_true rfl) rfl rfl (by first | decide | assumption | (simp only [cnt]; omega)) ?_
  refine m_iconst rfl rfl ?_
  refine m_aload_n rfl rfl rfl ?_
  refine m_gr (k := 0) rfl rfl (Nat.le_of_ble_eq_true rfl) rfl rfl (by first | decide | assumption | (simp only [cnt]; omega)) ?_
  refine m_alen rfl rfl (Nat.le_of_ble_eq_true rfl) (Or.inl rfl) (by first | decide | assumption | (simp only [cnt]; omega)) ?_
  refine m_acopy rfl rfl (by decide +kernel) (Nat.le_of_ble_eq_true rfl) rfl (by first | decide | assumption | (simp only [cnt]; omega)) (by first | decide | assumption | (simp only [cnt]; omega)) (Nat.le_of_ble_eq_true rfl) (Nat.le_of_ble_eq_true rfl) ?_
  refine m_aload_n rfl rfl rfl ?_
  refine m_gr (k := 1) rfl rfl (Nat.le_of_ble_eq_true rfl) rfl rfl (by first | decide | assumption | (simp only [cnt]; omega)) ?_
  refine m_iconst rfl rfl ?_
  refine m_aload_n rfl rfl rfl ?_
  refine m_gr (k := 1) rfl rfl (Nat.le_of_ble_eq_true rfl) rfl rfl (by first | decide | assumption | (simp only [cnt]; omega)) ?_
  refine m_iconst rfl rfl ?_
  refine m_aload_n rfl rfl rfl ?_
  refine m_gr (k := 1) rfl rfl (Nat.le_of_ble_eq_true rfl) rfl rfl (by first | decide | assumption | (simp only [cnt]; omega)) ?_
  refine m_alen rfl rfl (Nat.le_of_ble_eq_true rfl) (Or.inl rfl) (by first | decide | assumption | (simp only [cnt]; omega)) ?_
  refine m_acopy rfl rfl (by decide +kernel) (Nat.le_of_ble_eq_true rfl) rfl (by first | decide | assumption | (simp only [cnt]; omega)) (by first | decide | assumption | (simp only [cnt]; omega)) (Nat.le_of_ble_eq_true rfl) (Nat.le_of_ble_eq_true rfl) ?_
  refine m_aload_n rfl rfl rfl ?_
  refine m_gr (k := 2) rfl rfl (Nat.le_of_ble_eq_true rfl) rfl rfl (by first | decide | assumption | (simp only [cnt]; omega)) ?_
  refine m_iconst rfl rfl ?_
  refine m_aload_n rfl rfl rfl ?_
  refine m_gr (k := 2) rfl rfl (Nat.le_of_ble_eq_true rfl) rfl rfl (by first | decide | assumption | (simp only [cnt]; omega)) ?_
  refine m_iconst rfl rfl ?_
  refine m_aload_n rfl rfl rfl ?_
  refine m_gr (k := 2) rfl rfl (Nat.le_of_ble_eq_true rfl) rfl rfl (by first | decide | assumption | (simp only [cnt]; omega)) ?_
  refine m_alen rfl rfl (Nat.le_of_ble_eq_true rfl) (Or.inl rfl) (by first | decide | assumption | (simp only [cnt]; omega)) ?_
  refine m_acopy rfl rfl (by decide +kernel) (Nat.le_of_ble_eq_true rfl) rfl (by first | decide | assumption | (simp only [cnt]; omega)) (by first | decide | assumption | (simp only [cnt]; omega)) (Nat.le_of_ble_eq_true rfl) (Nat.le_of_ble_eq_true rfl) ?_
  refine m_aload_n rfl rfl rfl ?_
  refine m_gr (k := 3) rfl rfl (Nat.le_of_ble_eq_true rfl) rfl rfl (by first | decide | assumption | (simp only [cnt]; omega)) ?_
  refine m_iconst rfl rfl ?_
  refine m_aload_n rfl rfl rfl ?_
  refine m_gr (k := 3) rfl rfl (Nat.le_of_ble_eq_true rfl) rfl rfl (by first | decide | assumption | (simp only [cnt]; omega)) ?_
  refine m_iconst rfl rfl ?_
  refine m_aload_n rfl rfl rfl ?_
  refine m_gr (k := 3) rfl rfl (Nat.le_of_ble_eq_true rfl) rfl rfl (by first | decide | assumption | (simp only [cnt]; omega)) ?_
  refine m_alen rfl rfl (Nat.le_of_ble_eq_true rfl) (Or.inl rfl) (by first | decide | assumption | (simp only [cnt]; omega)) ?_
  refine m_acopy rfl rfl (by decide +kernel) (Nat.le_of_ble_eq_true rfl) rfl (by first | decide | assumption | (simp only [cnt]; omega)) (by first | decide | assumption | (simp only [cnt]; omega)) (Nat.le_of_ble_eq_true rfl) (Nat.le_of_ble_eq_true rfl) ?_
  refine m_aload_n rfl rfl rfl ?_
  refine m_aload_n rfl rfl rfl ?_
  refine m_gix (k := 4) (x := (cpR (cpR (cpR (cpR mem 13 a b) 14 a b) 15 a b) 16 a b) 3 b 4) rfl rfl (Nat.le_of_ble_eq_true rfl) rfl rfl (by first | decide | assumption | (simp only [cnt]; omega)) (by first | rfl | ((repeat (first | rw [ms_s] | rw [ms_t (by decide)] | rw [ms_k (by decide)])) <;> rfl)) ?_
  refine m_pi (k := 4) rfl rfl (Nat.le_of_ble_eq_true rfl) rfl rfl rfl rfl (by first | decide | assumption | (simp only [cnt]; omega)) ?_
  refine m_vret rfl rfl rfl (Nat.le_of_ble_eq_true rfl) (Nat.le_of_ble_eq_true rfl) ?_
  exact ⟨rfl, rfl⟩

set_option maxRecDepth 10000 in
theorem c_seCp {l : Launch} {G : zkG} {mem : zkM} (hl : l.stackTraces = false) {a b : Nat} (ha : a < 2) (hb : b < 2) (h3 : mem 4 b 3 = 0 ∨ mem 4 b 3 = 1) (h8 : mem 4 b 8 = 0 ∨ mem 4 b 8 = 1) : zkCt l G i_Se_copyFrom 1 0 0 [vr 4 a, vr 4 b] mem (zkR0 (seCp mem a b)) := by
  refine zkCt_of hl ok_Se_copyFrom (by decide +kernel) rfl rfl (List.forall_mem_cons.mpr ⟨rfl, (List.forall_mem_cons.mpr ⟨rfl, fun _ h => nomatch h⟩)⟩) (Nat.le_of_ble_eq_true rfl) ?_
  refine m_aload_n rfl rfl rfl ?_
  refine m_gr (k := 0) rfl rfl (Nat.le_of_ble_eq_true rfl) rfl rfl (by first | decide | assumption | (simp only [cnt]; omega)) ?_
  refine m_iconst rfl rfl ?_
  refine m_aload_n rfl rfl rfl ?_
  refine m_gr (k := 0) rfl rfl (Nat.le_of_ble_eq_true rfl) rfl rfl (by first | decide | assumption | (simp only [cnt]; omega)) ?_
  refine m_iconst rfl rfl ?_
  refine m_aload_n rfl rfl rfl ?_
  refine m_gr (k := 0) rfl rfl (Nat.le_of_ble_eq_true rfl) rfl rfl (by first | decide | assumption | (simp only [cnt]; omega)) ?_
  refine m_alen rfl rfl (Nat.le_of_ble_eq_true rfl) (Or.inl rfl) (by first | decide | assumption | (simp only [cnt]; omega)) ?_
  refine m_acopy rfl rfl (by decide +kernel) (Nat.le_of_ble_eq_true rfl) rfl (by first | decide | assumption | (simp only [cnt]; omega)) (by first | decide | assumption | (simp only [cnt]; omega)) (Nat.le_of_ble_eq_true rfl) (Nat.le_of_ble_eq_true rfl) ?_
  refine m_aload_n rfl rfl rfl ?_
  refine m_gr (k := 1) rfl rfl (Nat.le_of_ble_eq_true rfl) rfl rfl (by first | decide | assumption | (simp only [cnt]; omega)) ?_
  refine m_iconst rfl rfl ?_
  refine m_aload_n rfl rfl rfl ?_
  refine m_gr (k := 1) rfl rfl (Nat.le_of_ble_eq_true rfl) rfl rfl (by first | decide | assumption | (simp only [cnt]; omega)) ?_
  refine m_iconst rfl rfl ?_
  refine m_aload_n rfl rfl rfl ?_
  refine m_gr (k := 1) rfl rfl (Nat.le_of_ble_eq_true rfl) rfl rfl (by first | decide | assumption | (simp only [cnt]; omega)) ?_
  refine m_alen rfl rfl (Nat.le_of_ble_eq_true rfl) (Or.inl rfl) (by first | decide | assumption | (simp only [cnt]; omega)) ?_
  refine m_acopy rfl rfl (by decide +kernel) (Nat.le_of_ble_eq_true rfl) rfl (by first | decide | assumption | (simp only [cnt]; omega)) (by first | decide | assumption | (simp only [cnt]; omega)) (Nat.le_of_ble_eq_true rfl) (Nat.le_of_ble_eq_true rfl) ?_
  have e3 : cpR (cpR mem 11 a b) 12 a b 4 b 3 = mem 4 b 3 := rfl
  have e8 : cpR (cpR mem 11 a b) 12 a b 4 b 8 = mem 4 b 8 := rfl
  refine m_aload_n rfl rfl rfl ?_
  refine m_aload_n rfl rfl rfl ?_
  refine m_gix (k := 2) (x := (cpR (cpR mem 11 a b) 12 a b) 4 b 2) rfl rfl (Nat.le_of_ble_eq_true rfl) rfl rfl (by first | decide | assumption | (simp only [cnt]; omega)) (by first | rfl | ((repeat (first | rw [ms_s] | rw [ms_t (by decide)] | rw [ms_k (by decide)])) <;> rfl)) ?_
  refine m_pi (k := 2) rfl rfl (Nat.le_of_ble_eq_true rfl) rfl rfl rfl rfl (by first | decide | assumption | (simp only [cnt]; omega)) ?_
  refine m_aload_n rfl rfl rfl ?_
  refine m_aload_n rfl rfl rfl ?_
  refine m_gix (k := 3) (x := (cpR (cpR mem 11 a b) 12 a b) 4 b 3) rfl rfl (Nat.le_of_ble_eq_true rfl) rfl rfl (by first | decide | assumption | (simp only [cnt]; omega)) (by first | rfl | ((repeat (first | rw [ms_s] | rw [ms_t (by decide)] | rw [ms_k (by decide)])) <;> rfl)) ?_
  refine m_pzx (k := 3) rfl rfl (Nat.le_of_ble_eq_true rfl) rfl rfl rfl rfl (by first | decide | assumption | (simp only [cnt]; omega)) (by omega) ?_
  refine m_aload_n rfl rfl rfl ?_
  refine m_aload_n rfl rfl rfl ?_
  refine m_gix (k := 4) (x := (cpR (cpR mem 11 a b) 12 a b) 4 b 4) rfl rfl (Nat.le_of_ble_eq_true rfl) rfl rfl (by first | decide | assumption | (simp only [cnt]; omega)) (by first | rfl | ((repeat (first | rw [ms_s] | rw [ms_t (by decide)] | rw [ms_k (by decide)])) <;> rfl)) ?_
  refine m_pi (k := 4) rfl rfl (Nat.le_of_ble_eq_true rfl) rfl rfl rfl rfl (by first | decide | assumption | (simp only [cnt]; omega)) ?_
  refine m_aload_n rfl rfl rfl ?_
  refine m_aload_n rfl rfl rfl ?_
  refine m_gix (k := 5) (x := (cpR (cpR mem 11 a b) 12 a b) 4 b 5) rfl rfl (Nat.le_of_ble_eq_true rfl) rfl rfl (by first | decide | assumption | (simp only [cnt]; omega)) (by first | rfl | ((repeat (first | rw [ms_s] | rw [ms_t (by decide)] | rw [ms_k (by decide)])) <;> rfl)) ?_
  refine m_pi (k := 5) rfl rfl (Nat.le_of_ble_eq_true rfl) rfl rfl rfl rfl (by first | decide | assumption | (simp only [cnt]; omega)) ?_
  refine m_aload_n rfl rfl rfl ?_
  refine m_aload_n rfl rfl rfl ?_
  refine m_gix (k := 6) (x := (cpR (cpR mem 11 a b) 12 a b) 4 b 6) rfl rfl (Nat.le_of_ble_eq_true rfl) rfl rfl (by first | decide | assumption | (simp only [cnt]; omega)) (by first | rfl | ((repeat (first | rw [ms_s] | rw [ms_t (by decide)] | rw [ms_k (by decide)])) <;> rfl)) ?_
  refine m_pi (k := 6) rfl rfl (Nat.le_of_ble_eq_true rfl) rfl rfl rfl rfl (by first | decide | assumption | (simp only [cnt]; omega)) ?_
  refine m_aload_n rfl rfl rfl ?_
  refine m_aload_n rfl rfl rfl ?_
  refine m_gix (k := 7) (x := (cpR (cpR mem 11 a b) 12 a b) 4 b 7) rfl rfl (Nat.le_of_ble_eq_true rfl) rfl rfl (by first | decide | assumption | (simp only [cnt]; omega)) (by first | rfl | ((repeat (first | rw [ms_s] | rw [ms_t (by decide)] | rw [ms_k (by decide)])) <;> rfl)) ?_
  refine m_pi (k := 7) rfl rfl (Nat.le_of_ble_eq_true rfl) rfl rfl rfl rfl (by first | decide | assumption | (simp only [cnt]; omega)) ?_
  refine m_aload_n rfl rfl rfl ?_
  refine m_aload_n rfl rfl rfl ?_
  refine m_gix (k := 8) (x := (cpR (cpR mem 11 a b) 12 a b) 4 b 8) rfl rfl (Nat.le_of_ble_eq_true rfl) rfl rfl (by first | decide | assumption | (simp only [cnt]; omega)) (by first | rfl | ((repeat (first | rw [ms_s] | rw [ms_t (by decide)] | rw [ms_k (by decide)])) <;> rfl)) ?_
  refine m_pzx (k := 8) rfl rfl (Nat.le_of_ble_eq_true rfl) rfl rfl rfl rfl (by first | decide | assumption | (simp only [cnt]; omega)) (by omega) ?_
  refine m_aload_n rfl rfl rfl ?_
  refine m_aload_n rfl rfl rfl ?_
  refine m_gix (k := 9) (x := (cpR (cpR mem 11 a b) 12 a b) 4 b 9) rfl rfl (Nat.le_of_ble_eq_true rfl) rfl rfl (by first | decide | assumption | (simp only [cnt]; omega)) (by first | rfl | ((repeat (first | rw [ms_s] | rw [ms_t (by decide)] | rw [ms_k (by decide)])) <;> rfl)) ?_
  refine m_pi (k := 9) rfl rfl (Nat.le_of_ble_eq_true rfl) rfl rfl rfl rfl (by first | decide | assumption | (simp only [cnt]; omega)) ?_
  refine m_aload_n rfl rfl rfl ?_
  refine m_aload_n rfl rfl rfl ?_
  refine m_gix (k := 10) (x := (cpR (cpR mem 11 a b) 12 a b) 4 b 10) rfl rfl (Nat.le_of_ble_eq_true rfl) rfl rfl (by first | decide | assumption | (simp only [cnt]; omega)) (by first | rfl | ((repeat (first | rw [ms_s] | rw [ms_t (by decide)] | rw [ms_k (by decide)])) <;> rfl)) ?_
  refine m_pi (k := 10) rfl rfl (Nat.le_of_ble_eq_true rfl) rfl rfl rfl rfl (by first | decide | assumption | (simp only [cnt]; omega)) ?_
  refine m_vret rfl rfl rfl (Nat.le_of_ble_eq_true rfl) (Nat.le_of_ble_eq_true rfl) ?_
  exact ⟨rfl, rfl⟩

def beCt (a b : Nat) (i : Nat) (s : zkM) : zkM := taCp s (5 * a + i) (5 * b + i)
def beCp1 (m : zkM) (a b : Nat) : zkM := lp (beCt a b) 5 m
def beCp2 (m : zkM) (a b : Nat) : zkM := cpR (cpR (rqCp (seCp (beCp1 m a b) a b) a b) 17 a b) 18 a b
def beCp (m : zkM) (a b : Nat) : zkM := cpF (beCp2 m a b) 0 a b [5, 6, 7]
theorem beCp1_10 {t' i' : Nat} (h : (t' ≠ 1 ∧ t' ≠ 5 ∧ t' ≠ 19 ∧ t' ≠ 20 ∧ t' ≠ 21 ∧ t' ≠ 22) ∨ (0 ≤ i' ∧ i' < 5)) (m : zkM) (n : Nat) (hn : n ≤ 5) (k' : Nat) : lp (beCt 1 0) n m t' i' k' = m t' i' k' := by
  refine lp_inv (fun (_ : Nat) (s : zkM) => s t' i' k' = m t' i' k') _ _ _ rfl (fun j s hj hI => ?_)
  unfold beCt
  rw [taCp_f (by omega)]
  exact hI
set_option maxRecDepth 10000 in
theorem c_beCp10 {l : Launch} {G : zkG} {mem : zkM} (hl : l.stackTraces = false) (h11 : ∀ i, i < 5 → mem 5 (5 * 0 + i) 11 = 0 ∨ mem 5 (5 * 0 + i) 11 = 1) (h3 : mem 4 0 3 = 0 ∨ mem 4 0 3 = 1) (h8 : mem 4 0 8 = 0 ∨ mem 4 0 8 = 1) : zkCt l G i_Be_copyFrom 3 0 0 [vr 0 1, vr 0 0] mem (zkR0 (beCp mem 1 0)) := by
  refine zkCt_of hl ok_Be_copyFrom (by decide +kernel) rfl rfl (List.forall_mem_cons.mpr ⟨rfl, (List.forall_mem_cons.mpr ⟨rfl, fun _ h => nomatch h⟩)⟩) (Nat.le_of_ble_eq_true rfl) ?_
  refine m_iconst rfl rfl ?_
  refine m_istore_n rfl rfl (Nat.le_of_ble_eq_true rfl) rfl ?_
  refine zk_loop (P := fun (j : Nat) (s : zkM) => zkW l G i_Be_copyFrom _ 0 0 2 [some (vr 0 1), some (vr 0 0), some (vi j)] [] s) (I := fun j s => s = lp (beCt 1 0) j mem) (beCt 1 0) 5 mem rfl (fun j s _ hI => by rw [hI]; rfl) (fun j s hj hI hk => ?_) (fun hI => ?_)
  · have e11 : s 5 (5 * 0 + j) 11 = mem 5 (5 * 0 + j) 11 := by rw [hI, beCp1_10 (by omega) _ _ (by omega)]
    have g11 := h11 j (by omega)
    refine m_iload_n rfl rfl rfl ?_
    refine m_iconst rfl rfl ?_
    refine m_icmp_ge (tgt := 28) rfl rfl rfl (by omega) (by omega) (fun c4 => ?_) (fun c4 => ?_)
    · exfalso; omega
    · refine m_aload_n rfl rfl rfl ?_
      refine m_gr (k := 0) rfl rfl (Nat.le_of_ble_eq_true rfl) rfl rfl (by first | decide | assumption | (simp only [cnt]; omega)) ?_
      refine m_iload_n rfl rfl rfl ?_
      refine m_aaln (n := j) (q := 5 * 1 + j) rfl rfl (by decide) (by omega) (by omega) (by omega) ?_
      refine m_aload_n rfl rfl rfl ?_
      refine m_gr (k := 0) rfl rfl (Nat.le_of_ble_eq_true rfl) rfl rfl (by first | decide | assumption | (simp only [cnt]; omega)) ?_
      refine m_iload_n rfl rfl rfl ?_
      refine m_aaln (n := j) (q := 5 * 0 + j) rfl rfl (by decide) (by omega) (by omega) (by omega) ?_
      refine m_cv0 rfl rfl lk_0_171 (c_taCp (a := 5 * 1 + j) (b := 5 * 0 + j) hl (by omega) (by omega) (by rw [e11]; exact g11)) rfl (by first | decide | assumption | (simp only [cnt]; omega)) (Nat.le_of_ble_eq_true rfl) rfl rfl (Nat.le_of_ble_eq_true rfl) (Nat.le_of_ble_eq_true rfl) (Nat.le_of_ble_eq_true rfl) (Nat.le_of_ble_eq_true rfl) (Nat.le_of_ble_eq_true rfl) ?_
      refine m_iinc rfl rfl rfl (Nat.le_of_ble_eq_true rfl) rfl ?_
      refine m_goto (tgt := 2) rfl rfl rfl ?_
      exact hk
  · have e3 : beCp1 mem 1 0 4 0 3 = mem 4 0 3 := beCp1_10 (by omega) _ _ (by omega) _
    have e8 : beCp1 mem 1 0 4 0 8 = mem 4 0 8 := beCp1_10 (by omega) _ _ (by omega) _
    change zkW l G i_Be_copyFrom _ 0 0 2 _ _ (beCp1 mem 1 0)
    refine m_iload_n rfl rfl rfl ?_
    refine m_iconst rfl rfl ?_
    refine m_icmp_ge (tgt := 28) rfl rfl rfl (by omega) (by omega) (fun c4 => ?_) (fun c4 => ?_)
    · refine m_aload_n rfl rfl rfl ?_
      refine m_gr (k := 1) rfl rfl (Nat.le_of_ble_eq_true rfl) rfl rfl (by first | decide | assumption | (simp only [cnt]; omega)) ?_
      refine m_aload_n rfl rfl rfl ?_
      refine m_gr (k := 1) rfl rfl (Nat.le_of_ble_eq_true rfl) rfl rfl (by first | decide | assumption | (simp only [cnt]; omega)) ?_
      refine m_cv0 rfl rfl lk_0_175 (c_seCp (a := 1) (b := 0) hl (by omega) (by omega) (by rw [e3]; exact h3) (by rw [e8]; exact h8)) rfl (by first | decide | assumption | (simp only [cnt]; omega)) (Nat.le_of_ble_eq_true rfl) rfl rfl (Nat.le_of_ble_eq_true rfl) (Nat.le_of_ble_eq_true rfl) (Nat.le_of_ble_eq_true rfl) (Nat.le_of_ble_eq_true rfl) (Nat.le_of_ble_eq_true rfl) ?_
      refine m_aload_n rfl rfl rfl ?_
      refine m_gr (k := 2) rfl rfl (Nat.le_of_ble_eq_true rfl) rfl rfl (by first | decide | assumption | (simp only [cnt]; omega)) ?_
      refine m_aload_n rfl rfl rfl ?_
      refine m_gr (k := 2) rfl rfl (Nat.le_of_ble_eq_true rfl) rfl rfl (by first | decide | assumption | (simp only [cnt]; omega)) ?_
      refine m_cv0 rfl rfl lk_0_178 (c_rqCp (a := 1) (b := 0) hl (by omega) (by omega)) rfl (by first | decide | assumption | (simp only [cnt]; omega)) (Nat.le_of_ble_eq_true rfl) rfl rfl (Nat.le_of_ble_eq_true rfl) (Nat.le_of_ble_eq_true rfl) (Nat.le_of_ble_eq_true rfl) (Nat.le_of_ble_eq_true rfl) (Nat.le_of_ble_eq_true rfl) ?_
      refine m_aload_n rfl rfl rfl ?_
      refine m_gr (k := 3) rfl rfl (Nat.le_of_ble_eq_true rfl) rfl rfl (by first | decide | assumption | (simp only [cnt]; omega)) ?_
      refine m_iconst rfl rfl ?_
      refine m_aload_n rfl rfl rfl ?_
      refine m_gr (k := 3) rfl rfl (Nat.le_of_ble_eq_true rfl) rfl rfl (by first | decide | assumption | (simp only [cnt]; omega)) ?_
      refine m_iconst rfl rfl ?_
      refine m_aload_n rfl rfl rfl ?_
      refine m_gr (k := 3) rfl rfl (Nat.le_of_ble_eq_true rfl) rfl rfl (by first | decide | assumption | (simp only [cnt]; omega)) ?_
      refine m_alen rfl rfl (Nat.le_of_ble_eq_true rfl) (Or.inl rfl) (by first | decide | assumption | (simp only [cnt]; omega)) ?_
      refine m_acopy rfl rfl (by decide +kernel) (Nat.le_of_ble_eq_true rfl) rfl (by first | decide | assumption | (simp only [cnt]; omega)) (by first | decide | assumption | (simp only [cnt]; omega)) (Nat.le_of_ble_eq_true rfl) (Nat.le_of_ble_eq_true rfl) ?_
      refine m_aload_n rfl rfl rfl ?_
      refine m_gr (k := 4) rfl rfl (Nat.le_of_ble_eq_true rfl) rfl rfl (by first | decide | assumption | (simp only [cnt]; omega)) ?_
      refine m_iconst rfl rfl ?_
      refine m_aload_n rfl rfl rfl ?_
      refine m_gr (k := 4) rfl rfl (Nat.le_of_ble_eq_true rfl) rfl rfl (by first | decide | assumption | (simp only [cnt]; omega)) ?_
      refine m_iconst rfl rfl ?_
      refine m_aload_n rfl rfl rfl ?_
      refine m_gr (k := 4) rfl rfl (Nat.le_of_ble_eq_true rfl) rfl rfl (by first | decide | assumption | (simp only [cnt]; omega)) ?_
      refine m_alen rfl rfl (Nat.le_of_ble_eq_true rfl) (Or.inl rfl) (by first | decide | assumption | (simp only [cnt]; omega)) ?_
      refine m_acopy rfl rfl (by decide +kernel) (Nat.le_of_ble_eq_true rfl) rfl (by first | decide | assumption | (simp only [cnt]; omega)) (by first | decide | assumption | (simp only [cnt]; omega)) (Nat.le_of_ble_eq_true rfl) (Nat.le_of_ble_eq_true rfl) ?_
      change zkW l G i_Be_copyFrom _ 0 0 86 _ _ (beCp2 mem 1 0)
      refine m_aload_n rfl rfl rfl ?_
      refine m_aload_n rfl rfl rfl ?_
      refine m_gix (k := 5) (x := (beCp2 mem 1 0) 0 0 5) rfl rfl (Nat.le_of_ble_eq_true rfl) rfl rfl (by first | decide | assumption | (simp only [cnt]; omega)) (by first | rfl | ((repeat (first | rw [ms_s] | rw [ms_t (by decide)] | rw [ms_k (by decide)])) <;> rfl)) ?_
      refine m_pi (k := 5) rfl rfl (Nat.le_of_ble_eq_true rfl) rfl rfl rfl rfl (by first | decide | assumption | (simp only [cnt]; omega)) ?_
      refine m_aload_n rfl rfl rfl ?_
      refine m_aload_n rfl rfl rfl ?_
      refine m_gix (k := 6) (x := (beCp2 mem 1 0) 0 0 6) rfl rfl (Nat.le_of_ble_eq_true rfl) rfl rfl (by first | decide | assumption | (simp only [cnt]; omega)) (by first | rfl | ((repeat (first | rw [ms_s] | rw [ms_t (by decide)] | rw [ms_k (by decide)])) <;> rfl)) ?_
      refine m_pi (k := 6) rfl rfl (Nat.le_of_ble_eq_true rfl) rfl rfl rfl rfl (by first | decide | assumption | (simp only [cnt]; omega)) ?_
      refine m_aload_n rfl rfl rfl ?_
      refine m_aload_n rfl rfl rfl ?_
      refine m_gix (k := 7) (x := (beCp2 mem 1 0) 0 0 7) rfl rfl (Nat.le_of_ble_eq_true rfl) rfl rfl (by first | decide | assumption | (simp only [cnt]; omega)) (by first | rfl | ((repeat (first | rw [ms_s] | rw [ms_t (by decide)] | rw [ms_k (by decide)])) <;> rfl)) ?_
      refine m_pi (k := 7) rfl rfl (Nat.le_of_ble_eq_true rfl) rfl rfl rfl rfl (by first | decide | assumption | (simp only [cnt]; omega)) ?_
      refine m_vret rfl rfl rfl (Nat.le_of_ble_eq_true rfl) (Nat.le_of_ble_eq_true rfl) ?_
      exact ⟨rfl, rfl⟩
    · exfalso; omega

theorem beCp1_01 {t' i' : Nat} (h : (t' ≠ 1 ∧ t' ≠ 5 ∧ t' ≠ 19 ∧ t' ≠ 20 ∧ t' ≠ 21 ∧ t' ≠ 22) ∨ (5 ≤ i' ∧ i' < 10)) (m : zkM) (n : Nat) (hn : n ≤ 5) (k' : Nat) : lp (beCt 0 1) n m t' i' k' = m t' i' k' := by
  refine lp_inv (fun (_ : Nat) (s : zkM) => s t' i' k' = m t' i' k') _ _ _ rfl (fun j s hj hI => ?_)
  unfold beCt
  rw [taCp_f (by omega)]
  exact hI
set_option maxRecDepth 10000 in
theorem c_beCp01 {l : Launch} {G : zkG} {mem : zkM} (hl : l.stackTraces = false) (h11 : ∀ i, i < 5 → mem 5 (5 * 1 + i) 11 = 0 ∨ mem 5 (5 * 1 + i) 11 = 1) (h3 : mem 4 1 3 = 0 ∨ mem 4 1 3 = 1) (h8 : mem 4 1 8 = 0 ∨ mem 4 1 8 = 1) : zkCt l G i_Be_copyFrom 3 0 0 [vr 0 0, vr 0 1] mem (zkR0 (beCp mem 0 1)) := by
  refine zkCt_of hl ok_Be_copyFrom (by decide +kernel) rfl rfl (List.forall_mem_cons.mpr ⟨rfl, (List.forall_mem_cons.mpr ⟨rfl, fun _ h => nomatch h⟩)⟩) (Nat.le_of_ble_eq_true rfl) ?_
  refine m_iconst rfl rfl ?_
  refine m_istore_n rfl rfl (Nat.le_of_ble_eq_true rfl) rfl ?_
  refine zk_loop (P := fun (j : Nat) (s : zkM) => zkW l G i_Be_copyFrom _ 0 0 2 [some (vr 0 0), some (vr 0 1), some (vi j)] [] s) (I := fun j s => s = lp (beCt 0 1) j mem) (beCt 0 1) 5 mem rfl (fun j s _ hI => by rw [hI]; rfl) (fun j s hj hI hk => ?_) (fun hI => ?_)
  · have e11 : s 5 (5 * 1 + j) 11 = mem 5 (5 * 1 + j) 11 := by rw [hI, beCp1_01 (by omega) _ _ (by omega)]
    have g11 := h11 j (by omega)
    refine m_iload_n rfl rfl rfl ?_
    refine m_iconst rfl rfl ?_
    refine m_icmp_ge (tgt := 28) rfl rfl rfl (by omega) (by omega) (fun c4 => ?_) (fun c4 => ?_)
    · exfalso; omega
    · refine m_aload_n rfl rfl rfl ?_
      refine m_gr (k := 0) rfl rfl (Nat.le_of_ble_eq_true rfl) rfl rfl (by first | decide | assumption | (simp only [cnt]; omega)) ?_
      refine m_iload_n rfl rfl rfl ?_
      refine m_aaln (n := j) (q := 5 * 0 + j) rfl rfl (by decide) (by omega) (by omega) (by omega) ?_
      refine m_aload_n rfl rfl rfl ?_
      refine m_gr (k := 0) rfl rfl (Nat.le_of_ble_eq_true rfl) rfl rfl (by first | decide | assumption | (simp only [cnt]; omega)) ?_
      refine m_iload_n rfl rfl rfl ?_
      refine m_aaln (n := j) (q := 5 * 1 + j) rfl rfl (by decide) (by omega) (by omega) (by omega) ?_
      refine m_cv0 rfl rfl lk_0_171 (c_taCp (a := 5 * 0 + j) (b := 5 * 1 + j) hl (by omega) (by omega) (by rw [e11]; exact g11)) rfl (by first | decide | assumption | (simp only [cnt]; omega)) (Nat.le_of_ble_eq_true rfl) rfl rfl (Nat.le_of_ble_eq_true rfl) (Nat.le_of_ble_eq_true rfl) (Nat.le_of_ble_eq_true rfl) (Nat.le_of_ble_eq_true rfl) (Nat.le_of_ble_eq_true rfl) ?_
      refine m_iinc rfl rfl rfl (Nat.le_of_ble_eq_true rfl) rfl ?_
      refine m_goto (tgt := 2) rfl rfl rfl ?_
      exact hk
  · have e3 : beCp1 mem 0 1 4 1 3 = mem 4 1 3 := beCp1_01 (by omega) _ _ (by omega) _
    have e8 : beCp1 mem 0 1 4 1 8 = mem 4 1 8 := beCp1_01 (by omega) _ _ (by omega) _
    change zkW l G i_Be_copyFrom _ 0 0 2 _ _ (beCp1 mem 0 1)
    refine m_iload_n rfl rfl rfl ?_
    refine m_iconst rfl rfl ?_
    refine m_icmp_ge (tgt := 28) rfl rfl rfl (by omega) (by omega) (fun c4 => ?_) (fun c4 => ?_)
    · refine m_aload_n rfl rfl rfl ?_
      refine m_gr (k := 1) rfl rfl (Nat.le_of_ble_eq_true rfl) rfl rfl (by first | decide | assumption | (simp only [cnt]; omega)) ?_
      refine m_aload_n rfl rfl rfl ?_
      refine m_gr (k := 1) rfl rfl (Nat.le_of_ble_eq_true rfl) rfl rfl (by first | decide | assumption | (simp only [cnt]; omega)) ?_
      refine m_cv0 rfl rfl lk_0_175 (c_seCp (a := 0) (b := 1) hl (by omega) (by omega) (by rw [e3]; exact h3) (by rw [e8]; exact h8)) rfl (by first | decide | assumption | (simp only [cnt]; omega)) (Nat.le_of_ble_eq_true rfl) rfl rfl (Nat.le_of_ble_eq_true rfl) (Nat.le_of_ble_eq_true rfl) (Nat.le_of_ble_eq_true rfl) (Nat.le_of_ble_eq_true rfl) (Nat.le_of_ble_eq_true rfl) ?_
      refine m_aload_n rfl rfl rfl ?_
      refine m_gr (k := 2) rfl rfl (Nat.le_of_ble_eq_true rfl) rfl rfl (by first | decide | assumption | (simp only [cnt]; omega)) ?_
      refine m_aload_n rfl rfl rfl ?_
      refine m_gr (k := 2) rfl rfl (Nat.le_of_ble_eq_true rfl) rfl rfl (by first | decide | assumption | (simp only [cnt]; omega)) ?_
      refine m_cv0 rfl rfl lk_0_178 (c_rqCp (a := 0) (b := 1) hl (by omega) (by omega)) rfl (by first | decide | assumption | (simp only [cnt]; omega)) (Nat.le_of_ble_eq_true rfl) rfl rfl (Nat.le_of_ble_eq_true rfl) (Nat.le_of_ble_eq_true rfl) (Nat.le_of_ble_eq_true rfl) (Nat.le_of_ble_eq_true rfl) (Nat.le_of_ble_eq_true rfl) ?_
      refine m_aload_n rfl rfl rfl ?_
      refine m_gr (k := 3) rfl rfl (Nat.le_of_ble_eq_true rfl) rfl rfl (by first | decide | assumption | (simp only [cnt]; omega)) ?_
      refine m_iconst rfl rfl ?_
      refine m_aload_n rfl rfl rfl ?_
      refine m_gr (k := 3) rfl rfl (Nat.le_of_ble_eq_true rfl) rfl rfl (by first | decide | assumption | (simp only [cnt]; omega)) ?_
      refine m_iconst rfl rfl ?_
      refine m_aload_n rfl rfl rfl ?_
      refine m_gr (k := 3) rfl rfl (Nat.le_of_ble_eq_true rfl) rfl rfl (by first | decide | assumption | (simp only [cnt]; omega)) ?_
      refine m_alen rfl rfl (Nat.le_of_ble_eq_true rfl) (Or.inl rfl) (by first | decide | assumption | (simp only [cnt]; omega)) ?_
      refine m_acopy rfl rfl (by decide +kernel) (Nat.le_of_ble_eq_true rfl) rfl (by first | decide | assumption | (simp only [cnt]; omega)) (by first | decide | assumption | (simp only [cnt]; omega)) (Nat.le_of_ble_eq_true rfl) (Nat.le_of_ble_eq_true rfl) ?_
      refine m_aload_n rfl rfl rfl ?_
      refine m_gr (k := 4) rfl rfl (Nat.le_of_ble_eq_true rfl) rfl rfl (by first | decide | assumption | (simp only [cnt]; omega)) ?_
      refine m_iconst rfl rfl ?_
      refine m_aload_n rfl rfl rfl ?_
      refine m_gr (k := 4) rfl rfl (Nat.le_of_ble_eq_true rfl) rfl rfl (by first | decide | assumption | (simp only [cnt]; omega)) ?_
      refine m_iconst rfl rfl ?_
      refine m_aload_n rfl rfl rfl ?_
      refine m_gr (k := 4) rfl rfl (Nat.le_of_ble_eq_true rfl) rfl rfl (by first | decide | assumption | (simp only [cnt]; omega)) ?_
      refine m_alen rfl rfl (Nat.le_of_ble_eq_true rfl) (Or.inl rfl) (by first | decide | assumption | (simp only [cnt]; omega)) ?_
      refine m_acopy rfl rfl (by decide +kernel) (Nat.le_of_ble_eq_true rfl) rfl (by first | decide | assumption | (simp only [cnt]; omega)) (by first | decide | assumption | (simp only [cnt]; omega)) (Nat.le_of_ble_eq_true rfl) (Nat.le_of_ble_eq_true rfl) ?_
      change zkW l G i_Be_copyFrom _ 0 0 86 _ _ (beCp2 mem 0 1)
      refine m_aload_n rfl rfl rfl ?_
      refine m_aload_n rfl rfl rfl ?_
      refine m_gix (k := 5) (x := (beCp2 mem 0 1) 0 1 5) rfl rfl (Nat.le_of_ble_eq_true rfl) rfl rfl (by first | decide | assumption | (simp only [cnt]; omega)) (by first | rfl | ((repeat (first | rw [ms_s] | rw [ms_t (by decide)] | rw [ms_k (by decide)])) <;> rfl)) ?_
      refine m_pi (k := 5) rfl rfl (Nat.le_of_ble_eq_true rfl) rfl rfl rfl rfl (by first | decide | assumption | (simp only [cnt]; omega)) ?_
      refine m_aload_n rfl rfl rfl ?_
      refine m_aload_n rfl rfl rfl ?_
      refine m_gix (k := 6) (x := (beCp2 mem 0 1) 0 1 6) rfl rfl (Nat.le_of_ble_eq_true rfl) rfl rfl (by first | decide | assumption | (simp only [cnt]; omega)) (by first | rfl | ((repeat (first | rw [ms_s] | rw [ms_t (by decide)] | rw [ms_k (by decide)])) <;> rfl)) ?_
      refine m_pi (k := 6) rfl rfl (Nat.le_of_ble_eq_true rfl) rfl rfl rfl rfl (by first | decide | assumption | (simp only [cnt]; omega)) ?_
      refine m_aload_n rfl rfl rfl ?_
      refine m_aload_n rfl rfl rfl ?_
      refine m_gix (k := 7) (x := (beCp2 mem 0 1) 0 1 7) rfl rfl (Nat.le_of_ble_eq_true rfl) rfl rfl (by first | decide | assumption | (simp only [cnt]; omega)) (by first | rfl | ((repeat (first | rw [ms_s] | rw [ms_t (by decide)] | rw [ms_k (by decide)])) <;> rfl)) ?_
      refine m_pi (k := 7) rfl rfl (Nat.le_of_ble_eq_true rfl) rfl rfl rfl rfl (by first | decide | assumption | (simp only [cnt]; omega)) ?_
      refine m_vret rfl rfl rfl (Nat.le_of_ble_eq_true rfl) (Nat.le_of_ble_eq_true rfl) ?_
      exact ⟨rfl, rfl⟩
    · exfalso; omega

