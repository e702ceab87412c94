/-! the reference: the text. A memory with the place and the fault apart -/
def zC (m : zkM) (p : Int × Int) : zkM := mset (mset m 7 0 30 p.1) 7 0 31 p.2
theorem zC_id (m : zkM) : zC m (m 7 0 30, m 7 0 31) = m := by
  funext t i k
  unfold zC mset
  by_cases h : t = 7 ∧ i = 0 ∧ k = 31
  · obtain ⟨rfl, rfl, rfl⟩ := h; simp
  · rw [if_neg h]
    by_cases h2 : t = 7 ∧ i = 0 ∧ k = 30
    · obtain ⟨rfl, rfl, rfl⟩ := h2; simp
    · rw [if_neg h2]
theorem zC_30 (m : zkM) (p : Int × Int) (a : Int) : mset (zC m p) 7 0 30 a = zC m (a, p.2) := by
  funext t i k
  unfold zC mset
  by_cases h : t = 7 ∧ i = 0 ∧ k = 30
  · obtain ⟨rfl, rfl, rfl⟩ := h; simp
  · simp only [if_neg h]
theorem zC_31 (m : zkM) (p : Int × Int) (f : Int) : mset (zC m p) 7 0 31 f = zC m (p.1, f) := by
  funext t i k
  unfold zC mset
  by_cases h : t = 7 ∧ i = 0 ∧ k = 31
  · simp only [if_pos h]
  · simp only [if_neg h]
theorem zC_o {t : Nat} (h : t ≠ 7) (m : zkM) (p : Int × Int) (i k : Nat) (x : Int) : mset (zC m p) t i k x = zC (mset m t i k x) p := by
  funext t' i' k'
  unfold zC mset
  by_cases h1 : t' = 7 ∧ i' = 0 ∧ k' = 31
  · have h2 : ¬ (t' = t ∧ i' = i ∧ k' = k) := by omega
    simp only [if_pos h1, if_neg h2]
  · by_cases h3 : t' = 7 ∧ i' = 0 ∧ k' = 30
    · have h2 : ¬ (t' = t ∧ i' = i ∧ k' = k) := by omega
      simp only [if_neg h1, if_pos h3, if_neg h2]
    · simp only [if_neg h1, if_neg h3]
def sgn (m : zkM) (a : Int) : Int := if a < m 7 0 29 then m 44 0 a.toNat else -1
def tk (m : zkM) (c : Int) (p : Int × Int) : Int × Int := if p.2 = -1 ∧ sgn m p.1 = c then (p.1 + 1, p.2) else (p.1, if p.2 = -1 then p.1 else p.2)
/-- the text is in its bounds -/
def txA (m : zkM) : Prop := (0 ≤ m 7 0 29 ∧ m 7 0 29 ≤ 60) ∧ ∀ k, k < 60 → 0 ≤ m 44 0 k ∧ m 44 0 k ≤ 65535
def txP (p : Int × Int) : Prop := (0 ≤ p.1 ∧ p.1 ≤ 60) ∧ (-1 ≤ p.2 ∧ p.2 ≤ 60)
theorem sgn_b {m : zkM} (h : txA m) {a : Int} (ha : 0 ≤ a) : -1 ≤ sgn m a ∧ sgn m a ≤ 65535 ∧ (sgn m a ≠ -1 → a < 60) := by
  obtain ⟨h1, h2⟩ := h
  unfold sgn
  split
  · have := h2 a.toNat (by omega)
    omega
  · omega
theorem tk_b {m : zkM} (h : txA m) {c : Int} (hc : 0 ≤ c) {p : Int × Int} (hp : txP p) : txP (tk m c p) := by
  have := sgn_b h hp.1.1
  obtain ⟨h1, h2⟩ := hp
  unfold tk txP
  split
  · dsimp only; omega
  · dsimp only; split <;> omega
def tks (m : zkM) (cs : List Int) (p : Int × Int) : Int × Int := cs.foldl (fun p c => tk m c p) p
theorem tks_b {m : zkM} (h : txA m) : ∀ (cs : List Int) (p : Int × Int), (∀ c ∈ cs, 0 ≤ c) → txP p → txP (tks m cs p)
  | [], _, _, hp => hp
  | c :: cs, p, hc, hp => tks_b h cs (tk m c p) (fun d hd => hc d (List.mem_cons_of_mem _ hd)) (tk_b h (hc c List.mem_cons_self) hp)
set_option maxRecDepth 10000 in
theorem c_sign {l : Launch} {G : zkG} (hl : l.stackTraces = false) {m : zkM} {p : Int × Int} (hT : txA m) (hp : 0 ≤ p.1 ∧ p.1 ≤ 60) : zkCt l G i_Mo_sign 0 0 0 [vr 7 0] (zC m p) (zkR1 (vi (sgn m p.1)) (zC m p)) := by
  refine zkCt_of hl ok_Mo_sign (by decide +kernel) rfl rfl (List.forall_mem_cons.mpr ⟨rfl, fun _ h => nomatch h⟩) (Nat.le_of_ble_eq_true rfl) ?_
  have h1 := hT.1
  refine m_aload_n rfl rfl rfl ?_
  refine m_gix (k := 30) (x := p.1) rfl rfl (Nat.le_of_ble_eq_true rfl) rfl rfl (by first | decide | assumption | (simp only [cnt]; omega)) rfl ?_
  refine m_aload_n rfl rfl rfl ?_
  refine m_gix (k := 29) (x := m 7 _ 29) rfl rfl (Nat.le_of_ble_eq_true rfl) rfl rfl (by first | decide | assumption | (simp only [cnt]; omega)) rfl ?_
  refine m_icmp_ge (tgt := 23) rfl rfl rfl (by omega) (by omega) (fun c8 => ?_) (fun c8 => ?_)
  · refine m_iconst rfl rfl ?_
    refine m_iret rfl rfl rfl (Nat.le_of_ble_eq_true rfl) (Nat.le_of_ble_eq_true rfl) ?_
    unfold sgn
    first | (rw [if_pos (by omega)]; exact ⟨rfl, rfl⟩) | (rw [if_neg (by omega)]; exact ⟨rfl, rfl⟩)
  · refine m_aload_n rfl rfl rfl ?_
    refine m_gr (k := 27) rfl rfl (Nat.le_of_ble_eq_true rfl) rfl rfl (by first | decide | assumption | (simp only [cnt]; omega)) ?_
    refine m_aload_n rfl rfl rfl ?_
    refine m_gix (k := 30) (x := p.1) rfl rfl (Nat.le_of_ble_eq_true rfl) rfl rfl (by first | decide | assumption | (simp only [cnt]; omega)) rfl ?_
    refine m_calx (n := p.1.toNat) (y := m 44 _ (p.1.toNat)) rfl rfl (Nat.le_of_ble_eq_true rfl) rfl (by first | decide | assumption | (simp only [cnt]; omega)) (by omega) (by simp only [aln]; omega) rfl ?_
    refine m_goto (tgt := 24) rfl rfl rfl ?_
    refine m_iret rfl rfl rfl (Nat.le_of_ble_eq_true rfl) (Nat.le_of_ble_eq_true rfl) ?_
    unfold sgn
    first | (rw [if_pos (by omega)]; exact ⟨rfl, rfl⟩) | (rw [if_neg (by omega)]; exact ⟨rfl, rfl⟩)

set_option maxRecDepth 10000 in
theorem c_take {l : Launch} {G : zkG} (hl : l.stackTraces = false) {m : zkM} {p : Int × Int} {c : Int} (hT : txA m) (hp : txP p) (hc : inR c) : zkCt l G i_Mo_take 1 0 0 [vr 7 0, vi c] (zC m p) (zkR0 (zC m (tk m c p))) := by
  refine zkCt_of hl ok_Mo_take (by decide +kernel) rfl rfl (List.forall_mem_cons.mpr ⟨rfl, (List.forall_mem_cons.mpr ⟨rfl, fun _ h => nomatch h⟩)⟩) (Nat.le_of_ble_eq_true rfl) ?_
  obtain ⟨p1, p2⟩ := hp
  have hs := sgn_b hT p1.1
  refine m_aload_n rfl rfl rfl ?_
  refine m_gix (k := 31) (x := p.2) rfl rfl (Nat.le_of_ble_eq_true rfl) rfl rfl (by first | decide | assumption | (simp only [cnt]; omega)) rfl ?_
  refine m_iconst rfl rfl ?_
  refine m_icmp_ne (tgt := 29) rfl rfl rfl (by omega) (by omega) (fun c5 => ?_) (fun c5 => ?_)
  · refine m_aload_n rfl rfl rfl ?_
    refine m_aload_n rfl rfl rfl ?_
    refine m_gix (k := 31) (x := p.2) rfl rfl (Nat.le_of_ble_eq_true rfl) rfl rfl (by first | decide | assumption | (simp only [cnt]; omega)) rfl ?_
    refine m_iconst rfl rfl ?_
    refine m_icmp_ne (tgt := 45) rfl rfl rfl (by omega) (by omega) (fun c35 => ?_) (fun c35 => ?_)
    · refine m_aload_n rfl rfl rfl ?_
      refine m_gix (k := 31) (x := p.2) rfl rfl (Nat.le_of_ble_eq_true rfl) rfl rfl (by first | decide | assumption | (simp only [cnt]; omega)) rfl ?_
      refine m_pi (k := 31) rfl rfl (Nat.le_of_ble_eq_true rfl) rfl rfl rfl rfl (by first | decide | assumption | (simp only [cnt]; omega)) ?_
      refine m_vret rfl rfl rfl (Nat.le_of_ble_eq_true rfl) (Nat.le_of_ble_eq_true rfl) ?_
      refine ⟨rfl, ?_⟩
      unfold tk
      first | (rw [if_pos (by omega)]; exact zC_30 _ _ _) | (rw [if_neg (by omega)]; first | (rw [if_pos (by omega)]; exact zC_31 _ _ _) | (rw [if_neg (by omega)]; exact zC_31 _ _ _))
    · refine m_aload_n rfl rfl rfl ?_
      refine m_gix (k := 30) (x := p.1) rfl rfl (Nat.le_of_ble_eq_true rfl) rfl rfl (by first | decide | assumption | (simp only [cnt]; omega)) rfl ?_
      refine m_goto (tgt := 49) rfl rfl rfl ?_
      refine m_pi (k := 31) rfl rfl (Nat.le_of_ble_eq_true rfl) rfl rfl rfl rfl (by first | decide | assumption | (simp only [cnt]; omega)) ?_
      refine m_vret rfl rfl rfl (Nat.le_of_ble_eq_true rfl) (Nat.le_of_ble_eq_true rfl) ?_
      refine ⟨rfl, ?_⟩
      unfold tk
      first | (rw [if_pos (by omega)]; exact zC_30 _ _ _) | (rw [if_neg (by omega)]; first | (rw [if_pos (by omega)]; exact zC_31 _ _ _) | (rw [if_neg (by omega)]; exact zC_31 _ _ _))
  · refine m_aload_n rfl rfl rfl ?_
    refine m_cv1 rfl rfl lk_7_230 (c_sign hl hT (by omega)) rfl (by first | decide | assumption | (simp only [cnt]; omega)) (Nat.le_of_ble_eq_true rfl) rfl rfl (Nat.le_of_ble_eq_true rfl) (Nat.le_of_ble_eq_true rfl) (Nat.le_of_ble_eq_true rfl) (Nat.le_of_ble_eq_true rfl) (Nat.le_of_ble_eq_true rfl) ?_
    refine m_iload_n rfl rfl rfl ?_
    refine m_icmp_ne (tgt := 29) rfl rfl rfl (by omega) (by omega) (fun c13 => ?_) (fun c13 => ?_)
    · refine m_aload_n rfl rfl rfl ?_
      refine m_aload_n rfl rfl rfl ?_
      refine m_gix (k := 31) (x := p.2) rfl rfl (Nat.le_of_ble_eq_true rfl) rfl rfl (by first | decide | assumption | (simp only [cnt]; omega)) rfl ?_
      refine m_iconst rfl rfl ?_
      refine m_icmp_ne (tgt := 45) rfl rfl rfl (by omega) (by omega) (fun c35 => ?_) (fun c35 => ?_)
      · refine m_aload_n rfl rfl rfl ?_
        refine m_gix (k := 31) (x := p.2) rfl rfl (Nat.le_of_ble_eq_true rfl) rfl rfl (by first | decide | assumption | (simp only [cnt]; omega)) rfl ?_
        refine m_pi (k := 31) rfl rfl (Nat.le_of_ble_eq_true rfl) rfl rfl rfl rfl (by first | decide | assumption | (simp only [cnt]; omega)) ?_
        refine m_vret rfl rfl rfl (Nat.le_of_ble_eq_true rfl) (Nat.le_of_ble_eq_true rfl) ?_
        refine ⟨rfl, ?_⟩
        unfold tk
        first | (rw [if_pos (by omega)]; exact zC_30 _ _ _) | (rw [if_neg (by omega)]; first | (rw [if_pos (by omega)]; exact zC_31 _ _ _) | (rw [if_neg (by omega)]; exact zC_31 _ _ _))
      · refine m_aload_n rfl rfl rfl ?_
        refine m_gix (k := 30) (x := p.1) rfl rfl (Nat.le_of_ble_eq_true rfl) rfl rfl (by first | decide | assumption | (simp only [cnt]; omega)) rfl ?_
        refine m_goto (tgt := 49) rfl rfl rfl ?_
        refine m_pi (k := 31) rfl rfl (Nat.le_of_ble_eq_true rfl) rfl rfl rfl rfl (by first | decide | assumption | (simp only [cnt]; omega)) ?_
        refine m_vret rfl rfl rfl (Nat.le_of_ble_eq_true rfl) (Nat.le_of_ble_eq_true rfl) ?_
        refine ⟨rfl, ?_⟩
        unfold tk
        first | (rw [if_pos (by omega)]; exact zC_30 _ _ _) | (rw [if_neg (by omega)]; first | (rw [if_pos (by omega)]; exact zC_31 _ _ _) | (rw [if_neg (by omega)]; exact zC_31 _ _ _))
    · refine m_aload_n rfl rfl rfl ?_
      refine m_dup rfl rfl rfl ?_
      refine m_gix (k := 30) (x := p.1) rfl rfl (Nat.le_of_ble_eq_true rfl) rfl rfl (by first | decide | assumption | (simp only [cnt]; omega)) rfl ?_
      refine m_iconst rfl rfl ?_
      refine m_iadd rfl rfl ?_
      refine m_pi (k := 30) rfl rfl (Nat.le_of_ble_eq_true rfl) rfl rfl rfl rfl (by first | decide | assumption | (simp only [cnt]; omega)) ?_
      refine m_goto (tgt := 52) rfl rfl rfl ?_
      refine m_vret rfl rfl rfl (Nat.le_of_ble_eq_true rfl) (Nat.le_of_ble_eq_true rfl) ?_
      refine ⟨rfl, ?_⟩
      unfold tk
      first | (rw [if_pos (by omega)]; exact zC_30 _ _ _) | (rw [if_neg (by omega)]; first | (rw [if_pos (by omega)]; exact zC_31 _ _ _) | (rw [if_neg (by omega)]; exact zC_31 _ _ _))

set_option maxRecDepth 10000 in
theorem c_takeAll {l : Launch} {G : zkG} (hl : l.stackTraces = false) {m : zkM} {p : Int × Int} {a b c d e f g : Int} (hT : txA m) (hp : txP p) (ha : 0 ≤ a ∧ a ≤ 200) (hb : 0 ≤ b ∧ b ≤ 200) (hc : 0 ≤ c ∧ c ≤ 200) (hd : 0 ≤ d ∧ d ≤ 200) (he : 0 ≤ e ∧ e ≤ 200) (hf : 0 ≤ f ∧ f ≤ 200) (hg : 0 ≤ g ∧ g ≤ 200) : zkCt l G i_Mo_takeAll 2 0 0 [vr 7 0, vi a, vi b, vi c, vi d, vi e, vi f, vi g] (zC m p) (zkR0 (zC m (tks m [a, b, c, d, e, f, g] p))) := by
  refine zkCt_of hl ok_Mo_takeAll (by decide +kernel) rfl rfl (List.forall_mem_cons.mpr ⟨rfl, (List.forall_mem_cons.mpr ⟨rfl, (List.forall_mem_cons.mpr ⟨rfl, (List.forall_mem_cons.mpr ⟨rfl, (List.forall_mem_cons.mpr ⟨rfl, (List.forall_mem_cons.mpr ⟨rfl, (List.forall_mem_cons.mpr ⟨rfl, (List.forall_mem_cons.mpr ⟨rfl, fun _ h => nomatch h⟩)⟩)⟩)⟩)⟩)⟩)⟩)⟩) (Nat.le_of_ble_eq_true rfl) ?_
  have q1 := tk_b hT ha.1 hp
  have q2 := tk_b hT hb.1 q1
  have q3 := tk_b hT hc.1 q2
  have q4 := tk_b hT hd.1 q3
  have q5 := tk_b hT he.1 q4
  have q6 := tk_b hT hf.1 q5
  refine m_aload_n rfl rfl rfl ?_
  refine m_iload_n rfl rfl rfl ?_
  refine m_cv0 rfl rfl lk_7_233 (c_take hl hT (by assumption) (by omega)) rfl (by first | decide | assumption | (simp only [cnt]; omega)) (Nat.le_of_ble_eq_true rfl) rfl rfl (Nat.le_of_ble_eq_true rfl) (Nat.le_of_ble_eq_true rfl) (Nat.le_of_ble_eq_true rfl) (Nat.le_of_ble_eq_true rfl) (Nat.le_of_ble_eq_true rfl) ?_
  refine m_aload_n rfl rfl rfl ?_
  refine m_iload_n rfl rfl rfl ?_
  refine m_cv0 rfl rfl lk_7_233 (c_take hl hT (by assumption) (by omega)) rfl (by first | decide | assumption | (simp only [cnt]; omega)) (Nat.le_of_ble_eq_true rfl) rfl rfl (Nat.le_of_ble_eq_true rfl) (Nat.le_of_ble_eq_true rfl) (Nat.le_of_ble_eq_true rfl) (Nat.le_of_ble_eq_true rfl) (Nat.le_of_ble_eq_true rfl) ?_
  refine m_aload_n rfl rfl rfl ?_
  refine m_iload_n rfl rfl rfl ?_
  refine m_cv0 rfl rfl lk_7_233 (c_take hl hT (by assumption) (by omega)) rfl (by first | decide | assumption | (simp only [cnt]; omega)) (Nat.le_of_ble_eq_true rfl) rfl rfl (Nat.le_of_ble_eq_true rfl) (Nat.le_of_ble_eq_true rfl) (Nat.le_of_ble_eq_true rfl) (Nat.le_of_ble_eq_true rfl) (Nat.le_of_ble_eq_true rfl) ?_
  refine m_aload_n rfl rfl rfl ?_
  refine m_iload rfl rfl rfl ?_
  refine m_cv0 rfl rfl lk_7_233 (c_take hl hT (by assumption) (by omega)) rfl (by first | decide | assumption | (simp only [cnt]; omega)) (Nat.le_of_ble_eq_true rfl) rfl rfl (Nat.le_of_ble_eq_true rfl) (Nat.le_of_ble_eq_true rfl) (Nat.le_of_ble_eq_true rfl) (Nat.le_of_ble_eq_true rfl) (Nat.le_of_ble_eq_true rfl) ?_
  refine m_aload_n rfl rfl rfl ?_
  refine m_iload rfl rfl rfl ?_
  refine m_cv0 rfl rfl lk_7_233 (c_take hl hT (by assumption) (by omega)) rfl (by first | decide | assumption | (simp only [cnt]; omega)) (Nat.le_of_ble_eq_true rfl) rfl rfl (Nat.le_of_ble_eq_true rfl) (Nat.le_of_ble_eq_true rfl) (Nat.le_of_ble_eq_true rfl) (Nat.le_of_ble_eq_true rfl) (Nat.le_of_ble_eq_true rfl) ?_
  refine m_aload_n rfl rfl rfl ?_
  refine m_iload rfl rfl rfl ?_
  refine m_cv0 rfl rfl lk_7_233 (c_take hl hT (by assumption) (by omega)) rfl (by first | decide | assumption | (simp only [cnt]; omega)) (Nat.le_of_ble_eq_true rfl) rfl rfl (Nat.le_of_ble_eq_true rfl) (Nat.le_of_ble_eq_true rfl) (Nat.le_of_ble_eq_true rfl) (Nat.le_of_ble_eq_true rfl) (Nat.le_of_ble_eq_true rfl) ?_
  refine m_aload_n rfl rfl rfl ?_
  refine m_iload rfl rfl rfl ?_
  refine m_cv0 rfl rfl lk_7_233 (c_take hl hT (by assumption) (by omega)) rfl (by first | decide | assumption | (simp only [cnt]; omega)) (Nat.le_of_ble_eq_true rfl) rfl rfl (Nat.le_of_ble_eq_true rfl) (Nat.le_of_ble_eq_true rfl) (Nat.le_of_ble_eq_true rfl) (Nat.le_of_ble_eq_true rfl) (Nat.le_of_ble_eq_true rfl) ?_
  refine m_vret rfl rfl rfl (Nat.le_of_ble_eq_true rfl) (Nat.le_of_ble_eq_true rfl) ?_
  exact ⟨rfl, rfl⟩

def nmf (m : zkM) : Nat → Int → Int → Int → Int × Int × Int
  | 0, a, n, d => (a, n, d)
  | r + 1, a, n, d => if (48 ≤ sgn m a ∧ sgn m a ≤ 57) ∧ (d = 0 ∨ 0 < n) then nmf m r (a + 1) (10 * n + sgn m a - 48) (d + 1) else (a, n, d)
theorem nmf_s (m : zkM) (r : Nat) (a n d : Int) : nmf m (r + 1) a n d = if (48 ≤ sgn m a ∧ sgn m a ≤ 57) ∧ (d = 0 ∨ 0 < n) then nmf m r (a + 1) (10 * n + sgn m a - 48) (d + 1) else (a, n, d) := rfl
def num (m : zkM) (p : Int × Int) : Int × Int × Int := if (tk m 32 p).2 = -1 then ((nmf m 3 (tk m 32 p).1 0 0).2.1, (nmf m 3 (tk m 32 p).1 0 0).1, if (nmf m 3 (tk m 32 p).1 0 0).2.2 = 0 then (nmf m 3 (tk m 32 p).1 0 0).1 else -1) else (0, tk m 32 p)
theorem nmf_b {m : zkM} (h : txA m) : ∀ (r : Nat) (a n d : Int), r + d = 3 → 0 ≤ d → (0 ≤ a ∧ a ≤ 60) → (0 ≤ n ∧ n ≤ 999) → (d = 0 → n = 0) → (d = 1 → n ≤ 9) → (d = 2 → n ≤ 99) → (0 ≤ (nmf m r a n d).1 ∧ (nmf m r a n d).1 ≤ 60) ∧ (0 ≤ (nmf m r a n d).2.1 ∧ (nmf m r a n d).2.1 ≤ 999) ∧ (0 ≤ (nmf m r a n d).2.2 ∧ (nmf m r a n d).2.2 ≤ 3)
  | 0, a, n, d, h1, h2, h3, h4, _, _, _ => by unfold nmf; dsimp only; omega
  | r + 1, a, n, d, h1, h2, h3, h4, h5, h6, h7 => by
    unfold nmf
    have hs := sgn_b h h3.1
    split
    · exact nmf_b h r _ _ _ (by omega) (by omega) (by omega) (by omega) (by omega) (by omega) (by omega)
    · dsimp only; omega
theorem num_b {m : zkM} (h : txA m) {p : Int × Int} (hp : txP p) : txP (num m p).2 ∧ 0 ≤ (num m p).1 ∧ (num m p).1 ≤ 999 := by
  have h1 := tk_b h (c := 32) (by omega) hp
  unfold num txP
  split
  · have h2 := nmf_b h 3 (tk m 32 p).1 0 0 (by omega) (by omega) h1.1 (by omega) (by omega) (by omega) (by omega)
    dsimp only
    split <;> omega
  · exact ⟨h1, by dsimp only; omega⟩
set_option maxRecDepth 10000 in
theorem w_number {l : Launch} {G : zkG} {m : zkM} {p : Int × Int} (hl : l.stackTraces = false) (hT : txA m) (hq : (tk m 32 p).2 = -1) : ∀ (r : Nat) (a n d : Int), r + d = 3 → 0 ≤ d → (0 ≤ a ∧ a ≤ 60) → (0 ≤ n ∧ n ≤ 999) → (d = 0 → n = 0) → (d = 1 → n ≤ 9) → (d = 2 → n ≤ 99) → nmf m 3 (tk m 32 p).1 0 0 = nmf m r a n d → zkW l G i_Mo_number (zkKm G 2 0 0 (zkR1 (vi (num m p).1) (zC m (num m p).2))) 0 0 10 [some (vr 7 0), some (vi n), some (vi d)] [] (zC m (a, -1)) := by
  intro r
  induction r with
  | zero =>
    intro a n d h1 h2 h3 h4 h5 h6 h7 h8
    have hs := sgn_b hT h3.1
    rw [show nmf m 0 a n d = (a, n, d) from rfl] at h8
    refine m_aload_n rfl rfl rfl ?_
    refine m_gix (k := 31) (x := (-1)) rfl rfl (Nat.le_of_ble_eq_true rfl) rfl rfl (by first | decide | assumption | (simp only [cnt]; omega)) rfl ?_
    refine m_iconst rfl rfl ?_
    refine m_icmp_ne (tgt := 74) rfl rfl rfl (by omega) (by omega) (fun c15 => ?_) (fun c15 => ?_)
    · exfalso; omega
    · refine m_iload_n rfl rfl rfl ?_
      refine m_iconst rfl rfl ?_
      refine m_icmp_ge (tgt := 74) rfl rfl rfl (by omega) (by omega) (fun c20 => ?_) (fun c20 => ?_)
      · refine m_aload_n rfl rfl rfl ?_
        refine m_aload_n rfl rfl rfl ?_
        refine m_gix (k := 31) (x := (-1)) rfl rfl (Nat.le_of_ble_eq_true rfl) rfl rfl (by first | decide | assumption | (simp only [cnt]; omega)) rfl ?_
        refine m_iconst rfl rfl ?_
        refine m_icmp_ne (tgt := 94) rfl rfl rfl (by omega) (by omega) (fun c80 => ?_) (fun c80 => ?_)
        · exfalso; omega
        · refine m_iload_n rfl rfl rfl ?_
          refine m_if_ne (tgt := 94) rfl rfl rfl (by omega) (fun c84 => ?_) (fun c84 => ?_)
          · refine m_aload_n rfl rfl rfl ?_
            refine m_gix (k := 31) (x := (-1)) rfl rfl (Nat.le_of_ble_eq_true rfl) rfl rfl (by first | decide | assumption | (simp only [cnt]; omega)) rfl ?_
            refine m_pi (k := 31) rfl rfl (Nat.le_of_ble_eq_true rfl) rfl rfl rfl rfl (by first | decide | assumption | (simp only [cnt]; omega)) ?_
            refine m_iload_n rfl rfl rfl ?_
            refine m_iret rfl rfl rfl (Nat.le_of_ble_eq_true rfl) (Nat.le_of_ble_eq_true rfl) ?_
            unfold num
            rw [if_pos hq, h8]
            first | (rw [if_pos (by dsimp only; omega)]; exact ⟨rfl, zC_31 _ _ _⟩) | (rw [if_neg (by dsimp only; omega)]; exact ⟨rfl, zC_31 _ _ _⟩)
          · refine m_aload_n rfl rfl rfl ?_
            refine m_gix (k := 30) (x := a) rfl rfl (Nat.le_of_ble_eq_true rfl) rfl rfl (by first | decide | assumption | (simp only [cnt]; omega)) rfl ?_
            refine m_goto (tgt := 98) rfl rfl rfl ?_
            refine m_pi (k := 31) rfl rfl (Nat.le_of_ble_eq_true rfl) rfl rfl rfl rfl (by first | decide | assumption | (simp only [cnt]; omega)) ?_
            refine m_iload_n rfl rfl rfl ?_
            refine m_iret rfl rfl rfl (Nat.le_of_ble_eq_true rfl) (Nat.le_of_ble_eq_true rfl) ?_
            unfold num
            rw [if_pos hq, h8]
            first | (rw [if_pos (by dsimp only; omega)]; exact ⟨rfl, zC_31 _ _ _⟩) | (rw [if_neg (by dsimp only; omega)]; exact ⟨rfl, zC_31 _ _ _⟩)
      · exfalso; omega
  | succ r ih =>
    intro a n d h1 h2 h3 h4 h5 h6 h7 h8
    have hs := sgn_b hT h3.1
    refine m_aload_n rfl rfl rfl ?_
    refine m_gix (k := 31) (x := (-1)) rfl rfl (Nat.le_of_ble_eq_true rfl) rfl rfl (by first | decide | assumption | (simp only [cnt]; omega)) rfl ?_
    refine m_iconst rfl rfl ?_
    refine m_icmp_ne (tgt := 74) rfl rfl rfl (by omega) (by omega) (fun c15 => ?_) (fun c15 => ?_)
    · exfalso; omega
    · refine m_iload_n rfl rfl rfl ?_
      refine m_iconst rfl rfl ?_
      refine m_icmp_ge (tgt := 74) rfl rfl rfl (by omega) (by omega) (fun c20 => ?_) (fun c20 => ?_)
      · exfalso; omega
      · refine m_aload_n rfl rfl rfl ?_
        refine m_cv1 rfl rfl lk_7_230 (show zkCt l G i_Mo_sign _ 0 0 _ _ (zkR1 (vi (sgn m a)) _) from c_sign (p := (a, -1)) hl hT (by dsimp only; omega)) rfl (by first | decide | assumption | (simp only [cnt]; omega)) (Nat.le_of_ble_eq_true rfl) rfl rfl (Nat.le_of_ble_eq_true rfl) (Nat.le_of_ble_eq_true rfl) (Nat.le_of_ble_eq_true rfl) (Nat.le_of_ble_eq_true rfl) (Nat.le_of_ble_eq_true rfl) ?_
        refine m_bipush rfl rfl (by decide) ?_
        refine m_bipush rfl rfl (by decide) ?_
        refine m_cs1 rfl rfl lk_7_75 (c_isIn hl (by omega) (by omega) (by omega)) rfl rfl (Nat.le_of_ble_eq_true rfl) (Nat.le_of_ble_eq_true rfl) (Nat.le_of_ble_eq_true rfl) (Nat.le_of_ble_eq_true rfl) (Nat.le_of_ble_eq_true rfl) ?_
        refine m_if_eq_d (tgt := 74) rfl rfl rfl (fun c34 => ?_) (fun c34 => ?_)
        · refine m_aload_n rfl rfl rfl ?_
          refine m_aload_n rfl rfl rfl ?_
          refine m_gix (k := 31) (x := (-1)) rfl rfl (Nat.le_of_ble_eq_true rfl) rfl rfl (by first | decide | assumption | (simp only [cnt]; omega)) rfl ?_
          refine m_iconst rfl rfl ?_
          refine m_icmp_ne (tgt := 94) rfl rfl rfl (by omega) (by omega) (fun c80 => ?_) (fun c80 => ?_)
          · exfalso; omega
          · refine m_iload_n rfl rfl rfl ?_
            refine m_if_ne (tgt := 94) rfl rfl rfl (by omega) (fun c84 => ?_) (fun c84 => ?_)
            · refine m_aload_n rfl rfl rfl ?_
              refine m_gix (k := 31) (x := (-1)) rfl rfl (Nat.le_of_ble_eq_true rfl) rfl rfl (by first | decide | assumption | (simp only [cnt]; omega)) rfl ?_
              refine m_pi (k := 31) rfl rfl (Nat.le_of_ble_eq_true rfl) rfl rfl rfl rfl (by first | decide | assumption | (simp only [cnt]; omega)) ?_
              refine m_iload_n rfl rfl rfl ?_
              refine m_iret rfl rfl rfl (Nat.le_of_ble_eq_true rfl) (Nat.le_of_ble_eq_true rfl) ?_
              rw [nmf_s m r a n d, if_neg (by omega)] at h8
              unfold num
              rw [if_pos hq, h8]
              first | (rw [if_pos (by dsimp only; omega)]; exact ⟨rfl, zC_31 _ _ _⟩) | (rw [if_neg (by dsimp only; omega)]; exact ⟨rfl, zC_31 _ _ _⟩)
            · refine m_aload_n rfl rfl rfl ?_
              refine m_gix (k := 30) (x := a) rfl rfl (Nat.le_of_ble_eq_true rfl) rfl rfl (by first | decide | assumption | (simp only [cnt]; omega)) rfl ?_
              refine m_goto (tgt := 98) rfl rfl rfl ?_
              refine m_pi (k := 31) rfl rfl (Nat.le_of_ble_eq_true rfl) rfl rfl rfl rfl (by first | decide | assumption | (simp only [cnt]; omega)) ?_
              refine m_iload_n rfl rfl rfl ?_
              refine m_iret rfl rfl rfl (Nat.le_of_ble_eq_true rfl) (Nat.le_of_ble_eq_true rfl) ?_
              rw [nmf_s m r a n d, if_neg (by omega)] at h8
              unfold num
              rw [if_pos hq, h8]
              first | (rw [if_pos (by dsimp only; omega)]; exact ⟨rfl, zC_31 _ _ _⟩) | (rw [if_neg (by dsimp only; omega)]; exact ⟨rfl, zC_31 _ _ _⟩)
        · refine m_iload_n rfl rfl rfl ?_
          refine m_if_eq (tgt := 45) rfl rfl rfl (by omega) (fun c38 => ?_) (fun c38 => ?_)
          · refine m_bipush rfl rfl (by decide) ?_
            refine m_iload_n rfl rfl rfl ?_
            refine m_imul rfl rfl ?_
            refine m_aload_n rfl rfl rfl ?_
            refine m_cv1 rfl rfl lk_7_230 (show zkCt l G i_Mo_sign _ 0 0 _ _ (zkR1 (vi (sgn m a)) _) from c_sign (p := (a, -1)) hl hT (by dsimp only; omega)) rfl (by first | decide | assumption | (simp only [cnt]; omega)) (Nat.le_of_ble_eq_true rfl) rfl rfl (Nat.le_of_ble_eq_true rfl) (Nat.le_of_ble_eq_true rfl) (Nat.le_of_ble_eq_true rfl) (Nat.le_of_ble_eq_true rfl) (Nat.le_of_ble_eq_true rfl) ?_
            refine m_iadd rfl rfl ?_
            refine m_bipush rfl rfl (by decide) ?_
            refine m_isub rfl rfl ?_
            refine m_istore_n rfl rfl (Nat.le_of_ble_eq_true rfl) rfl ?_
            refine m_iinc rfl rfl rfl (Nat.le_of_ble_eq_true rfl) rfl ?_
            refine m_aload_n rfl rfl rfl ?_
            refine m_dup rfl rfl rfl ?_
            refine m_gix (k := 30) (x := a) rfl rfl (Nat.le_of_ble_eq_true rfl) rfl rfl (by first | decide | assumption | (simp only [cnt]; omega)) rfl ?_
            refine m_iconst rfl rfl ?_
            refine m_iadd rfl rfl ?_
            refine m_pi (k := 30) rfl rfl (Nat.le_of_ble_eq_true rfl) rfl rfl rfl rfl (by first | decide | assumption | (simp only [cnt]; omega)) ?_
            refine m_goto (tgt := 10) rfl rfl rfl ?_
            rw [zC_30]
            rw [nmf_s m r a n d, if_pos (by omega)] at h8
            exact ih (a + 1) _ (d + 1) (by omega) (by omega) (by omega) (by omega) (by omega) (by omega) (by omega) h8
          · refine m_iload_n rfl rfl rfl ?_
            refine m_if_le (tgt := 74) rfl rfl rfl (by omega) (fun c42 => ?_) (fun c42 => ?_)
            · refine m_aload_n rfl rfl rfl ?_
              refine m_aload_n rfl rfl rfl ?_
              refine m_gix (k := 31) (x := (-1)) rfl rfl (Nat.le_of_ble_eq_true rfl) rfl rfl (by first | decide | assumption | (simp only [cnt]; omega)) rfl ?_
              refine m_iconst rfl rfl ?_
              refine m_icmp_ne (tgt := 94) rfl rfl rfl (by omega) (by omega) (fun c80 => ?_) (fun c80 => ?_)
              · exfalso; omega
              · refine m_iload_n rfl rfl rfl ?_
                refine m_if_ne (tgt := 94) rfl rfl rfl (by omega) (fun c84 => ?_) (fun c84 => ?_)
                · refine m_aload_n rfl rfl rfl ?_
                  refine m_gix (k := 31) (x := (-1)) rfl rfl (Nat.le_of_ble_eq_true rfl) rfl rfl (by first | decide | assumption | (simp only [cnt]; omega)) rfl ?_
                  refine m_pi (k := 31) rfl rfl (Nat.le_of_ble_eq_true rfl) rfl rfl rfl rfl (by first | decide | assumption | (simp only [cnt]; omega)) ?_
                  refine m_iload_n rfl rfl rfl ?_
                  refine m_iret rfl rfl rfl (Nat.le_of_ble_eq_true rfl) (Nat.le_of_ble_eq_true rfl) ?_
                  rw [nmf_s m r a n d, if_neg (by omega)] at h8
                  unfold num
                  rw [if_pos hq, h8]
                  first | (rw [if_pos (by dsimp only; omega)]; exact ⟨rfl, zC_31 _ _ _⟩) | (rw [if_neg (by dsimp only; omega)]; exact ⟨rfl, zC_31 _ _ _⟩)
                · refine m_aload_n rfl rfl rfl ?_
                  refine m_gix (k := 30) (x := a) rfl rfl (Nat.le_of_ble_eq_true rfl) rfl rfl (by first | decide | assumption | (simp only [cnt]; omega)) rfl ?_
                  refine m_goto (tgt := 98) rfl rfl rfl ?_
                  refine m_pi (k := 31) rfl rfl (Nat.le_of_ble_eq_true rfl) rfl rfl rfl rfl (by first | decide | assumption | (simp only [cnt]; omega)) ?_
                  refine m_iload_n rfl rfl rfl ?_
                  refine m_iret rfl rfl rfl (Nat.le_of_ble_eq_true rfl) (Nat.le_of_ble_eq_true rfl) ?_
                  rw [nmf_s m r a n d, if_neg (by omega)] at h8
                  unfold num
                  rw [if_pos hq, h8]
                  first | (rw [if_pos (by dsimp only; omega)]; exact ⟨rfl, zC_31 _ _ _⟩) | (rw [if_neg (by dsimp only; omega)]; exact ⟨rfl, zC_31 _ _ _⟩)
            · refine m_bipush rfl rfl (by decide) ?_
              refine m_iload_n rfl rfl rfl ?_
              refine m_imul rfl rfl ?_
              refine m_aload_n rfl rfl rfl ?_
              refine m_cv1 rfl rfl lk_7_230 (show zkCt l G i_Mo_sign _ 0 0 _ _ (zkR1 (vi (sgn m a)) _) from c_sign (p := (a, -1)) hl hT (by dsimp only; omega)) rfl (by first | decide | assumption | (simp only [cnt]; omega)) (Nat.le_of_ble_eq_true rfl) rfl rfl (Nat.le_of_ble_eq_true rfl) (Nat.le_of_ble_eq_true rfl) (Nat.le_of_ble_eq_true rfl) (Nat.le_of_ble_eq_true rfl) (Nat.le_of_ble_eq_true rfl) ?_
              refine m_iadd rfl rfl ?_
              refine m_bipush rfl rfl (by decide) ?_
              refine m_isub rfl rfl ?_
              refine m_istore_n rfl rfl (Nat.le_of_ble_eq_true rfl) rfl ?_
              refine m_iinc rfl rfl rfl (Nat.le_of_ble_eq_true rfl) rfl ?_
              refine m_aload_n rfl rfl rfl ?_
              refine m_dup rfl rfl rfl ?_
              refine m_gix (k := 30) (x := a) rfl rfl (Nat.le_of_ble_eq_true rfl) rfl rfl (by first | decide | assumption | (simp only [cnt]; omega)) rfl ?_
              refine m_iconst rfl rfl ?_
              refine m_iadd rfl rfl ?_
              refine m_pi (k := 30) rfl rfl (Nat.le_of_ble_eq_true rfl) rfl rfl rfl rfl (by first | decide | assumption | (simp only [cnt]; omega)) ?_
              refine m_goto (tgt := 10) rfl rfl rfl ?_
              rw [zC_30]
              rw [nmf_s m r a n d, if_pos (by omega)] at h8
              exact ih (a + 1) _ (d + 1) (by omega) (by omega) (by omega) (by omega) (by omega) (by omega) (by omega) h8

set_option maxRecDepth 10000 in
theorem c_number {l : Launch} {G : zkG} (hl : l.stackTraces = false) {m : zkM} {p : Int × Int} (hT : txA m) (hp : txP p) : zkCt l G i_Mo_number 2 0 0 [vr 7 0] (zC m p) (zkR1 (vi (num m p).1) (zC m (num m p).2)) := by
  refine zkCt_of hl ok_Mo_number (by decide +kernel) rfl rfl (List.forall_mem_cons.mpr ⟨rfl, fun _ h => nomatch h⟩) (Nat.le_of_ble_eq_true rfl) ?_
  have hq := tk_b hT (c := 32) (by omega) hp
  refine m_aload_n rfl rfl rfl ?_
  refine m_bipush rfl rfl (by decide) ?_
  refine m_cv0 rfl rfl lk_7_233 (c_take hl hT (by assumption) (by omega)) rfl (by first | decide | assumption | (simp only [cnt]; omega)) (Nat.le_of_ble_eq_true rfl) rfl rfl (Nat.le_of_ble_eq_true rfl) (Nat.le_of_ble_eq_true rfl) (Nat.le_of_ble_eq_true rfl) (Nat.le_of_ble_eq_true rfl) (Nat.le_of_ble_eq_true rfl) ?_
  refine m_iconst rfl rfl ?_
  refine m_istore_n rfl rfl (Nat.le_of_ble_eq_true rfl) rfl ?_
  refine m_iconst rfl rfl ?_
  refine m_istore_n rfl rfl (Nat.le_of_ble_eq_true rfl) rfl ?_
  by_cases hz : (tk m 32 p).2 = -1
  · have e9 : tk m 32 p = ((tk m 32 p).1, -1) := by rw [← hz]
    rw [e9]
    exact w_number hl hT hz 3 (tk m 32 p).1 0 0 (by omega) (by omega) hq.1 (by omega) (by omega) (by omega) (by omega) rfl
  · obtain ⟨g1, g2⟩ := hq
    refine m_aload_n rfl rfl rfl ?_
    refine m_gix (k := 31) (x := (tk m 32 p).2) rfl rfl (Nat.le_of_ble_eq_true rfl) rfl rfl (by first | decide | assumption | (simp only [cnt]; omega)) rfl ?_
    refine m_iconst rfl rfl ?_
    refine m_icmp_ne (tgt := 74) rfl rfl rfl (by omega) (by omega) (fun c15 => ?_) (fun c15 => ?_)
    · refine m_aload_n rfl rfl rfl ?_
      refine m_aload_n rfl rfl rfl ?_
      refine m_gix (k := 31) (x := (tk m 32 p).2) rfl rfl (Nat.le_of_ble_eq_true rfl) rfl rfl (by first | decide | assumption | (simp only [cnt]; omega)) rfl ?_
      refine m_iconst rfl rfl ?_
      refine m_icmp_ne (tgt := 94) rfl rfl rfl (by omega) (by omega) (fun c80 => ?_) (fun c80 => ?_)
      · refine m_aload_n rfl rfl rfl ?_
        refine m_gix (k := 31) (x := (tk m 32 p).2) rfl rfl (Nat.le_of_ble_eq_true rfl) rfl rfl (by first | decide | assumption | (simp only [cnt]; omega)) rfl ?_
        refine m_pi (k := 31) rfl rfl (Nat.le_of_ble_eq_true rfl) rfl rfl rfl rfl (by first | decide | assumption | (simp only [cnt]; omega)) ?_
        refine m_iload_n rfl rfl rfl ?_
        refine m_iret rfl rfl rfl (Nat.le_of_ble_eq_true rfl) (Nat.le_of_ble_eq_true rfl) ?_
        unfold num
        rw [if_neg hz]
        exact ⟨rfl, zC_31 _ _ _⟩
      · exfalso; omega
    · exfalso; omega

