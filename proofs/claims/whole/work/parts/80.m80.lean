/-! snapshot and restore -/
abbrev tgS (t : Nat) : Prop := t = 0 ∨ t = 3 ∨ t = 4 ∨ (11 ≤ t ∧ t ≤ 18)
abbrev tgT (t : Nat) : Prop := t = 1 ∨ t = 5 ∨ (19 ≤ t ∧ t ≤ 22)
theorem cpF_gs (m : zkM) (t a b k : Nat) : ∀ (ks : List Nat) (s : zkM), ks.foldl (fun s k => mset s t a k (m t b k)) s t a k = if k ∈ ks then m t b k else s t a k
  | [], s => by simp
  | x :: ks, s => by
    rw [List.foldl_cons, cpF_gs m t a b k ks]
    by_cases e : k = x
    · subst e
      simp [mset]
    · rw [ms_k e]
      simp [e]
theorem cpF_s (m : zkM) (t a b k : Nat) (ks : List Nat) (h : k ∈ ks) : cpF m t a b ks t a k = m t b k := by
  unfold cpF
  rw [cpF_gs, if_pos h]
theorem cpR_s (m : zkM) (t a b k : Nat) (h : k < aln t) : cpR m t a b t a k = m t b k := by
  unfold cpR
  rw [mrow_s, if_pos h]
theorem taCp_at {m : zkM} {a b t k : Nat} (hab : b ≠ a) (ht : tgT t) (hk : kcp t k) : taCp m a b t a k = m t b k := by
  unfold taCp
  rcases ht with rfl | rfl | ⟨h1, h2⟩
  · rw [cpF_f (by omega)]
    unfold taCp0 joCp
    rw [cpF_s _ _ _ _ _ _ (by simp only [List.mem_cons, List.not_mem_nil, or_false]; omega), cpR_f (by omega), cpR_f (by omega), cpR_f (by omega), cpR_f (by omega)]
  · rw [cpF_s _ _ _ _ _ _ (by simp only [List.mem_cons, List.not_mem_nil, or_false]; omega), taCp0_f (Or.inr hab)]
  · have hk' : k < aln t := by omega
    rw [cpF_f (by omega)]
    unfold taCp0 joCp
    rw [cpF_f (by omega)]
    have : t = 19 ∨ t = 20 ∨ t = 21 ∨ t = 22 := by omega
    rcases this with rfl | rfl | rfl | rfl
    · rw [cpR_f (by omega), cpR_f (by omega), cpR_f (by omega), cpR_s _ _ _ _ _ hk']
    · rw [cpR_f (by omega), cpR_f (by omega), cpR_s _ _ _ _ _ hk', cpR_f (by omega)]
    · rw [cpR_s _ _ _ _ _ hk', cpR_f (by omega), cpR_f (by omega), cpR_f (by omega)]
    · rw [cpR_f (by omega), cpR_s _ _ _ _ _ hk', cpR_f (by omega), cpR_f (by omega)]
theorem beCp1_at {m : zkM} {A B : Nat} (hAB : A = 0 ∧ B = 1 ∨ A = 1 ∧ B = 0) : ∀ n : Nat, n ≤ 5 → (∀ t i k, tgT t → i < n → kcp t k → lp (beCt A B) n m t (5 * A + i) k = m t (5 * B + i) k) ∧ (∀ t i k, ¬ tgT t ∨ ¬ (5 * A ≤ i ∧ i < 5 * A + n) → lp (beCt A B) n m t i k = m t i k)
  | 0, _ => ⟨fun t i k _ hi => absurd hi (by omega), fun _ _ _ _ => rfl⟩
  | n + 1, hn => by
    obtain ⟨h1, h2⟩ := beCp1_at hAB n (by omega)
    refine ⟨fun t i k ht hi hk => ?_, fun t i k hx => ?_⟩
    · show taCp (lp (beCt A B) n m) (5 * A + n) (5 * B + n) t (5 * A + i) k = _
      by_cases e : i = n
      · subst e
        rw [taCp_at (by omega) ht hk, h2 t _ k (Or.inr (by omega))]
      · rw [taCp_f (Or.inr (by omega))]
        exact h1 t i k ht (by omega) hk
    · show taCp (lp (beCt A B) n m) (5 * A + n) (5 * B + n) t i k = _
      rw [taCp_f (by omega)]
      exact h2 t i k (by omega)
theorem beCp_at {m : zkM} {A B : Nat} (hAB : A = 0 ∧ B = 1 ∨ A = 1 ∧ B = 0) : (∀ t k, tgS t → kcp t k → beCp m A B t A k = m t B k) ∧ (∀ t i k, tgT t → i < 5 → kcp t k → beCp m A B t (5 * A + i) k = m t (5 * B + i) k) ∧ (∀ t i k, (tgS t ∧ i ≠ A) ∨ (tgT t ∧ ¬ (5 * A ≤ i ∧ i < 5 * A + 5)) ∨ (¬ tgS t ∧ ¬ tgT t) → beCp m A B t i k = m t i k) := by
  obtain ⟨h1, h2⟩ := beCp1_at (m := m) hAB 5 (Nat.le_refl 5)
  have e1 : beCp1 m A B = lp (beCt A B) 5 m := rfl
  have f1 : ∀ t i k, ¬ tgT t → beCp1 m A B t i k = m t i k := fun t i k ht => by rw [e1]; exact h2 t i k (Or.inl ht)
  refine ⟨fun t k ht hk => ?_, fun t i k ht hi hk => ?_, fun t i k hx => ?_⟩
  · unfold beCp
    rcases ht with rfl | rfl | rfl | ⟨g1, g2⟩
    · rw [cpF_s _ _ _ _ _ _ (by simp only [List.mem_cons, List.not_mem_nil, or_false]; omega)]
      unfold beCp2
      rw [cpR_f (by omega), cpR_f (by omega), rqCp_f (by omega), seCp_f (by omega), f1 0 _ _ (by omega)]
    · rw [cpF_f (by omega)]
      unfold beCp2
      rw [cpR_f (by omega), cpR_f (by omega)]
      unfold rqCp
      rw [cpF_s _ _ _ _ _ _ (by simp only [List.mem_cons, List.not_mem_nil, or_false]; omega), cpR_f (by omega), cpR_f (by omega), cpR_f (by omega), cpR_f (by omega), seCp_f (by omega), f1 3 _ _ (by omega)]
    · rw [cpF_f (by omega)]
      unfold beCp2
      rw [cpR_f (by omega), cpR_f (by omega), rqCp_f (by omega)]
      unfold seCp
      rw [cpF_s _ _ _ _ _ _ (by simp only [List.mem_cons, List.not_mem_nil, or_false]; omega), cpR_f (by omega), cpR_f (by omega), f1 4 _ _ (by omega)]
    · have hk' : k < aln t := by omega
      rw [cpF_f (by omega)]
      unfold beCp2
      have : t = 11 ∨ t = 12 ∨ t = 13 ∨ t = 14 ∨ t = 15 ∨ t = 16 ∨ t = 17 ∨ t = 18 := by omega
      rcases this with rfl | rfl | rfl | rfl | rfl | rfl | rfl | rfl
      · rw [cpR_f (by omega), cpR_f (by omega), rqCp_f (by omega)]
        unfold seCp
        rw [cpF_f (by omega), cpR_f (by omega), cpR_s _ _ _ _ _ hk', f1 11 _ _ (by omega)]
      · rw [cpR_f (by omega), cpR_f (by omega), rqCp_f (by omega)]
        unfold seCp
        rw [cpF_f (by omega), cpR_s _ _ _ _ _ hk', cpR_f (by omega), f1 12 _ _ (by omega)]
      · rw [cpR_f (by omega), cpR_f (by omega)]
        unfold rqCp
        rw [cpF_f (by omega), cpR_f (by omega), cpR_f (by omega), cpR_f (by omega), cpR_s _ _ _ _ _ hk', seCp_f (by omega), f1 13 _ _ (by omega)]
      · rw [cpR_f (by omega), cpR_f (by omega)]
        unfold rqCp
        rw [cpF_f (by omega), cpR_f (by omega), cpR_f (by omega), cpR_s _ _ _ _ _ hk', cpR_f (by omega), seCp_f (by omega), f1 14 _ _ (by omega)]
      · rw [cpR_f (by omega), cpR_f (by omega)]
        unfold rqCp
        rw [cpF_f (by omega), cpR_f (by omega), cpR_s _ _ _ _ _ hk', cpR_f (by omega), cpR_f (by omega), seCp_f (by omega), f1 15 _ _ (by omega)]
      · rw [cpR_f (by omega), cpR_f (by omega)]
        unfold rqCp
        rw [cpF_f (by omega), cpR_s _ _ _ _ _ hk', cpR_f (by omega), cpR_f (by omega), cpR_f (by omega), seCp_f (by omega), f1 16 _ _ (by omega)]
      · rw [cpR_f (by omega), cpR_s _ _ _ _ _ hk', rqCp_f (by omega), seCp_f (by omega), f1 17 _ _ (by omega)]
      · rw [cpR_s _ _ _ _ _ hk', cpR_f (by omega), rqCp_f (by omega), seCp_f (by omega), f1 18 _ _ (by omega)]
  · unfold beCp beCp2
    rw [cpF_f (by omega), cpR_f (by omega), cpR_f (by omega), rqCp_f (by omega), seCp_f (by omega), e1]
    exact h1 t i k ht hi hk
  · unfold beCp beCp2
    rw [cpF_f (by omega), cpR_f (by omega), cpR_f (by omega), rqCp_f (by omega), seCp_f (by omega), e1]
    exact h2 t i k (by omega)
/-- the memory as it was kept -/
def kpt (m : zkM) : zkM := fun t i k => if LC t i ∧ kcp t k then (if tgT t then m t (i + 5) k else m t 1 k) else if i = 0 ∧ kpos t k < 3400 then m 46 0 (kpos t k) else m t i k
theorem kpos_t {t k : Nat} (h : kpos t k < 3400) : t = 7 ∨ (30 ≤ t ∧ t ≤ 43) := by
  unfold kpos at h
  split at h
  all_goals first | exact Or.inl rfl | exact Or.inr (by decide) | omega
theorem kpt_c {m : zkM} {t i k : Nat} (h1 : LC t i) (h2 : kcp t k) : kpt m t i k = if tgT t then m t (i + 5) k else m t 1 k := by
  unfold kpt
  rw [if_pos ⟨h1, h2⟩]
theorem kpt_m {m : zkM} {t k : Nat} (h : kpos t k < 3400) : kpt m t 0 k = m 46 0 (kpos t k) := by
  have := kpos_t h
  unfold kpt
  rw [if_neg (by omega), if_pos ⟨rfl, h⟩]
theorem st_snap {m : zkM} {T : Int} (h : sR m m T) : sR (moSnp (caSnp m).2).2 (moSnp (caSnp m).2).2 T ∧ sR (kpt (moSnp (caSnp m).2).2) (kpt (moSnp (caSnp m).2).2) T ∧ (caSnp m).1 = T ∧ (moSnp (caSnp m).2).1 = T ∧ (moSnp (caSnp m).2).2 6 0 3 = 1 ∧ (moSnp (caSnp m).2).2 7 0 34 = 1 ∧ (∀ t i k, ¬ LM t i → t ≠ 46 → (moSnp (caSnp m).2).2 t i k = (caSnp m).2 t i k) ∧ (∀ k, k ≠ 0 → k ≠ 34 → k ≠ 36 → k ≠ 37 → (moSnp (caSnp m).2).2 7 0 k = m 7 0 k) ∧ (∀ t k, 30 ≤ t → t ≤ 45 → (moSnp (caSnp m).2).2 t 0 k = m t 0 k) := by
  obtain ⟨c1, c2, c3⟩ := beCp_at (m := m) (A := 1) (B := 0) (Or.inr ⟨rfl, rfl⟩)
  have k0 := snp_go (m := mset (mset (caSnp m).2 7 0 0 0) 7 0 34 1)
  have eb : (moSnp (caSnp m).2).2 = psA26 (mset (mset (caSnp m).2 7 0 0 0) 7 0 34 1) 0 := rfl
  have eb1 : (moSnp (caSnp m).2).1 = (moSnp (caSnp m).2).2 7 0 11 := rfl
  rw [← eb] at k0
  have ea : (caSnp m).2 = mset (beCp m 1 0) 6 0 3 1 := rfl
  rw [eb1]
  generalize (moSnp (caSnp m).2).2 = mb at *
  obtain ⟨k1, k2, k3, k4⟩ := k0
  have hcl : ∀ t i k, ¬ LM t i → t ≠ 46 → mb t i k = (caSnp m).2 t i k := by
    intro t i k hn h46
    rw [k1 t i k h46 (by omega)]
    simp only [mset]
    rw [if_neg (by omega), if_neg (by omega), if_neg (by omega)]
  have hm7 : ∀ k, k ≠ 0 → k ≠ 34 → k ≠ 36 → k ≠ 37 → mb 7 0 k = m 7 0 k := by
    intro k h0 h34 h36 h37
    rw [k1 7 0 k (by decide) (by omega), ms_k h37, ms_k h34, ms_k h0, ea, ms_t (by decide)]
    exact c3 7 0 k (by omega)
  have hmt : ∀ t k, 30 ≤ t → t ≤ 45 → mb t 0 k = m t 0 k := by
    intro t k h1 h2
    rw [k1 t 0 k (by omega) (by omega), ms_t (by omega), ms_t (by omega), ms_t (by omega), ea, ms_t (by omega)]
    exact c3 t 0 k (by omega)
  have hlc : ∀ t i k, LC t i → mb t i k = m t i k := by
    intro t i k hL
    rw [hcl t i k (by omega) (by omega), ea, ms_t (by omega)]
    exact c3 t i k (by omega)
  have L1 : lw m mb := fun t i k hL _ => hlc t i k hL
  have X1 : lx m mb := by
    intro t k hk
    rcases kpos_t hk with e | e
    · subst e
      refine hm7 k ?_ ?_ ?_ ?_
      · rintro rfl; exact absurd hk (by decide)
      · rintro rfl; exact absurd hk (by decide)
      · rintro rfl; exact absurd hk (by decide)
      · rintro rfl; exact absurd hk (by decide)
    · exact hmt t k e.1 (by omega)
  have S1 : sR mb mb T := sR_lw L1 X1 h
  have L2 : lw mb (kpt mb) := by
    intro t i k hL hk
    rw [kpt_c hL hk, hlc t i k hL]
    by_cases hT : tgT t
    · rw [if_pos hT, hcl t _ k (by omega) (by omega), ea, ms_t (by omega)]
      have := c2 t i k hT (by omega) hk
      rw [Nat.mul_one, Nat.mul_zero, Nat.zero_add] at this
      rw [Nat.add_comm i 5]
      exact this
    · rw [if_neg hT, hcl t _ k (by omega) (by omega), ea, ms_t (by omega)]
      have hi0 : i = 0 := by omega
      rw [hi0]
      exact c1 t k (by omega) hk
  have X2 : lx mb (kpt mb) := by
    intro t k hk
    rw [kpt_m hk, k4 t k hk]
    rcases kpos_t hk with e | e
    · subst e
      have n36 : k ≠ 36 := by rintro rfl; exact absurd hk (by decide)
      rw [k1 7 0 k (by decide) (by omega)]
    · rw [k1 t 0 k (by omega) (by omega)]
  refine ⟨S1, sR_lw L2 X2 S1, h.2.1, ?_, ?_, ?_, hcl, hm7, hmt⟩
  · rw [hm7 11 (by decide) (by decide) (by decide) (by decide)]; exact h.2.2.1
  · rw [hcl 6 0 3 (by omega) (by decide), ea, ms_s]
  · rw [k1 7 0 34 (by decide) (by decide), ms_k (by decide), ms_s]
theorem st_rst {m : zkM} {T : Int} (h : sR (kpt m) (kpt m) T) (h34 : m 7 0 34 ≠ 0) : sR (moRst (beCp m 0 1)).2 (moRst (beCp m 0 1)).2 T ∧ sR (kpt (moRst (beCp m 0 1)).2) (kpt (moRst (beCp m 0 1)).2) T ∧ beCp m 0 1 0 0 7 = T ∧ (moRst (beCp m 0 1)).1 = T ∧ (moRst (beCp m 0 1)).2 7 0 0 = 0 ∧ (∀ t i k, ¬ LM t i → t ≠ 46 → (moRst (beCp m 0 1)).2 t i k = beCp m 0 1 t i k) ∧ (∀ k, 28 ≤ k → k ≠ 36 → k ≠ 37 → (moRst (beCp m 0 1)).2 7 0 k = m 7 0 k) ∧ (∀ t k, t = 44 ∨ t = 45 → (moRst (beCp m 0 1)).2 t 0 k = m t 0 k) := by
  obtain ⟨c1, c2, c3⟩ := beCp_at (m := m) (A := 0) (B := 1) (Or.inl ⟨rfl, rfl⟩)
  have k0 := rst_go (m := mset (beCp m 0 1) 7 0 0 0)
  have e34 : beCp m 0 1 7 0 34 = m 7 0 34 := c3 7 0 34 (by omega)
  have eb : moRst (beCp m 0 1) = (psA26 (mset (beCp m 0 1) 7 0 0 0) 1 7 0 11, psA26 (mset (beCp m 0 1) 7 0 0 0) 1) := by
    unfold moRst
    rw [if_neg (by rw [e34]; exact h34)]
  rw [eb]
  simp only
  generalize psA26 (mset (beCp m 0 1) 7 0 0 0) 1 = mb at *
  obtain ⟨k1, k2, k3, k4⟩ := k0
  have hcl : ∀ t i k, ¬ LM t i → t ≠ 46 → mb t i k = beCp m 0 1 t i k := by
    intro t i k hn h46
    rw [k1 t i k h46 (by omega)]
    rw [if_neg]
    · simp only [mset]
      rw [if_neg (by omega), if_neg (by omega)]
    · rintro ⟨rfl, g⟩
      have := kpos_t g
      omega
  have h46 : ∀ x, mb 46 0 x = m 46 0 x := by
    intro x
    rw [k4, ms_t (by decide), ms_t (by decide)]
    exact c3 46 0 x (by omega)
  have hmk : ∀ t k, kpos t k < 3400 → mb t 0 k = m 46 0 (kpos t k) := by
    intro t k hk
    have hh := kpos_t hk
    have n36 : ¬ (t = 7 ∧ (0 : Nat) = 0 ∧ k = 36) := by
      rintro ⟨rfl, -, rfl⟩
      exact absurd hk (by decide)
    rw [k1 t 0 k (by omega) n36, if_pos ⟨rfl, hk⟩, ms_t (by decide), ms_t (by decide)]
    exact c3 46 0 _ (by omega)
  have L1 : lw (kpt m) mb := by
    intro t i k hL hk
    rw [kpt_c hL hk, hcl t i k (by omega) (by omega)]
    by_cases hT : tgT t
    · rw [if_pos hT]
      have := c2 t i k hT (by omega) hk
      rw [Nat.mul_one, Nat.mul_zero, Nat.zero_add] at this
      rw [Nat.add_comm i 5]
      exact this
    · rw [if_neg hT]
      have hi0 : i = 0 := by omega
      rw [hi0]
      exact c1 t k (by omega) hk
  have X1 : lx (kpt m) mb := by
    intro t k hk
    rw [kpt_m hk, hmk t k hk]
  have S1 : sR mb mb T := sR_lw L1 X1 h
  have L2 : lw (kpt m) (kpt mb) := by
    intro t i k hL hk
    rw [kpt_c hL hk, kpt_c hL hk]
    by_cases hT : tgT t
    · rw [if_pos hT, if_pos hT, hcl t _ k (by omega) (by omega)]
      exact c3 t _ k (by omega)
    · rw [if_neg hT, if_neg hT, hcl t _ k (by omega) (by omega)]
      exact c3 t 1 k (by omega)
  have X2 : lx (kpt m) (kpt mb) := by
    intro t k hk
    rw [kpt_m hk, kpt_m hk, h46]
  refine ⟨S1, sR_lw L2 X2 h, ?_, ?_, ?_, hcl, ?_, ?_⟩
  · rw [← hcl 0 0 7 (by omega) (by decide)]; exact S1.2.1
  · exact S1.2.2.1
  · rw [k1 7 0 0 (by decide) (by decide), if_neg (by decide), ms_k (by decide), ms_s]
  · intro k h28 n36 n37
    have hk : ¬ kpos 7 k < 3400 := by
      intro g
      have := kcel_pos g
      have h2 : (kcel (kpos 7 k)).2 ≤ 26 := by
        have hlt : kpos 7 k < 12 := by
          unfold kpos at g ⊢
          simp only at g ⊢
          split at g <;> first | decide | omega
        unfold kcel
        rw [if_pos hlt]
        have : kpos 7 k = 0 ∨ kpos 7 k = 1 ∨ kpos 7 k = 2 ∨ kpos 7 k = 3 ∨ kpos 7 k = 4 ∨ kpos 7 k = 5 ∨ kpos 7 k = 6 ∨ kpos 7 k = 7 ∨ kpos 7 k = 8 ∨ kpos 7 k = 9 ∨ kpos 7 k = 10 ∨ kpos 7 k = 11 := by omega
        rcases this with e | e | e | e | e | e | e | e | e | e | e | e <;> rw [e] <;> decide
      rw [this] at h2
      omega
    rw [k1 7 0 k (by decide) (by omega), if_neg (fun g => hk g.2), ms_k n37, ms_k (by omega)]
    exact c3 7 0 k (by omega)
  · intro t k ht
    have hk : ¬ kpos t k < 3400 := by
      intro g
      have := kpos_t g
      omega
    rw [k1 t 0 k (by omega) (by omega), if_neg (fun g => hk g.2), ms_t (by omega), ms_t (by omega)]
    exact c3 t 0 k (by omega)
