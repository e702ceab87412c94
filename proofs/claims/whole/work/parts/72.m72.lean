/-! starting again: rewind and clear -/
theorem taSt_at (m : zkM) (n : Nat) : (∀ t, t ≠ 1 → t ≠ 5 → t ≠ 22 → taSt m n t = m t) ∧ (∀ i, i ≠ n → taSt m n 1 i = m 1 i ∧ taSt m n 5 i = m 5 i ∧ taSt m n 22 i = m 22 i) ∧ (∀ k, taSt m n 1 n k = if k = 1 ∨ k = 2 then 0 else m 1 n k) ∧ (∀ k, taSt m n 5 n k = if k = 10 then m 5 n 7 else if 11 ≤ k ∧ k ≤ 14 then 0 else m 5 n k) ∧ (∀ k, taSt m n 22 n k = if k < 6 then 0 else m 22 n k) := by
  unfold taSt
  generalize hX : mset (mset (mset (mset (mset (mset (mset m 1 n 1 0) 1 n 2 0) 5 n 10 (m 5 n 7)) 5 n 11 0) 5 n 12 0) 5 n 13 0) 5 n 14 0 = X
  have hX22 : X 22 = m 22 := by rw [← hX]; rfl
  have hlp : ∀ j : Nat, (∀ t, t ≠ 22 → lp (taZ n) j X t = X t) ∧ (∀ i, i ≠ n → lp (taZ n) j X 22 i = m 22 i) ∧ ∀ k, lp (taZ n) j X 22 n k = if k < j then 0 else m 22 n k := by
    intro j
    induction j with
    | zero => exact ⟨fun _ _ => rfl, fun i _ => by show X 22 i = _; rw [hX22], fun k => by show X 22 n k = _; rw [hX22, if_neg (by omega)]⟩
    | succ j ih =>
      obtain ⟨i1, i2, i3⟩ := ih
      refine ⟨fun t ht => ?_, fun i hi => ?_, fun k => ?_⟩
      · show mset (lp (taZ n) j X) 22 n j 0 t = X t
        rw [mset_t ht, i1 t ht]
      · show mset (lp (taZ n) j X) 22 n j 0 22 i = m 22 i
        rw [mset_i hi, i2 i hi]
      · show mset (lp (taZ n) j X) 22 n j 0 22 n k = _
        by_cases e : k = j
        · subst e
          rw [ms_s, if_pos (by omega)]
        · rw [ms_k e, i3]
          by_cases g : k < j
          · rw [if_pos g, if_pos (by omega)]
          · rw [if_neg g, if_neg (by omega)]
  obtain ⟨l1, l2, l3⟩ := hlp 6
  refine ⟨fun t t1 t2 t3 => ?_, fun i hi => ⟨?_, ?_, l2 i hi⟩, fun k => ?_, fun k => ?_, l3⟩
  · rw [l1 t t3, ← hX]
    simp only [mset_t t1, mset_t t2]
  · rw [l1 1 (by decide), ← hX]
    simp only [mset_i hi]
  · rw [l1 5 (by decide), ← hX]
    simp only [mset_i hi]
  · rw [l1 1 (by decide), ← hX]
    simp only [mset]
    simp
    by_cases k1 : k = 1
    · simp [k1]
    · by_cases k2 : k = 2
      · simp [k2]
      · simp [k1, k2]
  · rw [l1 5 (by decide), ← hX]
    by_cases k0 : k = 10
    · subst k0; simp [mset]
    · by_cases k1 : 11 ≤ k ∧ k ≤ 14
      · rw [if_neg k0, if_pos k1]
        have : k = 11 ∨ k = 12 ∨ k = 13 ∨ k = 14 := by omega
        rcases this with e | e | e | e <;> subst e <;> simp [mset]
      · rw [if_neg k0, if_neg k1]
        rw [ms_k (by omega), ms_k (by omega), ms_k (by omega), ms_k (by omega), ms_k (by omega), ms_t (by decide), ms_t (by decide)]
theorem beS2_at (a : zkM) : ∀ n : Nat, (∀ t, t ≠ 1 → t ≠ 5 → t ≠ 22 → lp beS1 n a t = a t) ∧ (∀ i, n ≤ i → lp beS1 n a 1 i = a 1 i ∧ lp beS1 n a 5 i = a 5 i ∧ lp beS1 n a 22 i = a 22 i) ∧ (∀ i, i < n → (∀ k, lp beS1 n a 1 i k = if k = 1 ∨ k = 2 then 0 else a 1 i k) ∧ (∀ k, lp beS1 n a 5 i k = if k = 10 then a 5 i 7 else if 11 ≤ k ∧ k ≤ 14 then 0 else a 5 i k) ∧ (∀ k, lp beS1 n a 22 i k = if k < 6 then 0 else a 22 i k))
  | 0 => ⟨fun _ _ _ _ => rfl, fun _ _ => ⟨rfl, rfl, rfl⟩, fun i hi => absurd hi (by omega)⟩
  | n + 1 => by
    obtain ⟨h1, h2, h3⟩ := beS2_at a n
    have g := taSt_at (lp beS1 n a) n
    obtain ⟨g1, g2, g3, g4, g5⟩ := g
    have e := h2 n (Nat.le_refl n)
    refine ⟨fun t t1 t2 t3 => (g1 t t1 t2 t3).trans (h1 t t1 t2 t3), fun i hi => ?_, fun i hi => ?_⟩
    · have q := g2 i (by omega)
      have q2 := h2 i (by omega)
      exact ⟨q.1.trans q2.1, q.2.1.trans q2.2.1, q.2.2.trans q2.2.2⟩
    · by_cases en : i = n
      · subst en
        refine ⟨fun k => (g3 k).trans ?_, fun k => (g4 k).trans ?_, fun k => (g5 k).trans ?_⟩
        · rw [e.1]
        · rw [e.2.1]
        · rw [e.2.2]
      · have q := g2 i en
        have q2 := h3 i (by omega)
        refine ⟨fun k => ?_, fun k => ?_, fun k => ?_⟩
        · show taSt (lp beS1 n a) n 1 i k = _
          rw [q.1]; exact q2.1 k
        · show taSt (lp beS1 n a) n 5 i k = _
          rw [q.2.1]; exact q2.2.1 k
        · show taSt (lp beS1 n a) n 22 i k = _
          rw [q.2.2]; exact q2.2.2 k
theorem rqSt_at (a : zkM) : ∀ n : Nat, (∀ t, t ≠ 15 → t ≠ 16 → lp rqS1 n a t = a t) ∧ (∀ k, lp rqS1 n a 15 0 k = if k < n then a 14 0 k else a 15 0 k) ∧ (∀ k, lp rqS1 n a 16 0 k = if k < n then -1 else a 16 0 k)
  | 0 => ⟨fun _ _ _ => rfl, fun k => by rw [if_neg (by omega)]; rfl, fun k => by rw [if_neg (by omega)]; rfl⟩
  | n + 1 => by
    obtain ⟨h1, h2, h3⟩ := rqSt_at a n
    refine ⟨fun t t1 t2 => ?_, fun k => ?_, fun k => ?_⟩
    · show mset (mset (lp rqS1 n a) 15 0 n _) 16 0 n (-1) t = a t
      rw [mset_t t2, mset_t t1, h1 t t1 t2]
    · show mset (mset (lp rqS1 n a) 15 0 n (lp rqS1 n a 14 0 n)) 16 0 n (-1) 15 0 k = _
      rw [ms_t (by decide), h1 14 (by decide) (by decide)]
      by_cases e : k = n
      · subst e; rw [ms_s, if_pos (by omega)]
      · rw [ms_k e, h2]
        by_cases g : k < n
        · rw [if_pos g, if_pos (by omega)]
        · rw [if_neg g, if_neg (by omega)]
    · show mset (mset (lp rqS1 n a) 15 0 n (lp rqS1 n a 14 0 n)) 16 0 n (-1) 16 0 k = _
      by_cases e : k = n
      · subst e; rw [ms_s, if_pos (by omega)]
      · rw [ms_k e, ms_t (by decide), h3]
        by_cases g : k < n
        · rw [if_pos g, if_pos (by omega)]
        · rw [if_neg g, if_neg (by omega)]
/-- the class, started again -/
theorem beSt_at {a : zkM} {n c : Nat} (hn : (a 0 0 5).toNat = n) (hc : (a 3 0 4).toNat = c) : (∀ t, t ≠ 0 → t ≠ 1 → t ≠ 4 → t ≠ 5 → t ≠ 15 → t ≠ 16 → t ≠ 22 → (beSt a).2 t = a t) ∧ (∀ k, (beSt a).2 0 0 k = if k = 7 then 0 else a 0 0 k) ∧ (∀ k, (beSt a).2 4 0 k = if k = 2 ∨ k = 8 then 0 else if k = 7 then a 4 0 5 else a 4 0 k) ∧ (∀ k, (beSt a).2 15 0 k = if k < c then a 14 0 k else a 15 0 k) ∧ (∀ k, (beSt a).2 16 0 k = if k < c then -1 else a 16 0 k) ∧ (∀ i, n ≤ i → (beSt a).2 1 i = a 1 i ∧ (beSt a).2 5 i = a 5 i ∧ (beSt a).2 22 i = a 22 i) ∧ (∀ i, i < n → (∀ k, (beSt a).2 1 i k = if k = 1 ∨ k = 2 then 0 else a 1 i k) ∧ (∀ k, (beSt a).2 5 i k = if k = 10 then a 5 i 7 else if 11 ≤ k ∧ k ≤ 14 then 0 else a 5 i k) ∧ (∀ k, (beSt a).2 22 i k = if k < 6 then 0 else a 22 i k)) := by
  obtain ⟨h1, h2, h3⟩ := beS2_at a n
  have eS : beS2 a = lp beS1 n a := by unfold beS2; rw [hn]
  have e3 : seSt (beS2 a) 3 0 4 = a 3 0 4 := by
    show beS2 a 3 0 4 = a 3 0 4
    rw [eS, h1 3 (by decide) (by decide) (by decide)]
  obtain ⟨r1, r2, r3⟩ := rqSt_at (seSt (beS2 a)) c
  have eR : rqSt (seSt (beS2 a)) = lp rqS1 c (seSt (beS2 a)) := by unfold rqSt; rw [e3, hc]
  have eF : (beSt a).2 = mset (lp rqS1 c (seSt (beS2 a))) 0 0 7 0 := by unfold beSt; rw [eR]
  have s1 : ∀ t, t ≠ 4 → seSt (beS2 a) t = beS2 a t := by
    intro t ht
    unfold seSt
    rw [mset_t ht, mset_t ht, mset_t ht]
  have s4 : ∀ k, seSt (beS2 a) 4 0 k = if k = 2 ∨ k = 8 then 0 else if k = 7 then a 4 0 5 else a 4 0 k := by
    intro k
    have e4 : beS2 a 4 = a 4 := by rw [eS, h1 4 (by decide) (by decide) (by decide)]
    unfold seSt
    rw [e4]
    by_cases k2 : k = 2
    · subst k2; simp [mset]
    · by_cases k8 : k = 8
      · subst k8; simp [mset]
      · by_cases k7 : k = 7
        · subst k7; simp [mset]
        · rw [ms_k k2, ms_k k8, ms_k k7, if_neg (by omega), if_neg k7, e4]
  rw [eF]
  refine ⟨fun t t0 t1 t4 t5 t15 t16 t22 => ?_, fun k => ?_, fun k => ?_, fun k => ?_, fun k => ?_, fun i hi => ?_, fun i hi => ?_⟩
  · rw [mset_t t0, r1 t t15 t16, s1 t t4, eS, h1 t t1 t5 t22]
  · by_cases k7 : k = 7
    · subst k7; rw [ms_s, if_pos rfl]
    · rw [ms_k k7, r1 0 (by decide) (by decide), s1 0 (by decide), eS, h1 0 (by decide) (by decide) (by decide), if_neg k7]
  · rw [ms_t (by decide), r1 4 (by decide) (by decide)]
    exact s4 k
  · rw [ms_t (by decide), r2, s1 14 (by decide), s1 15 (by decide), eS, h1 14 (by decide) (by decide) (by decide), h1 15 (by decide) (by decide) (by decide)]
  · rw [ms_t (by decide), r3, s1 16 (by decide), eS, h1 16 (by decide) (by decide) (by decide)]
  · rw [mset_t (by decide), mset_t (by decide), mset_t (by decide), r1 1 (by decide) (by decide), r1 5 (by decide) (by decide), r1 22 (by decide) (by decide), s1 1 (by decide), s1 5 (by decide), s1 22 (by decide), eS]
    exact h2 i hi
  · rw [mset_t (by decide), mset_t (by decide), mset_t (by decide), r1 1 (by decide) (by decide), r1 5 (by decide) (by decide), r1 22 (by decide) (by decide), s1 1 (by decide), s1 5 (by decide), s1 22 (by decide), eS]
    exact h3 i hi
/-- the reference, started again -/
theorem moRs_at (b : zkM) : (∀ t, t ≠ 7 → t ≠ 36 → t ≠ 37 → t ≠ 38 → t ≠ 39 → t ≠ 40 → t ≠ 41 → t ≠ 42 → moRs b t = b t) ∧ (∀ k, moRs b 7 0 k = if k = 11 ∨ k = 20 ∨ k = 22 ∨ k = 26 then 0 else if k = 19 then b 7 0 7 else b 7 0 k) ∧ (∀ i, i < 5 → moRs b 36 0 i = 0 ∧ moRs b 37 0 i = 0 ∧ moRs b 38 0 i = 0 ∧ moRs b 40 0 i = 0) ∧ (∀ k, k < 30 → moRs b 39 0 k = 0) ∧ (∀ r, r < 12 → moRs b 41 0 r = b 33 0 (2 * r + 1) ∧ moRs b 42 0 r = -1) := by
  have q1 : ∀ n : Nat, ∀ m : zkM, (∀ t, t ≠ 36 → t ≠ 37 → t ≠ 38 → t ≠ 40 → lp moR1 n m t = m t) ∧ ∀ i, i < n → lp moR1 n m 36 0 i = 0 ∧ lp moR1 n m 37 0 i = 0 ∧ lp moR1 n m 38 0 i = 0 ∧ lp moR1 n m 40 0 i = 0 := by
    intro n m
    induction n with
    | zero => exact ⟨fun _ _ _ _ _ => rfl, fun i hi => absurd hi (by omega)⟩
    | succ n ih =>
      refine ⟨fun t t1 t2 t3 t4 => ?_, fun i hi => ?_⟩
      · show mset (mset (mset (mset (lp moR1 n m) 36 0 n 0) 37 0 n 0) 38 0 n 0) 40 0 n 0 t = m t
        rw [mset_t t4, mset_t t3, mset_t t2, mset_t t1, ih.1 t t1 t2 t3 t4]
      · show mset (mset (mset (mset (lp moR1 n m) 36 0 n 0) 37 0 n 0) 38 0 n 0) 40 0 n 0 36 0 i = 0 ∧ mset (mset (mset (mset (lp moR1 n m) 36 0 n 0) 37 0 n 0) 38 0 n 0) 40 0 n 0 37 0 i = 0 ∧ mset (mset (mset (mset (lp moR1 n m) 36 0 n 0) 37 0 n 0) 38 0 n 0) 40 0 n 0 38 0 i = 0 ∧ mset (mset (mset (mset (lp moR1 n m) 36 0 n 0) 37 0 n 0) 38 0 n 0) 40 0 n 0 40 0 i = 0
        by_cases e : i = n
        · subst e; simp [mset]
        · have := ih.2 i (by omega)
          simp [mset, e]
          exact this
  have q2 : ∀ n : Nat, ∀ m : zkM, (∀ t, t ≠ 39 → lp moR2 n m t = m t) ∧ ∀ k, k < n → lp moR2 n m 39 0 k = 0 := by
    intro n m
    induction n with
    | zero => exact ⟨fun _ _ => rfl, fun i hi => absurd hi (by omega)⟩
    | succ n ih =>
      refine ⟨fun t t1 => ?_, fun k hk => ?_⟩
      · show mset (lp moR2 n m) 39 0 n 0 t = m t
        rw [mset_t t1, ih.1 t t1]
      · show mset (lp moR2 n m) 39 0 n 0 39 0 k = 0
        by_cases e : k = n
        · subst e; rw [ms_s]
        · rw [ms_k e]; exact ih.2 k (by omega)
  have q3 : ∀ n : Nat, ∀ m : zkM, (∀ t, t ≠ 41 → t ≠ 42 → lp moR3 n m t = m t) ∧ ∀ r, r < n → lp moR3 n m 41 0 r = m 33 0 (2 * r + 1) ∧ lp moR3 n m 42 0 r = -1 := by
    intro n m
    induction n with
    | zero => exact ⟨fun _ _ _ => rfl, fun i hi => absurd hi (by omega)⟩
    | succ n ih =>
      refine ⟨fun t t1 t2 => ?_, fun r hr => ?_⟩
      · show mset (mset (lp moR3 n m) 41 0 n _) 42 0 n (-1) t = m t
        rw [mset_t t2, mset_t t1, ih.1 t t1 t2]
      · show mset (mset (lp moR3 n m) 41 0 n (lp moR3 n m 33 0 (2 * n + 1))) 42 0 n (-1) 41 0 r = _ ∧ mset (mset (lp moR3 n m) 41 0 n (lp moR3 n m 33 0 (2 * n + 1))) 42 0 n (-1) 42 0 r = -1
        rw [ms_t (by decide), ih.1 33 (by decide) (by decide)]
        by_cases e : r = n
        · subst e; rw [ms_s, ms_s]; exact ⟨rfl, rfl⟩
        · rw [ms_k e, ms_k e, ms_t (by decide)]
          exact ih.2 r (by omega)
  unfold moRs
  generalize hA : lp moR1 5 (mset b 7 0 11 0) = A
  obtain ⟨a1, a2⟩ := q1 5 (mset b 7 0 11 0)
  rw [hA] at a1 a2
  generalize hB : lp moR2 30 A = B
  obtain ⟨b1, b2⟩ := q2 30 A
  rw [hB] at b1 b2
  obtain ⟨c1, c2⟩ := q3 12 (moRm B)
  have m1 : ∀ t, t ≠ 7 → moRm B t = B t := by
    intro t ht
    unfold moRm
    rw [mset_t ht, mset_t ht, mset_t ht, mset_t ht]
  have b7 : B 7 = mset b 7 0 11 0 7 := by rw [b1 7 (by decide), a1 7 (by decide) (by decide) (by decide) (by decide)]
  refine ⟨fun t t7 t36 t37 t38 t39 t40 t41 t42 => ?_, fun k => ?_, fun i hi => ?_, fun k hk => ?_, fun r hr => ?_⟩
  · rw [c1 t t41 t42, m1 t t7, b1 t t39, a1 t t36 t37 t38 t40, mset_t t7]
  · rw [c1 7 (by decide) (by decide)]
    unfold moRm
    rw [b7]
    by_cases k26 : k = 26
    · subst k26; simp [mset]
    · by_cases k22 : k = 22
      · subst k22; simp [mset]
      · by_cases k20 : k = 20
        · subst k20; simp [mset]
        · by_cases k19 : k = 19
          · subst k19; simp [mset]
          · rw [ms_k k26, ms_k k22, ms_k k20, ms_k k19, b7]
            by_cases k11 : k = 11
            · subst k11; simp [mset]
            · rw [ms_k k11, if_neg (by omega), if_neg k19]
  · rw [c1 36 (by decide) (by decide), c1 37 (by decide) (by decide), c1 38 (by decide) (by decide), c1 40 (by decide) (by decide), m1 36 (by decide), m1 37 (by decide), m1 38 (by decide), m1 40 (by decide), b1 36 (by decide), b1 37 (by decide), b1 38 (by decide), b1 40 (by decide)]
    exact a2 i hi
  · rw [c1 39 (by decide) (by decide), m1 39 (by decide)]
    exact b2 k hk
  · have := c2 r hr
    rw [m1 33 (by decide), b1 33 (by decide), a1 33 (by decide) (by decide) (by decide) (by decide), mset_t (by decide)] at this
    exact this
