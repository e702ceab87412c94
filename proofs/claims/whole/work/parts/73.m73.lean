/-! rewind and clear keep the relation -/
theorem exR_0 {a : zkM} (h : ∀ i : Nat, (i : Int) < a 0 0 5 → a 5 i 13 = 0) : exR a := by
  intro i j hi hj hij h1 _
  exact absurd (taHd_0 (h i hi)) h1
/-- a task as it begins -/
theorem tR_beg {a b : zkM} {i : Nat} (hC : tC a b i) (h1 : a 1 i 1 = 0) (h2 : a 1 i 2 = 0) (h10 : a 5 i 10 = a 5 i 7) (h11 : a 5 i 11 = 0) (h12 : a 5 i 12 = 0) (h13 : a 5 i 13 = 0) (h14 : a 5 i 14 = 0) (h22 : ∀ k, k < 6 → a 22 i k = 0) (e36 : b 36 0 i = 0) (e37 : b 37 0 i = 0) (e38 : b 38 0 i = 0) (e40 : b 40 0 i = 0) (e39 : ∀ k, k < 6 → b 39 0 (6 * i + k) = 0) : tR a b 0 0 i := by
  have d := hC.2.1
  have d7 := hC.1.2.2.2.1
  refine ⟨⟨by omega, fun k hk => by omega, fun k hk => by omega⟩, ⟨⟨by omega, by omega, ?_⟩, fun hS => ?_, fun _ => ⟨h12, h13⟩, fun _ => e36⟩, ⟨fun hS => ?_, fun _ => by omega⟩, ⟨by omega, fun k hk => by rw [h22 k hk, e39 k hk]; omega, by omega⟩⟩
  · rw [h12, h13, e37]
    rfl
  · rw [h12, h13]
    have := hC.2.2 0 (by unfold moS; omega)
    exact ⟨hS, by show 0 < moLe b i 0; omega⟩
  · rw [h10, d7]
    refine ⟨by omega, Int.le_refl _, ?_, Or.inl rfl⟩
    rw [Int.sub_self]
    exact Int.zero_emod _
theorem st_rew {a b : zkM} {T : Int} (h : sR a b T) : sR (beSt a).2 (moRs b) 0 := by
  obtain ⟨⟨hK, hR, hB, hS, hQ, hN, hX, hO⟩, ha, hb, hT⟩ := h
  have hn := kR_n hK
  obtain ⟨f1, f0, f4, f15, f16, fo, fi⟩ := beSt_at (a := a) hn.1 rfl
  obtain ⟨g1, g7, g36, g39, g41⟩ := moRs_at b
  have hc : (a 3 0 4).toNat = (b 7 0 9).toNat := by rw [hQ.1.1]
  have f5 : ∀ i k, k < 10 → (beSt a).2 5 i k = a 5 i k := by
    intro i k hk
    by_cases hi : i < moN b
    · rw [(fi i hi).2.1, if_neg (by omega), if_neg (by omega)]
    · rw [(fo i (by omega)).2.1]
  have e7 : ∀ k, k ≠ 11 → k ≠ 20 → k ≠ 22 → k ≠ 26 → k ≠ 19 → moRs b 7 0 k = b 7 0 k := by
    intro k k1 k2 k3 k4 k5
    rw [g7, if_neg (by omega), if_neg k5]
  have K' : kR (beSt a).2 (moRs b) := by
    refine kR_c ?_ ?_ f5 ?_ ?_ ?_ ?_ ?_ ?_ ?_ (e7 1 (by decide) (by decide) (by decide) (by decide) (by decide)) (e7 2 (by decide) (by decide) (by decide) (by decide) (by decide)) (e7 6 (by decide) (by decide) (by decide) (by decide) (by decide)) (e7 7 (by decide) (by decide) (by decide) (by decide) (by decide)) (e7 8 (by decide) (by decide) (by decide) (by decide) (by decide)) ?_ ?_ ?_ hK
    · rw [f0, if_neg (by decide)]
    · rw [f0, if_neg (by decide)]
    · exact f1 17 (by decide) (by decide) (by decide) (by decide) (by decide) (by decide) (by decide)
    · exact f1 19 (by decide) (by decide) (by decide) (by decide) (by decide) (by decide) (by decide)
    · exact f1 20 (by decide) (by decide) (by decide) (by decide) (by decide) (by decide) (by decide)
    · rw [f4, if_neg (by decide), if_neg (by decide)]
    · rw [f4, if_neg (by decide), if_neg (by decide)]
    · rw [f4, if_neg (by decide), if_neg (by decide)]
    · rw [f4, if_neg (by decide), if_neg (by decide)]
    · exact g1 30 (by decide) (by decide) (by decide) (by decide) (by decide) (by decide) (by decide) (by decide)
    · exact g1 31 (by decide) (by decide) (by decide) (by decide) (by decide) (by decide) (by decide) (by decide)
    · exact g1 32 (by decide) (by decide) (by decide) (by decide) (by decide) (by decide) (by decide) (by decide)
  have en : moN (moRs b) = moN b := moN_c (e7 2 (by decide) (by decide) (by decide) (by decide) (by decide))
  have hn' := kR_n K'
  refine ⟨⟨K', ?_, ?_, ?_, ?_, ?_, ?_, ?_⟩, ?_, ?_, by omega, by omega⟩
  · intro i hi
    have hi' : i < moN b := by rw [en] at hi; exact hi
    obtain ⟨w1, w5, w22⟩ := fi i hi'
    obtain ⟨v1, v2, v3, v4⟩ := g36 i (by omega)
    refine tR_beg (K'.2.1 i hi) ?_ ?_ ?_ ?_ ?_ ?_ ?_ ?_ v1 v2 v3 v4 (fun k hk => g39 _ (by omega))
    · rw [w1, if_pos (by omega)]
    · rw [w1, if_pos (by omega)]
    · rw [w5, w5, if_pos rfl, if_neg (by decide), if_neg (by decide)]
    · rw [w5, if_neg (by decide), if_pos (by decide)]
    · rw [w5, if_neg (by decide), if_pos (by decide)]
    · rw [w5, if_neg (by decide), if_pos (by decide)]
    · rw [w5, if_neg (by decide), if_pos (by decide)]
    · intro k hk
      rw [w22, if_pos hk]
  · intro i hi
    obtain ⟨v1, v2, v3, v4⟩ := g36 i hi
    obtain ⟨b1, b2, b3, b4, b5, b6, b7, b8⟩ := hB i hi
    have e21 := f1 21 (by decide) (by decide) (by decide) (by decide) (by decide) (by decide) (by decide)
    have e35 := g1 35 (by decide) (by decide) (by decide) (by decide) (by decide) (by decide) (by decide) (by decide)
    refine ⟨by rw [e21]; exact b1, by rw [e35]; exact b2, ?_, ?_, ?_, by omega, by omega, by omega⟩
    · by_cases hi' : i < moN b
      · rw [(fi i hi').1, (fi i hi').1, if_pos (by omega), if_pos (by omega)]; omega
      · rw [(fo i (by omega)).1]; exact b3
    · by_cases hi' : i < moN b
      · rw [(fi i hi').2.1, if_neg (by decide), if_pos (by decide)]; omega
      · rw [(fo i (by omega)).2.1]; exact b4
    · by_cases hi' : i < moN b
      · rw [(fi i hi').2.1, if_neg (by decide), if_pos (by decide)]; omega
      · rw [(fo i (by omega)).2.1]; exact b5
  · have hA := hK.2.2.2.2.1
    have hM := hK.2.2.2.2.2
    obtain ⟨s1, s2, s3, s4, s5, s6, s7, s8, s9⟩ := hS
    have e11 := f1 11 (by decide) (by decide) (by decide) (by decide) (by decide) (by decide) (by decide)
    have e43 := g1 43 (by decide) (by decide) (by decide) (by decide) (by decide) (by decide) (by decide) (by decide)
    have v20 : moRs b 7 0 20 = 0 := by rw [g7, if_pos (by decide)]
    have v26 : moRs b 7 0 26 = 0 := by rw [g7, if_pos (by decide)]
    have v19 : moRs b 7 0 19 = b 7 0 7 := by rw [g7, if_neg (by decide), if_pos rfl]
    have v22 : moRs b 7 0 22 = 0 := by rw [g7, if_pos (by decide)]
    have v6 := e7 6 (by decide) (by decide) (by decide) (by decide) (by decide)
    have v7 := e7 7 (by decide) (by decide) (by decide) (by decide) (by decide)
    have v21 := e7 21 (by decide) (by decide) (by decide) (by decide) (by decide)
    have w8 : (beSt a).2 4 0 8 = 0 := by rw [f4, if_pos (by decide)]
    have w2 : (beSt a).2 4 0 2 = 0 := by rw [f4, if_pos (by decide)]
    have w7 : (beSt a).2 4 0 7 = a 4 0 5 := by rw [f4, if_neg (by decide), if_pos rfl]
    have w9 : (beSt a).2 4 0 9 = a 4 0 9 := by rw [f4, if_neg (by decide), if_neg (by decide)]
    have m7 := hM.2.2.2.2.2.2.1
    refine ⟨by omega, by omega, fun k hk => by omega, fun k hk => by omega, fun h6 => ?_, fun _ => by omega, fun h20 => by omega, fun _ => v26, ?_⟩
    · rw [v6] at h6
      have := hK.2.2.2.1.2 h6
      rw [v26, v20, if_neg (by decide)]
      show _ ∧ _ ∧ moRs b 7 0 19 + 0 + 0 = moRs b 7 0 7
      omega
    · refine ⟨by rw [e11]; exact s9.1, by rw [e43]; exact s9.2.1, ?_, ?_, ?_, ?_, ?_⟩
      · rw [w9]; exact s9.2.2.1
      · rw [w7]; exact hA.2.2.2.2.2.1
      · rw [v19]; exact m7
      · rw [v21]; exact s9.2.2.2.2.2.1
      · omega
  · obtain ⟨q1, q2, q3, q4⟩ := hQ
    have e3 := f1 3 (by decide) (by decide) (by decide) (by decide) (by decide) (by decide) (by decide)
    have e13 := f1 13 (by decide) (by decide) (by decide) (by decide) (by decide) (by decide) (by decide)
    have e14 := f1 14 (by decide) (by decide) (by decide) (by decide) (by decide) (by decide) (by decide)
    have e33 := g1 33 (by decide) (by decide) (by decide) (by decide) (by decide) (by decide) (by decide) (by decide)
    have e9 := e7 9 (by decide) (by decide) (by decide) (by decide) (by decide)
    refine ⟨by rw [e3, e9]; exact q1, fun k hk => ?_, fun k hk => ?_, fun k hk => ?_⟩
    · rw [e9] at hk
      have r := q2 k hk
      have r41 := g41 k (by omega)
      rw [e13, e14, e33, f15, f16, r41.1, r41.2, if_pos (by omega), if_pos (by omega)]
      refine ⟨r.1, r.2.1, r.2.1, by rw [if_pos rfl], fun _ => rfl, fun h => absurd rfl h⟩
    · have r := q3 k hk
      rw [e13, e14, f15, f16]
      refine ⟨r.1, r.2.1, ?_, ?_⟩
      · split
        · exact r.2.1
        · exact r.2.2.1
      · split
        · omega
        · exact r.2.2.2
    · have r := q4 k hk
      have r41 := g41 k hk
      rw [e33, r41.1, r41.2]
      exact ⟨r.1, r.2.1, r.2.1, by omega⟩
  · unfold nR at *
    rw [f1 18 (by decide) (by decide) (by decide) (by decide) (by decide) (by decide) (by decide), g1 34 (by decide) (by decide) (by decide) (by decide) (by decide) (by decide) (by decide) (by decide)]
    exact ⟨fun k hk => by omega, hN.2⟩
  · refine exR_0 (fun i hi => ?_)
    have hi' : i < moN b := by rw [← en]; unfold moN; omega
    rw [(fi i hi').2.1, if_neg (by decide), if_pos (by decide)]
  · intro i hi hi5
    rw [en] at hi
    have r := hO i hi hi5
    refine ⟨g36 i hi5, fun k hk => g39 _ (by omega), ?_⟩
    rw [(fo i hi).2.1, (fo i hi).2.2]
    exact r.2.2
  · rw [f0, if_pos rfl]
  · rw [g7, if_pos (by decide)]
theorem lp_cong_n {σ : Type} {f g : Nat → σ → σ} {n : Nat} (h : ∀ j s, j < n → f j s = g j s) (s0 : σ) : lp f n s0 = lp g n s0 := lp_cong h s0
theorem st_clear {a b : zkM} {T : Int} (h : sR a b T) : (beRm a).1 = (moClear b).1 ∧ sR (beRm a).2 (moClear b).2 0 := by
  have h0 := h
  obtain ⟨⟨hK, hR, hB, hS, hQ, hN, hX, hO⟩, ha, hb, hT⟩ := h
  have hn := kR_n hK
  refine ⟨hn.2.2.2.2, ?_⟩
  obtain ⟨f1, f0, f4, f15, f16, fo, fi⟩ := beSt_at (a := a) hn.1 rfl
  -- the class
  have eA : ∀ j : Nat, ∀ m : zkM, (∀ t, t ≠ 17 → lp beC0 j m t = m t) ∧ ∀ k, lp beC0 j m 17 0 k = if k < j then 0 else m 17 0 k := by
    intro j m
    induction j with
    | zero => exact ⟨fun _ _ => rfl, fun k => by rw [if_neg (by omega)]; rfl⟩
    | succ j ih =>
      refine ⟨fun t ht => ?_, fun k => ?_⟩
      · show mset (lp beC0 j m) 17 0 j 0 t = m t
        rw [mset_t ht, ih.1 t ht]
      · show mset (lp beC0 j m) 17 0 j 0 17 0 k = _
        by_cases e : k = j
        · subst e; rw [ms_s, if_pos (by omega)]
        · rw [ms_k e, ih.2]
          by_cases g : k < j
          · rw [if_pos g, if_pos (by omega)]
          · rw [if_neg g, if_neg (by omega)]
  obtain ⟨c1, c2⟩ := eA 4 (mset (mset (mset (mset (beSt a).2 0 0 5 0) 4 0 3 0) 3 0 4 0) 0 0 6 0)
  have eF : (beRm a).2 = lp beC0 4 (mset (mset (mset (mset (beSt a).2 0 0 5 0) 4 0 3 0) 3 0 4 0) 0 0 6 0) := rfl
  generalize (beRm a).2 = a' at *
  rw [← eF] at c1 c2
  have A1 : ∀ t, t ≠ 0 → t ≠ 3 → t ≠ 4 → t ≠ 17 → a' t = (beSt a).2 t := by
    intro t t0 t3 t4 t17
    rw [c1 t t17, mset_t t0, mset_t t3, mset_t t4, mset_t t0]
  have A0 : ∀ k, a' 0 0 k = if k = 6 ∨ k = 5 ∨ k = 7 then 0 else a 0 0 k := by
    intro k
    rw [c1 0 (by decide)]
    by_cases k6 : k = 6
    · subst k6; rw [ms_s, if_pos (by decide)]
    · rw [ms_k k6, ms_t (by decide), ms_t (by decide)]
      by_cases k5 : k = 5
      · subst k5; rw [ms_s, if_pos (by decide)]
      · rw [ms_k k5, f0]
        by_cases k7 : k = 7
        · subst k7; rw [if_pos rfl, if_pos (by decide)]
        · rw [if_neg k7, if_neg (by omega)]
  have A4 : ∀ k, a' 4 0 k = if k = 3 ∨ k = 2 ∨ k = 8 then 0 else if k = 7 then a 4 0 5 else a 4 0 k := by
    intro k
    rw [c1 4 (by decide), ms_t (by decide), ms_t (by decide)]
    by_cases k3 : k = 3
    · subst k3; rw [ms_s, if_pos (by decide)]
    · rw [ms_k k3, ms_t (by decide), f4]
      by_cases k2 : k = 2 ∨ k = 8
      · rw [if_pos k2, if_pos (by omega)]
      · rw [if_neg k2, if_neg (show ¬ (k = 3 ∨ k = 2 ∨ k = 8) by omega)]
  have A3 : a' 3 0 4 = 0 := by
    rw [c1 3 (by decide), ms_t (by decide), ms_s]
  -- the reference
  have eG : (moClear b).2 = moRs (mset (mset (mset (mset (mset (mset b 7 0 0 0) 7 0 1 0) 7 0 2 0) 7 0 6 0) 7 0 7 0) 7 0 9 0) := rfl
  obtain ⟨g1, g7, g36, g39, g41⟩ := moRs_at (mset (mset (mset (mset (mset (mset b 7 0 0 0) 7 0 1 0) 7 0 2 0) 7 0 6 0) 7 0 7 0) 7 0 9 0)
  rw [← eG] at g1 g7 g36 g39 g41
  generalize (moClear b).2 = b' at *
  have B1 : ∀ t, t ≠ 7 → t ≠ 36 → t ≠ 37 → t ≠ 38 → t ≠ 39 → t ≠ 40 → t ≠ 41 → t ≠ 42 → b' t = b t := by
    intro t t7 t36 t37 t38 t39 t40 t41 t42
    rw [g1 t t7 t36 t37 t38 t39 t40 t41 t42]
    simp only [mset_t t7]
  have v1 : b' 7 0 1 = 0 := by rw [g7]; simp [mset]
  have v2 : b' 7 0 2 = 0 := by rw [g7]; simp [mset]
  have v6 : b' 7 0 6 = 0 := by rw [g7]; simp [mset]
  have v7 : b' 7 0 7 = 0 := by rw [g7]; simp [mset]
  have v8 : b' 7 0 8 = b 7 0 8 := by rw [g7]; simp [mset]
  have v9 : b' 7 0 9 = 0 := by rw [g7]; simp [mset]
  have v11 : b' 7 0 11 = 0 := by rw [g7]; simp
  have v19 : b' 7 0 19 = 0 := by rw [g7]; simp [mset]
  have v20 : b' 7 0 20 = 0 := by rw [g7]; simp
  have v21 : b' 7 0 21 = b 7 0 21 := by rw [g7]; simp [mset]
  have v22 : b' 7 0 22 = 0 := by rw [g7]; simp
  have v26 : b' 7 0 26 = 0 := by rw [g7]; simp
  have en : moN b' = 0 := by unfold moN; rw [v2]; rfl
  have hA := hK.2.2.2.2.1
  have hM := hK.2.2.2.2.2
  have f5 : ∀ i k, k < 10 → a' 5 i k = a 5 i k := by
    intro i k hk
    rw [A1 5 (by decide) (by decide) (by decide) (by decide)]
    by_cases hi : i < moN b
    · rw [(fi i hi).2.1, if_neg (by omega), if_neg (by omega)]
    · rw [(fo i (by omega)).2.1]
  have w3 : a' 4 0 3 = 0 := by rw [A4, if_pos (by decide)]
  have w4 : a' 4 0 4 = a 4 0 4 := by rw [A4, if_neg (by decide), if_neg (by decide)]
  have w5 : a' 4 0 5 = a 4 0 5 := by rw [A4, if_neg (by decide), if_neg (by decide)]
  have w6 : a' 4 0 6 = a 4 0 6 := by rw [A4, if_neg (by decide), if_neg (by decide)]
  have w05 : a' 0 0 5 = 0 := by rw [A0, if_pos (by decide)]
  have w06 : a' 0 0 6 = 0 := by rw [A0, if_pos (by decide)]
  have w07 : a' 0 0 7 = 0 := by rw [A0, if_pos (by decide)]
  have F : ∀ t, t ≠ 0 → t ≠ 1 → t ≠ 3 → t ≠ 4 → t ≠ 5 → t ≠ 15 → t ≠ 16 → t ≠ 17 → t ≠ 22 → a' t = a t := by
    intro t t0 t1 t3 t4 t5 t15 t16 t17 t22
    rw [A1 t t0 t3 t4 t17, f1 t t0 t1 t4 t5 t15 t16 t22]
  have a17 : ∀ k, k < 4 → a' 17 0 k = 0 := fun k hk => by rw [c2, if_pos hk]
  refine ⟨⟨⟨⟨by omega, by omega, by omega, by omega⟩, fun i hi => by omega, fun r hr => ?_, ⟨?_, fun h => by omega⟩, ?_, ?_⟩, fun i hi => by omega, ?_, ?_, ?_, ?_, ?_, ?_⟩, w07, v11, by omega, by omega⟩
  · rw [a17 r hr]
    unfold moCe
    rw [en]
    rfl
  · rw [w3, v6]; rfl
  · unfold anA at *
    rw [F 19 (by decide) (by decide) (by decide) (by decide) (by decide) (by decide) (by decide) (by decide) (by decide), F 20 (by decide) (by decide) (by decide) (by decide) (by decide) (by decide) (by decide) (by decide) (by decide), w3, w4, w5, w6]
    refine ⟨by omega, fun i hi => ?_, fun k hk => by rw [a17 k hk]; omega, Or.inl rfl, hA.2.2.2.2⟩
    rw [f5 i 4 (by decide), f5 i 5 (by decide), f5 i 6 (by decide), f5 i 8 (by decide), f5 i 9 (by decide)]
    exact hA.2.1 i hi
  · unfold moA moRe moLe at *
    rw [v2, v6, v7, v8, B1 30 (by decide) (by decide) (by decide) (by decide) (by decide) (by decide) (by decide) (by decide), B1 31 (by decide) (by decide) (by decide) (by decide) (by decide) (by decide) (by decide) (by decide), B1 32 (by decide) (by decide) (by decide) (by decide) (by decide) (by decide) (by decide) (by decide)]
    refine ⟨by omega, hM.2.1, hM.2.2.1, fun i hi => by omega, hM.2.2.2.2.1, by omega, by omega, hM.2.2.2.2.2.2.2.1, fun h => by omega⟩
  · intro i hi
    obtain ⟨q1, q2, q3, q4⟩ := g36 i hi
    obtain ⟨b1, b2, b3, b4, b5, b6, b7, b8⟩ := hB i hi
    have e21 := F 21 (by decide) (by decide) (by decide) (by decide) (by decide) (by decide) (by decide) (by decide) (by decide)
    have e35 := B1 35 (by decide) (by decide) (by decide) (by decide) (by decide) (by decide) (by decide) (by decide)
    have e1 := A1 1 (by decide) (by decide) (by decide) (by decide)
    have e5 := A1 5 (by decide) (by decide) (by decide) (by decide)
    refine ⟨by rw [e21]; exact b1, by rw [e35]; exact b2, ?_, ?_, ?_, by omega, by omega, by omega⟩
    · rw [e1]
      by_cases hi' : i < moN b
      · rw [(fi i hi').1, (fi i hi').1, if_pos (by omega), if_pos (by omega)]; omega
      · rw [(fo i (by omega)).1]; exact b3
    · rw [e5]
      by_cases hi' : i < moN b
      · rw [(fi i hi').2.1, if_neg (by decide), if_pos (by decide)]; omega
      · rw [(fo i (by omega)).2.1]; exact b4
    · rw [e5]
      by_cases hi' : i < moN b
      · rw [(fi i hi').2.1, if_neg (by decide), if_pos (by decide)]; omega
      · rw [(fo i (by omega)).2.1]; exact b5
  · obtain ⟨s1, s2, s3, s4, s5, s6, s7, s8, s9⟩ := hS
    have e11 := F 11 (by decide) (by decide) (by decide) (by decide) (by decide) (by decide) (by decide) (by decide) (by decide)
    have e43 := B1 43 (by decide) (by decide) (by decide) (by decide) (by decide) (by decide) (by decide) (by decide)
    have w8 : a' 4 0 8 = 0 := by rw [A4, if_pos (by decide)]
    have w2 : a' 4 0 2 = 0 := by rw [A4, if_pos (by decide)]
    have w7 : a' 4 0 7 = a 4 0 5 := by rw [A4, if_neg (by decide), if_pos rfl]
    have w9 : a' 4 0 9 = a 4 0 9 := by rw [A4, if_neg (by decide), if_neg (by decide)]
    refine ⟨by omega, by omega, fun k hk => by omega, fun k hk => by omega, fun h6 => by omega, fun _ => by omega, fun h20 => by omega, fun _ => v26, ?_⟩
    refine ⟨by rw [e11]; exact s9.1, by rw [e43]; exact s9.2.1, ?_, ?_, by omega, ?_, by omega⟩
    · rw [w9]; exact s9.2.2.1
    · rw [w7]; exact hA.2.2.2.2.2.1
    · rw [v21]; exact s9.2.2.2.2.2.1
  · obtain ⟨q1, q2, q3, q4⟩ := hQ
    have e13 := F 13 (by decide) (by decide) (by decide) (by decide) (by decide) (by decide) (by decide) (by decide) (by decide)
    have e14 := F 14 (by decide) (by decide) (by decide) (by decide) (by decide) (by decide) (by decide) (by decide) (by decide)
    have e15 := A1 15 (by decide) (by decide) (by decide) (by decide)
    have e16 := A1 16 (by decide) (by decide) (by decide) (by decide)
    have e33 := B1 33 (by decide) (by decide) (by decide) (by decide) (by decide) (by decide) (by decide) (by decide)
    refine ⟨by omega, fun k hk => by omega, fun k hk => ?_, fun k hk => ?_⟩
    · have r := q3 k hk
      rw [e13, e14, e15, e16, f15, f16]
      refine ⟨r.1, r.2.1, ?_, ?_⟩
      · split
        · exact r.2.1
        · exact r.2.2.1
      · split
        · omega
        · exact r.2.2.2
    · have r := q4 k hk
      have r41 := g41 k hk
      have e : (mset (mset (mset (mset (mset (mset b 7 0 0 0) 7 0 1 0) 7 0 2 0) 7 0 6 0) 7 0 7 0) 7 0 9 0) 33 = b 33 := rfl
      rw [e] at r41
      rw [e33, r41.1, r41.2]
      exact ⟨r.1, r.2.1, r.2.1, by omega⟩
  · unfold nR at *
    rw [F 18 (by decide) (by decide) (by decide) (by decide) (by decide) (by decide) (by decide) (by decide) (by decide), B1 34 (by decide) (by decide) (by decide) (by decide) (by decide) (by decide) (by decide) (by decide)]
    exact ⟨fun k hk => by omega, hN.2⟩
  · exact exR_0 (fun i hi => by omega)
  · intro i hi hi5
    refine ⟨g36 i hi5, fun k hk => g39 _ (by omega), ?_⟩
    rw [A1 5 (by decide) (by decide) (by decide) (by decide), A1 22 (by decide) (by decide) (by decide) (by decide)]
    by_cases hi' : i < moN b
    · rw [(fi i hi').2.1, (fi i hi').2.2, if_neg (by decide), if_pos (by decide), if_pos (by decide)]
      exact ⟨Or.inl rfl, by decide⟩
    · rw [(fo i (by omega)).2.1, (fo i (by omega)).2.2]
      exact (hO i (by omega) hi5).2.2
