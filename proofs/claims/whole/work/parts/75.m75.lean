/-! addTask and addSegment keep the relation -/
theorem t0 {a b : zkM} {U : Int} {i : Nat} (h : tR a b 0 U i) : b 36 0 i = 0 ∧ a 1 i 1 = 0 ∧ a 1 i 2 = 0 ∧ a 5 i 12 = 0 ∧ a 5 i 13 = 0 ∧ b 37 0 i = 0 := by
  have h1 := h.1.1
  have e : b 36 0 i = 0 := by omega
  have h2 := h.2.1.2.2.1 e
  have h3 := h.2.1.1.2.2
  rw [h2.1, h2.2] at h3
  have h4 : moDp b i (0 : Int).toNat = 0 := rfl
  rw [h4] at h3
  omega
theorem nr0 {a b : zkM} {i : Nat} (hC : tC a b i) (h : tN a b 0 i) : a 5 i 10 = b 30 0 (4 * i + 3) := by
  have d := hC.2.1
  by_cases hS : b 31 0 i = 0
  · exact h.2 hS
  · obtain ⟨h1, h2, h3, h4⟩ := h.1 (by omega)
    rcases h4 with h4 | h4
    · exact h4
    · have e : (a 5 i 10 - b 30 0 (4 * i + 3)) % b 30 0 (4 * i + 1) = a 5 i 10 - b 30 0 (4 * i + 3) := Int.emod_eq_of_lt (by omega) (by omega)
      omega
/-- a task's relation at the beginning, after the configuration has changed -/
theorem tR_0c {a a' b b' : zkM} {U : Int} {i : Nat} (hC : tC a b i) (hC' : tC a' b' i) (h : tR a b 0 U i) (h1 : a' 1 i = a 1 i) (h5 : ∀ k, 10 ≤ k → a' 5 i k = a 5 i k) (h22 : a' 22 i = a 22 i) (e33 : b' 30 0 (4 * i + 3) = b 30 0 (4 * i + 3)) (e36 : b' 36 0 i = b 36 0 i) (e37 : b' 37 0 i = b 37 0 i) (e38 : b' 38 0 i = b 38 0 i) (e40 : b' 40 0 i = b 40 0 i) (e39 : b' 39 = b 39) : tR a' b' 0 U i := by
  obtain ⟨z1, z2, z3, z4, z5, z6⟩ := t0 h
  have hnr := nr0 hC h.2.2.1
  have d := hC'.2.1
  have hZ := h.2.2.2
  refine ⟨⟨by rw [h1, e36]; omega, fun k hk => by omega, fun k hk => by omega⟩, ⟨⟨?_, ?_, ?_⟩, fun hS => ?_, fun _ => ?_, fun _ => by omega⟩, ⟨fun hS => ?_, fun _ => ?_⟩, ?_⟩
  · rw [h5 12 (by decide)]; omega
  · rw [h5 13 (by decide)]; omega
  · rw [h5 12 (by decide), h5 13 (by decide), z4, z5, e37, z6]; rfl
  · rw [h5 12 (by decide), h5 13 (by decide), z4, z5]
    have := hC'.2.2 0 (by unfold moS; omega)
    exact ⟨hS, by show 0 < moLe b' i 0; omega⟩
  · rw [h5 12 (by decide), h5 13 (by decide)]; omega
  · rw [h5 10 (by decide), hnr, e33]
    rw [e33] at d
    refine ⟨by omega, Int.le_refl _, ?_, Or.inl rfl⟩
    rw [Int.sub_self]
    exact Int.zero_emod _
  · rw [h5 10 (by decide), hnr, e33]
  · unfold tZ at *
    rw [h5 11 (by decide), h5 14 (by decide), h22, e38, e39, e40]
    exact hZ
theorem sV_d {a a' b b' : zkM} {L N : Int} (h4 : a' 4 = a 4) (h11 : a' 11 = a 11) (h12 : a' 12 = a 12) (e7 : ∀ k, k = 6 ∨ k = 7 ∨ k = 8 ∨ (19 ≤ k ∧ k ≤ 26) → b' 7 0 k = b 7 0 k) (e43 : b' 43 = b 43) (h : sV a b L N) : sV a' b' L N := by
  unfold sV plS at *
  rw [h4, h11, h12, e43, e7 6 (by omega), e7 7 (by omega), e7 8 (by omega), e7 19 (by omega), e7 20 (by omega), e7 21 (by omega), e7 22 (by omega), e7 26 (by omega)]
  exact h
theorem taBg_at (m : zkM) (n : Nat) (p pe dl o : Int) : (∀ t, t ≠ 1 → t ≠ 5 → t ≠ 22 → taBg m n p pe dl o t = m t) ∧ (∀ i, i ≠ n → taBg m n p pe dl o 1 i = m 1 i ∧ taBg m n p pe dl o 5 i = m 5 i ∧ taBg m n p pe dl o 22 i = m 22 i) ∧ (∀ k, taBg m n p pe dl o 1 n k = if k = 1 ∨ k = 2 then 0 else m 1 n k) ∧ (∀ k, k < 6 → taBg m n p pe dl o 22 n k = 0) ∧ (taBg m n p pe dl o 5 n 4 = p ∧ taBg m n p pe dl o 5 n 5 = pe ∧ taBg m n p pe dl o 5 n 6 = dl ∧ taBg m n p pe dl o 5 n 7 = o ∧ taBg m n p pe dl o 5 n 8 = 0 ∧ taBg m n p pe dl o 5 n 9 = 0 ∧ taBg m n p pe dl o 5 n 10 = o ∧ taBg m n p pe dl o 5 n 11 = 0 ∧ taBg m n p pe dl o 5 n 12 = 0 ∧ taBg m n p pe dl o 5 n 13 = 0 ∧ taBg m n p pe dl o 5 n 14 = 0) := by
  unfold taBg
  generalize hX : mset (mset (mset (mset (mset (mset m 5 n 4 p) 5 n 5 pe) 5 n 6 dl) 5 n 7 o) 5 n 8 0) 5 n 9 0 = X
  obtain ⟨g1, g2, g3, g4, g5⟩ := taSt_at X n
  have x1 : ∀ t, t ≠ 5 → X t = m t := by
    intro t ht
    rw [← hX]
    simp only [mset_t ht]
  have x5 : ∀ i, i ≠ n → X 5 i = m 5 i := by
    intro i hi
    rw [← hX]
    simp only [mset_i hi]
  have v4 : X 5 n 4 = p := by rw [← hX]; simp [mset]
  have v5 : X 5 n 5 = pe := by rw [← hX]; simp [mset]
  have v6 : X 5 n 6 = dl := by rw [← hX]; simp [mset]
  have v7 : X 5 n 7 = o := by rw [← hX]; simp [mset]
  have v8 : X 5 n 8 = 0 := by rw [← hX]; simp [mset]
  have v9 : X 5 n 9 = 0 := by rw [← hX]; simp [mset]
  refine ⟨fun t t1 t5 t22 => by rw [g1 t t1 t5 t22, x1 t t5], fun i hi => ?_, fun k => by rw [g3, x1 1 (by decide)], fun k hk => by rw [g5, if_pos hk], ?_⟩
  · have q := g2 i hi
    exact ⟨q.1.trans (by rw [x1 1 (by decide)]), q.2.1.trans (x5 i hi), q.2.2.trans (by rw [x1 22 (by decide)])⟩
  · rw [g4 4, g4 5, g4 6, g4 7, g4 8, g4 9, g4 10, g4 11, g4 12, g4 13, g4 14, v4, v5, v6, v7, v8, v9]
    simp
theorem st_put {a b : zkM} {T : Int} (h : sR a b T) (p pe dl o : Int) : sR (bePt a p pe dl o).2 (moAddTask b p pe dl o).2 T := by
  obtain ⟨⟨hK, hR, hB, hS, hQ, hN, hX, hO⟩, ha, hb, hT⟩ := id h
  have hn := kR_n hK
  have htk : (b2i (beTk a p) = 1 ∨ (a 4 0 3 = 1 ∧ a 4 0 4 = p)) ↔ (moTk b p = true ∨ (0 < b 7 0 6 ∧ b 7 0 6 = p)) := by
    rw [tk_eq hK, b2i_1]
    have k4 := hK.2.2.2.1
    by_cases h6 : 0 < b 7 0 6
    · have := k4.2 h6
      rw [if_pos h6] at k4
      rw [k4.1, this.1]
      constructor
      · rintro (g | g)
        · exact Or.inl g
        · exact Or.inr ⟨h6, g.2⟩
      · rintro (g | g)
        · exact Or.inl g
        · exact Or.inr ⟨rfl, g.2⟩
    · rw [if_neg h6] at k4
      rw [k4.1]
      constructor
      · rintro (g | g)
        · exact Or.inl g
        · exact absurd g.1 (by decide)
      · rintro (g | g)
        · exact Or.inl g
        · exact absurd g.1 h6
  by_cases h1 : (1 ≤ p ∧ p ≤ 9) ∧ (1 ≤ pe ∧ pe ≤ 60) ∧ (1 ≤ dl ∧ dl ≤ pe) ∧ (0 ≤ o ∧ o ≤ 60)
  · by_cases h2 : T = 0 ∧ b 7 0 2 < 5
    · by_cases h3 : moTk b p = true ∨ b 7 0 6 = p
      · have eA : (bePt a p pe dl o).2 = a := by
          unfold bePt
          rw [ha, if_neg (fun g => g h1), if_neg (by omega), if_pos (htk.mpr (h3.imp id (fun g => ⟨by omega, g⟩)))]
        have eB : (moAddTask b p pe dl o).2 = mset (mset b 7 0 0 0) 7 0 0 3 := by
          unfold moAddTask
          rw [hb, if_neg (by omega), if_neg (by omega), if_pos h3]
        rw [eA, eB]
        exact sR_thr (sR_thr h)
      · have eA : (bePt a p pe dl o).2 = mset (taBg a (moN b) p pe dl o) 0 0 5 (b 7 0 2 + 1) := by
          unfold bePt
          rw [ha, if_neg (fun g => g h1), if_neg (by omega), if_neg (fun g => h3 ((htk.mp g).imp id (fun g => g.2))), hn.1, hn.2.2.2.2]
        have eB : (moAddTask b p pe dl o).2 = mset (mset (mset (mset (mset (mset (mset b 7 0 0 0) 30 0 (4 * moN b) p) 30 0 (4 * moN b + 1) pe) 30 0 (4 * moN b + 2) dl) 30 0 (4 * moN b + 3) o) 31 0 (moN b) 0) 7 0 2 (b 7 0 2 + 1) := by
          unfold moAddTask
          rw [hb, if_neg (by omega), if_neg (by omega), if_neg h3]
        rw [eA, eB]
        have hnn : (moN b : Int) = b 7 0 2 := by unfold moN; omega
        have hO' := hO (moN b) (Nat.le_refl _) (by omega)
        obtain ⟨t1, t2, t3, t4, t5⟩ := taBg_at a (moN b) p pe dl o
        have heT : T = 0 := h2.1
        subst heT
        generalize hnm : moN b = n at *
        generalize hA' : mset (taBg a n p pe dl o) 0 0 5 (b 7 0 2 + 1) = a'
        generalize hB' : mset (mset (mset (mset (mset (mset (mset b 7 0 0 0) 30 0 (4 * n) p) 30 0 (4 * n + 1) pe) 30 0 (4 * n + 2) dl) 30 0 (4 * n + 3) o) 31 0 n 0) 7 0 2 (b 7 0 2 + 1) = b'
        have A1 : ∀ t, t ≠ 0 → t ≠ 1 → t ≠ 5 → t ≠ 22 → a' t = a t := fun t t0 u1 u5 u22 => by rw [← hA', mset_t t0, t1 t u1 u5 u22]
        have A0 : ∀ k, a' 0 0 k = if k = 5 then b 7 0 2 + 1 else a 0 0 k := by
          intro k
          rw [← hA']
          by_cases e : k = 5
          · subst e; rw [ms_s, if_pos rfl]
          · rw [ms_k e, if_neg e, t1 0 (by decide) (by decide) (by decide)]
        have Ao : ∀ i, i ≠ n → a' 1 i = a 1 i ∧ a' 5 i = a 5 i ∧ a' 22 i = a 22 i := by
          intro i hi
          rw [← hA', mset_t (by decide), mset_t (by decide), mset_t (by decide)]
          exact t2 i hi
        have An1 : ∀ k, a' 1 n k = if k = 1 ∨ k = 2 then 0 else a 1 n k := fun k => by rw [← hA', ms_t (by decide)]; exact t3 k
        have An22 : ∀ k, k < 6 → a' 22 n k = 0 := fun k hk => by rw [← hA', ms_t (by decide)]; exact t4 k hk
        have An5 : ∀ k, a' 5 n k = taBg a n p pe dl o 5 n k := fun k => by rw [← hA', ms_t (by decide)]
        rw [← An5, ← An5, ← An5, ← An5, ← An5, ← An5, ← An5, ← An5, ← An5, ← An5, ← An5] at t5
        have B1 : ∀ t, t ≠ 7 → t ≠ 30 → t ≠ 31 → b' t = b t := fun t u1 u2 u3 => by rw [← hB']; simp only [mset_t u1, mset_t u2, mset_t u3]
        have B7 : ∀ k, k ≠ 0 → k ≠ 2 → b' 7 0 k = b 7 0 k := by
          intro k k0 k2
          rw [← hB', ms_k k2, ms_t (by decide), ms_t (by decide), ms_t (by decide), ms_t (by decide), ms_t (by decide), ms_k k0]
        have B72 : b' 7 0 2 = b 7 0 2 + 1 := by rw [← hB', ms_s]
        have B31 : ∀ i, b' 31 0 i = if i = n then 0 else b 31 0 i := by
          intro i
          rw [← hB']
          by_cases e : i = n
          · subst e; simp [mset]
          · simp [mset, e]
        have B30 : ∀ k, b' 30 0 k = if k = 4 * n + 3 then o else if k = 4 * n + 2 then dl else if k = 4 * n + 1 then pe else if k = 4 * n then p else b 30 0 k := by
          intro k
          rw [← hB']
          simp [mset]
        have en : moN b' = n + 1 := by unfold moN; rw [B72]; omega
        have e32 := B1 32 (by decide) (by decide) (by decide)
        have b30o : ∀ i j, i ≠ n → j < 4 → b' 30 0 (4 * i + j) = b 30 0 (4 * i + j) := by
          intro i j hi hj
          rw [B30, if_neg (by omega), if_neg (by omega), if_neg (by omega), if_neg (by omega)]
        have n0 : b' 30 0 (4 * n) = p := by rw [B30, if_neg (by omega), if_neg (by omega), if_neg (by omega), if_pos rfl]
        have n1 : b' 30 0 (4 * n + 1) = pe := by rw [B30, if_neg (by omega), if_neg (by omega), if_pos rfl]
        have n2 : b' 30 0 (4 * n + 2) = dl := by rw [B30, if_neg (by omega), if_pos rfl]
        have n3 : b' 30 0 (4 * n + 3) = o := by rw [B30, if_pos rfl]
        have n31 : b' 31 0 n = 0 := by rw [B31, if_pos rfl]
        have hLe : ∀ i k, moLe b' i k = moLe b i k := fun i k => by unfold moLe; rw [e32]
        have hRe : ∀ i k, moRe b' i k = moRe b i k := fun i k => by unfold moRe; rw [e32]
        have hPr : ∀ i, i ≠ n → moPr b' i = moPr b i := fun i hi => b30o i 0 hi (by decide)
        have hSo : ∀ i, i ≠ n → moS b' i = moS b i := fun i hi => by unfold moS; rw [B31, if_neg hi]
        have hDe : ∀ i, i ≠ n → moDe b' i = moDe b i := by
          intro i hi
          unfold moDe
          rw [hSo i hi]
          exact lp_cong (fun j s _ => by rw [hLe]) 0
        have C' : ∀ i, i < n + 1 → tC a' b' i := by
          intro i hi
          by_cases e : i = n
          · subst e
            refine ⟨⟨?_, ?_, ?_, ?_, ?_, ?_, ?_⟩, ?_, ?_⟩
            · rw [t5.1]; exact n0.symm
            · rw [t5.2.1]; exact n1.symm
            · rw [t5.2.2.1, n2]
            · rw [t5.2.2.2.1, n3]
            · rw [t5.2.2.2.2.1, n31]
            · rw [t5.2.2.2.2.2.1]
              unfold moDe moS
              rw [n31]
              rfl
            · intro k hk
              unfold moS at hk
              rw [n31] at hk
              exact absurd hk (by decide +revert)
            · unfold moPr moPe
              rw [n0, n1, n2, n3, n31]
              omega
            · intro k hk
              unfold moS at hk
              rw [n31] at hk
              exact absurd hk (by decide +revert)
          · have hC := hK.2.1 i (by omega)
            unfold tC at *
            unfold moPe at *
            rw [(Ao i e).2.1, hPr i e, hDe i e, hSo i e, b30o i 1 e (by decide), b30o i 2 e (by decide), b30o i 3 e (by decide), B31, if_neg e, A1 19 (by decide) (by decide) (by decide) (by decide), A1 20 (by decide) (by decide) (by decide) (by decide)]
            refine ⟨⟨hC.1.1, hC.1.2.1, hC.1.2.2.1, hC.1.2.2.2.1, hC.1.2.2.2.2.1, hC.1.2.2.2.2.2.1, fun k hk => ?_⟩, hC.2.1, fun k hk => ?_⟩
            · rw [hRe, hLe]; exact hC.1.2.2.2.2.2.2 k hk
            · rw [hLe]; exact hC.2.2 k hk
        obtain ⟨k1, k2, k3, k4, k5, k6⟩ := id hK
        have v6 := B7 6 (by decide) (by decide)
        have K' : kR a' b' := by
          refine ⟨⟨?_, ?_, ?_, ?_⟩, fun i hi => C' i (by rw [en] at hi; exact hi), fun r hr => ?_, ?_, ?_, ?_⟩
          · rw [A0, if_pos rfl, B72]
          · rw [A0, if_neg (by decide), B7 1 (by decide) (by decide)]; exact k1.2.1
          · rw [B7 1 (by decide) (by decide)]; exact k1.2.2.1
          · rw [B7 1 (by decide) (by decide)]; exact k1.2.2.2
          · rw [A1 17 (by decide) (by decide) (by decide) (by decide), k3 r hr]
            unfold moCe
            rw [en, hnm]
            show _ = moCi b' r n (lp (fun i s => moCi b' r i s) n 0)
            have e1 : ∀ s, moCi b' r n s = s := by
              intro s
              unfold moCi moS
              rw [n31]
              rfl
            rw [e1]
            refine lp_cong (fun j s hj => ?_) 0
            unfold moCi
            rw [hSo j (by omega), hPr j (by omega)]
            exact lp_cong (fun k s _ => by rw [hRe]) s
          · rw [A1 4 (by decide) (by decide) (by decide) (by decide), v6, B7 7 (by decide) (by decide), B7 8 (by decide) (by decide)]
            exact k4
          · unfold anA at *
            rw [A0, if_pos rfl, A1 17 (by decide) (by decide) (by decide) (by decide), A1 4 (by decide) (by decide) (by decide) (by decide), A1 19 (by decide) (by decide) (by decide) (by decide), A1 20 (by decide) (by decide) (by decide) (by decide)]
            refine ⟨by omega, fun i hi => ?_, k5.2.2⟩
            by_cases e : i = n
            · subst e
              refine ⟨?_, (k5.2.1 i hi).2⟩
              rw [t5.1, t5.2.1, t5.2.2.1, t5.2.2.2.2.1, t5.2.2.2.2.2.1]
              omega
            · rw [(Ao i e).2.1]
              exact k5.2.1 i hi
          · unfold moA at *
            rw [B72, v6, B7 7 (by decide) (by decide), B7 8 (by decide) (by decide)]
            refine ⟨by omega, fun i hi => ?_, fun i hi => ?_, fun i hi => ?_, fun i k hi hk => ?_, k6.2.2.2.2.2⟩
            · rw [B31]
              split
              · omega
              · exact k6.2.1 i hi
            · by_cases e : i = n
              · subst e
                rw [n0, n1, n2, n3]
                omega
              · have := k6.2.2.1 i hi
                have e0 := b30o i 0 e (by decide)
                rw [Nat.add_zero] at e0
                rw [e0, b30o i 1 e (by decide), b30o i 2 e (by decide), b30o i 3 e (by decide)]
                exact this
            · by_cases e : i = n
              · subst e
                rw [n1]
                omega
              · rw [b30o i 1 e (by decide)]
                exact k6.2.2.2.1 i (by omega)
            · rw [hRe, hLe]
              exact k6.2.2.2.2.1 i k hi hk
        refine ⟨⟨K', fun i hi => ?_, fun i hi => ?_, ?_, ?_, ?_, ?_, fun i hi hi5 => ?_⟩, ?_, ?_, hT⟩
        · rw [en] at hi
          by_cases e : i = n
          · subst e
            refine tR_beg (C' i (by omega)) ?_ ?_ ?_ t5.2.2.2.2.2.2.2.1 t5.2.2.2.2.2.2.2.2.1 t5.2.2.2.2.2.2.2.2.2.1 t5.2.2.2.2.2.2.2.2.2.2 An22 ?_ ?_ ?_ ?_ ?_
            · rw [An1, if_pos (by decide)]
            · rw [An1, if_pos (by decide)]
            · rw [t5.2.2.2.2.2.2.1, t5.2.2.2.1]
            · rw [B1 36 (by decide) (by decide) (by decide)]; exact hO'.1.1
            · rw [B1 37 (by decide) (by decide) (by decide)]; exact hO'.1.2.1
            · rw [B1 38 (by decide) (by decide) (by decide)]; exact hO'.1.2.2.1
            · rw [B1 40 (by decide) (by decide) (by decide)]; exact hO'.1.2.2.2
            · rw [B1 39 (by decide) (by decide) (by decide)]; exact hO'.2.1
          · refine tR_0c (hK.2.1 i (by omega)) (C' i hi) (hR i (by omega)) (Ao i e).1 (fun k _ => by rw [(Ao i e).2.1]) (Ao i e).2.2 (b30o i 3 e (by decide)) ?_ ?_ ?_ ?_ (B1 39 (by decide) (by decide) (by decide))
            · rw [B1 36 (by decide) (by decide) (by decide)]
            · rw [B1 37 (by decide) (by decide) (by decide)]
            · rw [B1 38 (by decide) (by decide) (by decide)]
            · rw [B1 40 (by decide) (by decide) (by decide)]
        · have r := hB i hi
          unfold tB at *
          rw [A1 21 (by decide) (by decide) (by decide) (by decide), B1 35 (by decide) (by decide) (by decide), B1 36 (by decide) (by decide) (by decide), B1 37 (by decide) (by decide) (by decide), B1 38 (by decide) (by decide) (by decide)]
          by_cases e : i = n
          · subst e
            refine ⟨r.1, r.2.1, ?_, ?_, ?_, r.2.2.2.2.2⟩
            · rw [An1, An1, if_pos (by decide), if_pos (by decide)]; omega
            · rw [t5.2.2.2.2.2.2.2.2.1]; omega
            · rw [t5.2.2.2.2.2.2.2.2.2.1]; omega
          · rw [(Ao i e).1, (Ao i e).2.1]
            exact r
        · exact sV_d (A1 4 (by decide) (by decide) (by decide) (by decide)) (A1 11 (by decide) (by decide) (by decide) (by decide)) (A1 12 (by decide) (by decide) (by decide) (by decide)) (fun k hk => B7 k (by omega) (by omega)) (B1 43 (by decide) (by decide) (by decide)) hS
        · exact qR_c (A1 3 (by decide) (by decide) (by decide) (by decide)) (A1 13 (by decide) (by decide) (by decide) (by decide)) (A1 14 (by decide) (by decide) (by decide) (by decide)) (A1 15 (by decide) (by decide) (by decide) (by decide)) (A1 16 (by decide) (by decide) (by decide) (by decide)) (B7 9 (by decide) (by decide)) (B1 33 (by decide) (by decide) (by decide)) (B1 41 (by decide) (by decide) (by decide)) (B1 42 (by decide) (by decide) (by decide)) hQ
        · exact nR_c (A1 18 (by decide) (by decide) (by decide) (by decide)) (B1 34 (by decide) (by decide) (by decide)) hN
        · refine exR_0 (fun i hi => ?_)
          rw [A0, if_pos rfl] at hi
          by_cases e : i = n
          · subst e; exact t5.2.2.2.2.2.2.2.2.2.1
          · rw [(Ao i e).2.1]
            exact (t0 (hR i (by omega))).2.2.2.2.1
        · rw [en] at hi
          have r := hO i (by omega) hi5
          unfold tO at *
          rw [(Ao i (by omega)).2.1, (Ao i (by omega)).2.2, B1 36 (by decide) (by decide) (by decide), B1 37 (by decide) (by decide) (by decide), B1 38 (by decide) (by decide) (by decide), B1 39 (by decide) (by decide) (by decide), B1 40 (by decide) (by decide) (by decide)]
          exact r
        · rw [A0, if_neg (by decide)]; exact ha
        · rw [B7 11 (by decide) (by decide)]; exact hb
    · have eA : (bePt a p pe dl o).2 = a := by
        unfold bePt
        rw [ha, if_neg (fun g => g h1), if_pos (by omega)]
      have eB : (moAddTask b p pe dl o).2 = mset (mset b 7 0 0 0) 7 0 0 2 := by
        unfold moAddTask
        rw [hb, if_neg (by omega), if_pos (by omega)]
      rw [eA, eB]
      exact sR_thr (sR_thr h)
  · have eA : (bePt a p pe dl o).2 = a := by
      unfold bePt
      rw [ha, if_pos h1]
    have eB : (moAddTask b p pe dl o).2 = mset (mset b 7 0 0 0) 7 0 0 1 := by
      unfold moAddTask
      rw [hb, if_pos (by omega)]
    rw [eA, eB]
    exact sR_thr (sR_thr h)
