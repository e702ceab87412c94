/-! a task's release keeps the relation -/
theorem joAdd_at {m : zkM} {n : Nat} {x : Int} (h : m 1 n 2 < 400) : joAdd m n x = mset (mset m 21 n (m 1 n 2).toNat x) 1 n 2 (m 1 n 2 + 1) := if_pos h
theorem st_rel {a b : zkM} {T U : Int} {i : Nat} (hi : i < 5) (hT : 0 ≤ T ∧ T < 400) (hU : 0 ≤ U) (hc : b 7 0 11 = T) (hC : tC a b i) (hB : tB a b i) (hR : tR a b T U i) : (tR (taRl a i T) (moF2 i b) (T + 1) (U + 1) i ∧ tB (taRl a i T) (moF2 i b) i) ∧ (cS a (taRl a i T) ∧ mS b (moF2 i b) ∧ cO a (taRl a i T) i ∧ mO b (moF2 i b) i) := by
  obtain ⟨⟨c4, c5, c6, c7, c8, c9, c10⟩, ⟨d1, d2, d3, d4, d5, d6, d7, d8, d9⟩, d10⟩ := hC
  obtain ⟨b1, b2, b3, b4, b5, b6, b7, b8⟩ := hB
  obtain ⟨⟨⟨q1, q2, q3, q4⟩, q5, q6⟩, ⟨p1, p2, p3, p4⟩, ⟨n1, n2⟩, ⟨z1, z2, z3⟩⟩ := hR
  by_cases hS : b 31 0 i = 0
  · have eA : taRl a i T = a := by unfold taRl; rw [if_pos (Or.inl (by omega))]
    have eB : moF2 i b = b := by unfold moF2; rw [if_neg (by omega)]
    rw [eA, eB]
    refine ⟨⟨⟨⟨⟨q1, q2, q3, by omega⟩, fun k hk => ⟨(q5 k hk).1, (q5 k hk).2.1, by have := (q5 k hk).2.2; omega⟩, q6⟩, ⟨p1, p2, p3, p4⟩, ⟨fun h => absurd h (by omega), n2⟩, ⟨z1, fun k hk => ⟨(z2 k hk).1, (z2 k hk).2.1, by have := (z2 k hk).2.2; omega⟩, by omega⟩⟩, ⟨b1, b2, b3, b4, b5, b6, b7, b8⟩⟩, cS_r a, mS_r b, cO_r a i, mO_r b i⟩
  · obtain ⟨m1, m2, m3, m4⟩ := n1 (by omega)
    have hiff := nr_iff (per := b 30 0 (4 * i + 1)) d2 m1 m2 m3 m4
    by_cases hn : T = a 5 i 10
    · obtain ⟨x1, x2, x3, x4⟩ := nr_nx (per := b 30 0 (4 * i + 1)) d2 m1 m2 m3 m4 hn
      have hg := hiff.mp hn
      have c5' : a 5 i 5 = b 30 0 (4 * i + 1) := c5
      have hnr : a 5 i 10 + b 30 0 (4 * i + 1) ≤ 1000 := by unfold moPe at d3; omega
      by_cases hsk : b 38 0 i = 1
      · have eA : taRl a i T = mset (mset (mset a 5 i 10 (a 5 i 10 + a 5 i 5)) 5 i 11 0) 22 i 3 (a 22 i 3 + 1) := by
          unfold taRl
          rw [if_neg (by omega), if_neg (by omega)]
        have eB : moF2 i b = mset (mset b 38 0 i 0) 39 0 (6 * i + 3) (b 39 0 (6 * i + 3) + 1) := by
          unfold moF2
          rw [hc, if_pos ⟨by omega, hg.1, hg.2⟩, if_pos hsk]
        rw [eA, eB]
        refine ⟨⟨⟨⟨⟨q1, q2, q3, ?_⟩, ?_, q6⟩, ?_, ⟨?_, ?_⟩, ⟨?_, ?_, ?_⟩⟩, ?_⟩, ?_, ?_, ?_, ?_⟩
        · show a 1 i 2 ≤ T + 1
          omega
        · intro k hk
          exact ⟨(q5 k hk).1, (q5 k hk).2.1, by have := (q5 k hk).2.2; show b 35 0 (401 * i + k) < T + 1; omega⟩
        · exact ⟨by simpa [mset, moDp, moLe] using p1, by simpa [mset, moLe] using p2, by simpa [mset] using p3, p4⟩
        · intro _
          simp only [mset]
          simp
          rw [c5']
          exact ⟨x1, x2, x3, x4⟩
        · intro h
          exact absurd h hS
        · simp [mset]
        · intro k hk
          have := z2 k hk
          have h3 := z2 3 (by omega)
          simp only [mset]
          by_cases hk3 : k = 3
          · subst hk3
            simp
            omega
          · rw [if_neg (by omega), if_neg (by omega), if_neg (by omega), if_neg (by omega), if_neg (by omega)]
            omega
        · simp [mset]
          omega
        · refine ⟨b1, b2, b3, by simpa [mset] using b4, by simpa [mset] using b5, b6, b7, by simp [mset]⟩
        · exact cS_m (cS_m (cS_m (cS_r a) (by omega)) (by omega)) (by omega)
        · exact mS_m (mS_m (mS_r b) (by omega)) (by omega)
        · exact cO_m (cO_m (cO_m (cO_r a i)))
        · exact mO_m (mO_m (mO_r b i) hi (by omega)) hi (by omega)
      · have eA : taRl a i T = mset (mset (mset a 5 i 10 (a 5 i 10 + a 5 i 5)) 21 i (a 1 i 2).toNat T) 1 i 2 (a 1 i 2 + 1) := by
          unfold taRl
          rw [if_neg (by omega), if_pos (by omega), joAdd_at (by show a 1 i 2 < 400; omega)]
          rfl
        have eB : moF2 i b = mset (mset b 35 0 (401 * i + (b 36 0 i).toNat) T) 36 0 i (b 36 0 i + 1) := by
          unfold moF2
          rw [hc, if_pos ⟨by omega, hg.1, hg.2⟩, if_neg hsk]
        rw [eA, eB]
        refine ⟨⟨⟨⟨⟨?_, ?_, ?_, ?_⟩, ?_, ?_⟩, ?_, ⟨?_, ?_⟩, ⟨?_, ?_, ?_⟩⟩, ?_⟩, ?_, ?_, ?_, ?_⟩
        · simpa [mset] using q1
        · simp [mset]; omega
        · simp [mset]; omega
        · simp [mset]; omega
        · intro k hk
          simp [mset] at hk
          simp only [mset]
          by_cases hkk : (k : Int) = b 36 0 i
          · have hA : (a 1 i 1).toNat + k = (a 1 i 2).toNat := by omega
            have hB : k = (b 36 0 i).toNat := by omega
            simp [hA]
            rw [if_pos hB]
            omega
          · have hq := q5 k (by omega)
            have hA : (a 1 i 1).toNat + k ≠ (a 1 i 2).toNat := by omega
            have hB : k ≠ (b 36 0 i).toNat := by omega
            simp [hA, hB]
            omega
        · intro k hk
          simp [mset] at hk
          simp only [mset]
          have hB : k ≠ (b 36 0 i).toNat := by omega
          simp [hB]
          by_cases hkk : (k : Int) + 1 = b 36 0 i
          · have hB2 : k + 1 = (b 36 0 i).toNat := by omega
            rw [if_pos hB2]
            exact (q5 k (by omega)).2.2
          · have hB2 : k + 1 ≠ (b 36 0 i).toNat := by omega
            rw [if_neg hB2]
            exact q6 k (by omega)
        · refine ⟨by simpa [mset, moDp, moLe] using p1, by simpa [mset, moLe] using p2, ?_, ?_⟩
          · intro h
            simp [mset] at h
            omega
          · intro h
            exact absurd h hS
        · intro _
          simp only [mset]
          simp
          rw [c5']
          exact ⟨x1, x2, x3, x4⟩
        · intro h
          exact absurd h hS
        · simpa [mset] using z1
        · intro k hk
          have := z2 k hk
          simp [mset]
          omega
        · simp [mset]
          omega
        · refine ⟨fun k hk => ?_, fun k hk => ?_, ?_, by simpa [mset] using b4, by simpa [mset] using b5, ?_, b7, b8⟩
          · have := b1 k hk
            simp only [mset]
            simp
            split <;> omega
          · have := b2 k hk
            simp only [mset]
            simp
            split <;> omega
          · simp [mset]; omega
          · simp [mset]; omega
        · exact cS_m (cS_m (cS_m (cS_r a) (by omega)) (by omega)) (by omega)
        · exact mS_m (mS_m (mS_r b) (by omega)) (by omega)
        · exact cO_m (cO_m (cO_m (cO_r a i)))
        · exact mO_m (mO_m (mO_r b i) hi (by omega)) hi (by omega)
    · have eA : taRl a i T = a := by unfold taRl; rw [if_pos (Or.inr hn)]
      have eB : moF2 i b = b := by
        unfold moF2
        rw [hc, if_neg (fun h => hn (hiff.mpr ⟨h.2.1, h.2.2⟩))]
      rw [eA, eB]
      refine ⟨⟨⟨⟨⟨q1, q2, q3, by omega⟩, fun k hk => ⟨(q5 k hk).1, (q5 k hk).2.1, by have := (q5 k hk).2.2; omega⟩, q6⟩, ⟨p1, p2, p3, p4⟩, ⟨fun _ => ⟨by omega, m2, m3, by omega⟩, n2⟩, ⟨z1, fun k hk => ⟨(z2 k hk).1, (z2 k hk).2.1, by have := (z2 k hk).2.2; omega⟩, by omega⟩⟩, ⟨b1, b2, b3, b4, b5, b6, b7, b8⟩⟩, cS_r a, mS_r b, cO_r a i, mO_r b i⟩
