/-! the preemption's count -/
theorem tR_u {a b : zkM} {T U U' : Int} {i : Nat} (h : tR a b T U i) (hU : U ≤ U') : tR a b T U' i := by
  obtain ⟨h1, h2, h3, z1, z2, z3⟩ := h
  exact ⟨h1, h2, h3, z1, fun k hk => ⟨(z2 k hk).1, (z2 k hk).2.1, by have := (z2 k hk).2.2; omega⟩, z3.1, z3.2.1, by have := z3.2.2; omega⟩
theorem st_pre {a b : zkM} {T U c : Int} (hT : 0 ≤ T ∧ T < 400) (hU : 0 ≤ U) (hK : kR a b) (ha : a 0 0 7 = T) (hb : b 7 0 11 = T) (hran : ∀ k : Nat, (k : Int) < T → a 18 0 k = b 34 0 k) (hR : ∀ i, i < moN b → tR a b (T + 1) U i) (hB : ∀ i, i < 5 → tB a b i) : (∀ i, i < moN b → tR (beNp a c) (moPre b c) (T + 1) (U + 1) i) ∧ (∀ i, i < 5 → tB (beNp a c) (moPre b c) i) ∧ (∀ t, t ≠ 22 → beNp a c t = a t) ∧ (∀ t, t ≠ 39 → moPre b c t = b t) := by
  have hn := kR_n hK
  have ebf : beBf a = moBf2 b := by
    unfold beBf moBf2
    rw [ha, hb]
    by_cases h0 : T = 0
    · rw [if_neg (by omega), if_pos h0]
    · rw [if_pos (by omega), if_neg h0, hran _ (by omega)]
  by_cases hc : (0 ≤ moBf2 b ∧ moBf2 b ≤ b 7 0 2 - 1) ∧ moBf2 b ≠ c ∧ 0 < b 37 0 (moBf2 b).toNat
  · have hp : (moBf2 b).toNat < moN b := by unfold moN; omega
    have hpg := (pg_pos (hK.2.1 _ hp) (hR _ hp).2.1).mp hc.2.2
    have eA : beNp a c = mset a 22 (moBf2 b).toNat 4 (a 22 (moBf2 b).toNat 4 + 1) := by
      unfold beNp
      rw [ebf, if_pos ⟨hc.2.1, by omega, hpg⟩]
    have eB : moPre b c = mset b 39 0 (6 * (moBf2 b).toNat + 4) (b 39 0 (6 * (moBf2 b).toNat + 4) + 1) := by
      unfold moPre
      rw [if_pos hc]
    rw [eA, eB]
    generalize (moBf2 b).toNat = p at *
    have s1 : cS a (mset a 22 p 4 (a 22 p 4 + 1)) := cS_m (cS_r a) (by omega)
    have s2 : mS b (mset b 39 0 (6 * p + 4) (b 39 0 (6 * p + 4) + 1)) := mS_m (mS_r b) (by omega)
    have o1 : cO a (mset a 22 p 4 (a 22 p 4 + 1)) p := cO_m (cO_r a p)
    have o2 : mO b (mset b 39 0 (6 * p + 4) (b 39 0 (6 * p + 4) + 1)) p := mO_m (mO_r b p) (by omega) (by omega)
    refine ⟨fun i hi => ?_, fun i hi => ?_, fun t ht => mset_t ht _ _ _ _, fun t ht => mset_t ht _ _ _ _⟩
    · by_cases hip : i = p
      · subst hip
        obtain ⟨h1, h2, h3, z1, z2, z3⟩ := hR i hi
        refine ⟨h1, h2, h3, z1, fun k hk => ?_, z3.1, z3.2.1, ?_⟩
        · have g1 := z2 k hk
          have g4 := z2 4 (by omega)
          simp only [mset]
          by_cases hk4 : k = 4
          · subst hk4
            simp
            omega
          · simp [hk4]
            omega
        · show b 40 0 i ≤ 400 * (U + 1)
          have := z3.2.2
          omega
      · exact tR_u (tR_c (by omega) hip s1 s2 o1 o2 (hR i hi)) (by omega)
    · by_cases hip : i = p
      · subst hip
        exact hB i hi
      · exact tB_c hip o1 o2 (hB i hi)
  · have eA : beNp a c = a := by
      unfold beNp
      rw [ebf, if_neg]
      rintro ⟨g1, g2, g3⟩
      have hp : (moBf2 b).toNat < moN b := by unfold moN; omega
      have hpg := (pg_pos (hK.2.1 _ hp) (hR _ hp).2.1).mpr g3
      exact hc ⟨by omega, g1, hpg⟩
    have eB : moPre b c = b := by
      unfold moPre
      rw [if_neg hc]
    rw [eA, eB]
    exact ⟨fun i hi => tR_u (hR i hi) (by omega), hB, fun _ _ => rfl, fun _ _ => rfl⟩
/-- all tasks, one after the other -/
theorem lp_tasks {f g : Nat → zkM → zkM} {a b : zkM} {T T' U U' : Int} {n : Nat} (hn : n ≤ 5) (hT : T ≤ 401) (hT' : T' ≤ 401) (hstep : ∀ i a' b', i < n → cS a a' → mS b b' → tB a' b' i → tR a' b' T U i → (tR (f i a') (g i b') T' U' i ∧ tB (f i a') (g i b') i) ∧ (cS a' (f i a') ∧ mS b' (g i b') ∧ cO a' (f i a') i ∧ mO b' (g i b') i)) (hR : ∀ i, i < n → tR a b T U i) (hB : ∀ i, i < 5 → tB a b i) : ∀ j, j ≤ n → (∀ i, i < j → tR (lp f j a) (lp g j b) T' U' i) ∧ (∀ i, j ≤ i → i < n → tR (lp f j a) (lp g j b) T U i) ∧ (∀ i, i < 5 → tB (lp f j a) (lp g j b) i) ∧ cS a (lp f j a) ∧ mS b (lp g j b)
  | 0, _ => ⟨fun i hi => absurd hi (by omega), fun i _ hi => hR i hi, hB, cS_r a, mS_r b⟩
  | j + 1, hj => by
    obtain ⟨h1, h2, h3, h4, h5⟩ := lp_tasks hn hT hT' hstep hR hB j (by omega)
    obtain ⟨⟨g1, g2⟩, g3, g4, g5, g6⟩ := hstep j (lp f j a) (lp g j b) (by omega) h4 h5 (h3 j (by omega)) (h2 j (by omega) (by omega))
    refine ⟨fun i hi => ?_, fun i hji hin => ?_, fun i hi => ?_, cS_t h4 g3, mS_t h5 g4⟩
    · show tR (f j (lp f j a)) (g j (lp g j b)) T' U' i
      by_cases e : i = j
      · subst e; exact g1
      · exact tR_c hT' e g3 g4 g5 g6 (h1 i (by omega))
    · show tR (f j (lp f j a)) (g j (lp g j b)) T U i
      exact tR_c hT (by omega) g3 g4 g5 g6 (h2 i (by omega) hin)
    · show tB (f j (lp f j a)) (g j (lp g j b)) i
      by_cases e : i = j
      · subst e; exact g2
      · exact tB_c e g5 g6 (h3 i hi)
