/-! all of it: the phases of a unit -/
def tO (a b : zkM) (i : Nat) : Prop := (b 36 0 i = 0 ∧ b 37 0 i = 0 ∧ b 38 0 i = 0 ∧ b 40 0 i = 0) ∧ (∀ k, k < 6 → b 39 0 (6 * i + k) = 0) ∧ (a 5 i 11 = 0 ∨ a 5 i 11 = 1) ∧ inR (a 22 i 0)
def nR (a b : zkM) (E : Int) : Prop := (∀ k : Nat, (k : Int) < E → a 18 0 k = b 34 0 k) ∧ (∀ k, k < 400 → -1 ≤ a 18 0 k ∧ a 18 0 k ≤ 9) ∧ (∀ k, k < 400 → -1 ≤ b 34 0 k ∧ b 34 0 k ≤ 9)
def phR (a b : zkM) (T U L N E : Int) : Prop := kR a b ∧ (∀ i, i < moN b → tR a b T U i) ∧ (∀ i, i < 5 → tB a b i) ∧ sV a b L N ∧ qR a b ∧ nR a b E ∧ exR a ∧ (∀ i, moN b ≤ i → i < 5 → tO a b i)
theorem tO_c {a a' b b' : zkM} {i j : Nat} (hij : j ≠ i) (o1 : cO a a' i) (o : mO b b' i) (h : tO a b j) : tO a' b' j := by
  obtain ⟨⟨q1, q2, q3, q4⟩, q5, q6⟩ := o j hij
  obtain ⟨p1, p2, p3, p4⟩ := o1 j hij
  exact ⟨by rw [q1, q2, q3, q4]; exact h.1, fun k hk => by rw [q6 k hk]; exact h.2.1 k hk, by rw [p2, p4]; exact h.2.2⟩
theorem nR_c {a a' b b' : zkM} {E : Int} (h18 : a' 18 = a 18) (e34 : b' 34 = b 34) (h : nR a b E) : nR a' b' E := by
  unfold nR at *
  rw [h18, e34]
  exact h
theorem tR_e {a a' b b' : zkM} {T U : Int} {i : Nat} (h1 : a' 1 = a 1) (h5 : a' 5 = a 5) (h21 : a' 21 = a 21) (h22 : a' 22 = a 22) (e : ∀ t, 30 ≤ t → t ≠ 33 → t ≠ 34 → t ≤ 40 → b' t = b t) (h : tR a b T U i) : tR a' b' T U i := by
  unfold tR tQ tP tN tZ moDp moLe at *
  rw [h1, h5, h21, h22, e 30 (by decide) (by decide) (by decide) (by decide), e 31 (by decide) (by decide) (by decide) (by decide), e 32 (by decide) (by decide) (by decide) (by decide), e 35 (by decide) (by decide) (by decide) (by decide), e 36 (by decide) (by decide) (by decide) (by decide), e 37 (by decide) (by decide) (by decide) (by decide), e 38 (by decide) (by decide) (by decide) (by decide), e 39 (by decide) (by decide) (by decide) (by decide), e 40 (by decide) (by decide) (by decide) (by decide)]
  exact h
theorem tB_e {a a' b b' : zkM} {i : Nat} (h1 : a' 1 = a 1) (h5 : a' 5 = a 5) (h21 : a' 21 = a 21) (e : ∀ t, 30 ≤ t → t ≠ 33 → t ≠ 34 → t ≤ 40 → b' t = b t) (h : tB a b i) : tB a' b' i := by
  unfold tB at *
  rw [h1, h5, h21, e 35 (by decide) (by decide) (by decide) (by decide), e 36 (by decide) (by decide) (by decide) (by decide), e 37 (by decide) (by decide) (by decide) (by decide), e 38 (by decide) (by decide) (by decide) (by decide)]
  exact h
theorem tO_e {a a' b b' : zkM} {i : Nat} (h5 : a' 5 = a 5) (h22 : a' 22 = a 22) (e : ∀ t, 30 ≤ t → t ≠ 33 → t ≠ 34 → t ≤ 40 → b' t = b t) (h : tO a b i) : tO a' b' i := by
  unfold tO at *
  rw [h5, h22, e 36 (by decide) (by decide) (by decide) (by decide), e 37 (by decide) (by decide) (by decide) (by decide), e 38 (by decide) (by decide) (by decide) (by decide), e 39 (by decide) (by decide) (by decide) (by decide), e 40 (by decide) (by decide) (by decide) (by decide)]
  exact h
theorem sV_c2 {a a' b b' : zkM} {L N : Int} (h4 : a' 4 = a 4) (h11 : a' 11 = a 11) (h12 : a' 12 = a 12) (e7 : ∀ k, k ≠ 0 → k ≠ 11 → b' 7 0 k = b 7 0 k) (e43 : b' 43 = b 43) (h : sV a b L N) : sV a' b' L N := by
  unfold sV plS at *
  rw [h4, h11, h12, e43, e7 6 (by decide) (by decide), e7 7 (by decide) (by decide), e7 8 (by decide) (by decide), e7 19 (by decide) (by decide), e7 20 (by decide) (by decide), e7 21 (by decide) (by decide), e7 22 (by decide) (by decide), e7 26 (by decide) (by decide)]
  exact h
theorem moN_c {b b' : zkM} (e : b' 7 0 2 = b 7 0 2) : moN b' = moN b := by
  unfold moN
  rw [e]
theorem exR_e {a a' : zkM} (h0 : a' 0 0 5 = a 0 0 5) (h5 : a' 5 = a 5) (h17 : a' 17 = a 17) (h19 : a' 19 = a 19) (h : exR a) : exR a' := by
  refine exR_c h0 (fun i => by rw [h5]) h17 (fun i _ => Or.inl (taHd_c (by rw [h5]) (by rw [h5]) h19)) h
/-- phase 1: replenishments -/
theorem ph1 {a b : zkM} {T U E : Int} (hT : 0 ≤ T ∧ T < 400) (h : phR a b T U T T E) (hc : b 7 0 11 = T) : phR (seRp a T) (moRepl b) T U (T + 1) T E ∧ moRepl b 7 0 11 = T ∧ seRp a T 0 = a 0 ∧ moN (moRepl b) = moN b := by
  obtain ⟨hK, hR, hB, hS, hQ, hN, hX, hO⟩ := h
  obtain ⟨g1, g2, g3, g4, g5⟩ := st_repl hT hK.2.2.2.2.2 hS hc
  have en : moN (moRepl b) = moN b := moN_c (g5 2 (by decide) (by decide))
  have eb : ∀ t, 30 ≤ t → t ≠ 33 → t ≠ 34 → t ≤ 40 → moRepl b t = b t := fun t h1 _ _ h2 => g4 t (by omega) (by omega)
  refine ⟨⟨?_, ?_, ?_, g1, ?_, ?_, ?_, ?_⟩, by rw [g5 11 (by decide) (by decide)]; exact hc, g2 0 (by decide) (by decide) (by decide), en⟩
  · exact kR_c (by rw [g2 0 (by decide) (by decide) (by decide)]) (by rw [g2 0 (by decide) (by decide) (by decide)]) (fun i k _ => by rw [g2 5 (by decide) (by decide) (by decide)]) (g2 17 (by decide) (by decide) (by decide)) (g2 19 (by decide) (by decide) (by decide)) (g2 20 (by decide) (by decide) (by decide)) (g3 3 (by decide) (by decide)) (g3 4 (by decide) (by decide)) (g3 5 (by decide) (by decide)) (g3 6 (by decide) (by decide)) (g5 1 (by decide) (by decide)) (g5 2 (by decide) (by decide)) (g5 6 (by decide) (by decide)) (g5 7 (by decide) (by decide)) (g5 8 (by decide) (by decide)) (g4 30 (by decide) (by decide)) (g4 31 (by decide) (by decide)) (g4 32 (by decide) (by decide)) hK
  · intro i hi
    rw [en] at hi
    exact tR_e (g2 1 (by decide) (by decide) (by decide)) (g2 5 (by decide) (by decide) (by decide)) (g2 21 (by decide) (by decide) (by decide)) (g2 22 (by decide) (by decide) (by decide)) eb (hR i hi)
  · exact fun i hi => tB_e (g2 1 (by decide) (by decide) (by decide)) (g2 5 (by decide) (by decide) (by decide)) (g2 21 (by decide) (by decide) (by decide)) eb (hB i hi)
  · exact qR_c (g2 3 (by decide) (by decide) (by decide)) (g2 13 (by decide) (by decide) (by decide)) (g2 14 (by decide) (by decide) (by decide)) (g2 15 (by decide) (by decide) (by decide)) (g2 16 (by decide) (by decide) (by decide)) (g5 9 (by decide) (by decide)) (g4 33 (by decide) (by decide)) (g4 41 (by decide) (by decide)) (g4 42 (by decide) (by decide)) hQ
  · exact nR_c (g2 18 (by decide) (by decide) (by decide)) (g4 34 (by decide) (by decide)) hN
  · exact exR_e (by rw [g2 0 (by decide) (by decide) (by decide)]) (g2 5 (by decide) (by decide) (by decide)) (g2 17 (by decide) (by decide) (by decide)) (g2 19 (by decide) (by decide) (by decide)) hX
  · intro i hi hi5
    rw [en] at hi
    exact tO_e (g2 5 (by decide) (by decide) (by decide)) (g2 22 (by decide) (by decide) (by decide)) eb (hO i hi hi5)
/-- a phase in which only tasks do something, one after the other -/
theorem ph_tasks {f g : Nat → zkM → zkM} {a b : zkM} {T T' U U' L N E : Int} (hT : T ≤ 401) (hT' : T' ≤ 401) (h : phR a b T U L N E) (hstep : ∀ i a' b', i < moN b → cS a a' → mS b b' → tB a' b' i → tR a' b' T U i → (tR (f i a') (g i b') T' U' i ∧ tB (f i a') (g i b') i) ∧ (cS a' (f i a') ∧ mS b' (g i b') ∧ cO a' (f i a') i ∧ mO b' (g i b') i)) (hh : ∀ i a', taHd (f i a') i = taHd a' i ∨ taHd (f i a') i = -1) : phR (lp f (moN b) a) (lp g (moN b) b) T' U' L N E ∧ cS a (lp f (moN b) a) ∧ mS b (lp g (moN b) b) ∧ ∀ j, j < moN b → kR (lp f j a) (lp g j b) ∧ tR (lp f j a) (lp g j b) T U j ∧ tB (lp f j a) (lp g j b) j := by
  obtain ⟨hK, hR, hB, hS, hQ, hN, hX, hO⟩ := h
  have hn := kR_n hK
  have hl := lp_tasks (f := f) (g := g) hn.2.1 hT hT' hstep hR hB
  have hx : ∀ j, j ≤ moN b → (∀ i, moN b ≤ i → i < 5 → tO (lp f j a) (lp g j b) i) ∧ ∀ i, taHd (lp f j a) i = taHd a i ∨ taHd (lp f j a) i = -1 := by
    intro j
    induction j with
    | zero => intro _; exact ⟨hO, fun i => Or.inl rfl⟩
    | succ j ih =>
      intro hj
      obtain ⟨i1, i2⟩ := ih (by omega)
      obtain ⟨l1, l2, l3, l4, l5⟩ := hl j (by omega)
      obtain ⟨-, g3, g4, g5, g6⟩ := hstep j (lp f j a) (lp g j b) (by omega) l4 l5 (l3 j (by omega)) (l2 j (by omega) (by omega))
      refine ⟨fun i hi hi5 => tO_c (i := j) (by omega) g5 g6 (i1 i hi hi5), fun i => ?_⟩
      show taHd (f j (lp f j a)) i = taHd a i ∨ taHd (f j (lp f j a)) i = -1
      by_cases e : i = j
      · subst e
        rcases hh i (lp f i a) with h1 | h1
        · rw [h1]; exact i2 i
        · exact Or.inr h1
      · have := (g5 i e).2.1
        rw [taHd_c (by rw [this]) (by rw [this]) (g3.1 19 (by decide) (by decide) (by decide) (by decide))]
        exact i2 i
  obtain ⟨l1, l2, l3, l4, l5⟩ := hl (moN b) (Nat.le_refl _)
  obtain ⟨x1, x2⟩ := hx (moN b) (Nat.le_refl _)
  have c1 := fun t h1 h2 h3 h4 => l4.1 t h1 h2 h3 h4
  have e7 : lp g (moN b) b 7 = b 7 := l5 7 (by decide) (by decide) (by decide) (by decide) (by decide) (by decide)
  have en : moN (lp g (moN b) b) = moN b := moN_c (by rw [e7])
  refine ⟨⟨kR_s l4 l5 hK, fun i hi => l1 i (by rw [en] at hi; exact hi), l3, ?_, ?_, ?_, ?_, fun i hi hi5 => x1 i (by rw [en] at hi; exact hi) hi5⟩, l4, l5, fun j hj => ?_⟩
  · exact sV_c (c1 4 (by decide) (by decide) (by decide) (by decide)) (c1 11 (by decide) (by decide) (by decide) (by decide)) (c1 12 (by decide) (by decide) (by decide) (by decide)) e7 (l5 43 (by decide) (by decide) (by decide) (by decide) (by decide) (by decide)) hS
  · exact qR_c (c1 3 (by decide) (by decide) (by decide) (by decide)) (c1 13 (by decide) (by decide) (by decide) (by decide)) (c1 14 (by decide) (by decide) (by decide) (by decide)) (c1 15 (by decide) (by decide) (by decide) (by decide)) (c1 16 (by decide) (by decide) (by decide) (by decide)) (by rw [e7]) (l5 33 (by decide) (by decide) (by decide) (by decide) (by decide) (by decide)) (l5 41 (by decide) (by decide) (by decide) (by decide) (by decide) (by decide)) (l5 42 (by decide) (by decide) (by decide) (by decide) (by decide) (by decide)) hQ
  · exact nR_c (c1 18 (by decide) (by decide) (by decide) (by decide)) (l5 34 (by decide) (by decide) (by decide) (by decide) (by decide) (by decide)) hN
  · exact exR_c (by rw [c1 0 (by decide) (by decide) (by decide) (by decide)]) (fun i => l4.2 i 4 (by decide)) (c1 17 (by decide) (by decide) (by decide) (by decide)) (fun i _ => x2 i) hX
  · obtain ⟨m1, m2, m3, m4, m5⟩ := hl j (by omega)
    exact ⟨kR_s m4 m5 hK, m2 j (Nat.le_refl _) hj, m3 j (by omega)⟩
