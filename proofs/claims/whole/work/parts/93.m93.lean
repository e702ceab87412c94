/-! what the contracts ask, out of the relation -/
def pmC (a : zkM) : Prop := anA a ∧ beP a ∧ (0 ≤ a 3 0 4 ∧ a 3 0 4 ≤ 12) ∧ (∀ k, k < 12 → inR (a 16 0 k)) ∧ (∀ k, k < 400 → inR (a 18 0 k)) ∧ (0 ≤ a 0 0 7 ∧ a 0 0 7 ≤ 400) ∧ inR (seNx a) ∧ inR (a 4 0 2) ∧ (∀ i, i < 5 → inR (a 22 i 0)) ∧ (∀ i, i < 5 → a 5 (5 * 0 + i) 11 = 0 ∨ a 5 (5 * 0 + i) 11 = 1) ∧ (a 4 0 8 = 0 ∨ a 4 0 8 = 1)
def pmM (b : zkM) : Prop := moA b ∧ (0 ≤ b 7 0 9 ∧ b 7 0 9 ≤ 12) ∧ (0 ≤ b 7 0 11 ∧ b 7 0 11 ≤ 400) ∧ (∀ t, t < 5 → inR (b 36 0 t) ∧ inR (b 37 0 t)) ∧ (∀ k, k < 30 → inR (b 39 0 k)) ∧ (∀ k, k < 400 → inR (b 34 0 k)) ∧ (0 ≤ b 7 0 26 ∧ b 7 0 26 ≤ 399) ∧ (∀ k, k < 800 → inR (b 43 0 k)) ∧ (∀ r, r < 12 → inR (b 42 0 r))
theorem pm_c {a b : zkM} {T : Int} (h : sR a b T) : pmC a := by
  obtain ⟨hp, ha, hb, hT⟩ := h
  obtain ⟨q1, q2, q3, q4⟩ := phR_beP hp
  obtain ⟨hK, hR, hB, hS, hQ, hN, hX, hO⟩ := hp
  have hA := hK.2.2.2.2.1
  have hM := hK.2.2.2.2.2
  have h26 := (sV_n hM hS).1
  have hmN : ∀ i, i < 5 → (i < moN b ∨ moN b ≤ i) := fun i _ => Nat.lt_or_ge i (moN b)
  refine ⟨hA, q1, q2.1, fun k hk => ?_, q4, by omega, ?_, ?_, fun i hi => ?_, fun i hi => ?_, q3.2.1⟩
  · have := (hQ.2.2.1 k hk).2.2.2
    unfold inR; omega
  · have := hS.2.2.2.2.2.2.2.2.1 0 (by decide)
    unfold seNx inR
    split <;> omega
  · have := hS.2.1
    unfold inR; omega
  · rcases hmN i hi with h1 | h1
    · have := (hR i h1).2.2.2.2.1 0 (by decide)
      unfold inR; omega
    · exact (hO i h1 hi).2.2.2
  · rw [Nat.mul_zero, Nat.zero_add]
    rcases hmN i hi with h1 | h1
    · have := (hR i h1).2.2.2.1
      omega
    · exact (hO i h1 hi).2.2.1
theorem pm_m {a b : zkM} {T : Int} (h : sR a b T) : pmM b := by
  obtain ⟨hp, ha, hb, hT⟩ := h
  have q0 := phR_Q0 hp
  obtain ⟨hK, hR, hB, hS, hQ, hN, hX, hO⟩ := hp
  have hM := hK.2.2.2.2.2
  have h26 := (sV_n hM hS).1
  refine ⟨hM, q0.1, by omega, fun t ht => ?_, fun k hk => ?_, fun k hk => ?_, ?_, fun k hk => ?_, fun r hr => ?_⟩
  · have := hB t ht
    have h6 := this.2.2.2.2.2.1
    have h7 := this.2.2.2.2.2.2.1
    unfold inR; omega
  · have e : 6 * (k / 6) + k % 6 = k := by omega
    rcases Nat.lt_or_ge (k / 6) (moN b) with h1 | h1
    · have := (hR (k / 6) h1).2.2.2.2.1 (k % 6) (by omega)
      rw [e] at this
      unfold inR; omega
    · have := (hO (k / 6) h1 (by omega)).2.1 (k % 6) (by omega)
      rw [e] at this
      unfold inR; omega
  · have := hN.2.2 k hk
    unfold inR; omega
  · have := hS.2.1
    omega
  · have := hS.2.2.2.2.2.2.2.2.2.1 k hk
    unfold inR; omega
  · have := (hQ.2.2.2 r hr).2.2.2
    unfold inR; omega
