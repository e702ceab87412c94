/-! the requests -/
def qR (a b : zkM) : Prop := (a 3 0 4 = b 7 0 9 ∧ 0 ≤ b 7 0 9 ∧ b 7 0 9 ≤ 12) ∧ (∀ k : Nat, (k : Int) < b 7 0 9 → a 13 0 k = b 33 0 (2 * k) ∧ a 14 0 k = b 33 0 (2 * k + 1) ∧ a 15 0 k = b 41 0 k ∧ (a 16 0 k = if b 42 0 k = -1 then -1 else b 42 0 k - b 33 0 (2 * k)) ∧ (0 < b 41 0 k → b 42 0 k = -1) ∧ (b 42 0 k ≠ -1 → b 33 0 (2 * k) < b 42 0 k ∧ b 42 0 k ≤ 400)) ∧ (∀ k, k < 12 → (0 ≤ a 13 0 k ∧ a 13 0 k ≤ 300) ∧ (0 ≤ a 14 0 k ∧ a 14 0 k ≤ 9) ∧ (0 ≤ a 15 0 k ∧ a 15 0 k ≤ 9) ∧ (-1 ≤ a 16 0 k ∧ a 16 0 k ≤ 400)) ∧ (∀ k, k < 12 → (0 ≤ b 33 0 (2 * k) ∧ b 33 0 (2 * k) ≤ 300) ∧ (0 ≤ b 33 0 (2 * k + 1) ∧ b 33 0 (2 * k + 1) ≤ 9) ∧ (0 ≤ b 41 0 k ∧ b 41 0 k ≤ 9) ∧ (-1 ≤ b 42 0 k ∧ b 42 0 k ≤ 400))
theorem qR_c {a a' b b' : zkM} (h3 : a' 3 = a 3) (h13 : a' 13 = a 13) (h14 : a' 14 = a 14) (h15 : a' 15 = a 15) (h16 : a' 16 = a 16) (e9 : b' 7 0 9 = b 7 0 9) (e33 : b' 33 = b 33) (e41 : b' 41 = b 41) (e42 : b' 42 = b 42) (h : qR a b) : qR a' b' := by
  unfold qR at *
  rw [h3, h13, h14, h15, h16, e9, e33, e41, e42]
  exact h
theorem moFq_c {b b' : zkM} (e9 : b' 7 0 9 = b 7 0 9) (e33 : b' 33 = b 33) (e41 : b' 41 = b 41) (t : Int) : moFq b' t = moFq b t := by
  unfold moFq moQf
  rw [e9, e33, e41]
theorem rqNx_c {a a' : zkM} (e3 : a' 3 0 4 = a 3 0 4) (e13 : a' 13 = a 13) (e15 : a' 15 = a 15) (t : Int) : rqNx a' t = rqNx a t := by
  unfold rqNx rqNf
  rw [e3, e13, e15]
theorem fq_eq {a b : zkM} (h : qR a b) (t : Int) : rqNx a t = moFq b (t + 1) ∧ (moFq b (t + 1) = -1 ∨ (0 ≤ moFq b (t + 1) ∧ moFq b (t + 1) < b 7 0 9 ∧ 0 < b 41 0 (moFq b (t + 1)).toNat ∧ b 33 0 (2 * (moFq b (t + 1)).toNat) ≤ t)) := by
  obtain ⟨⟨h1, h2, h3⟩, h4, -⟩ := h
  unfold rqNx moFq
  rw [h1]
  have hgo : ∀ j : Nat, (j : Int) ≤ b 7 0 9 → lp (rqNf a t) j (-1) = lp (moQf b (t + 1)) j (-1) ∧ (lp (moQf b (t + 1)) j (-1) = -1 ∨ (0 ≤ lp (moQf b (t + 1)) j (-1) ∧ lp (moQf b (t + 1)) j (-1) < j ∧ 0 < b 41 0 (lp (moQf b (t + 1)) j (-1)).toNat ∧ b 33 0 (2 * (lp (moQf b (t + 1)) j (-1)).toNat) ≤ t)) := by
    intro j
    induction j with
    | zero => intro _; exact ⟨rfl, Or.inl rfl⟩
    | succ j ih =>
      intro hj
      obtain ⟨g1, g2⟩ := ih (by omega)
      show rqNf a t j (lp (rqNf a t) j (-1)) = moQf b (t + 1) j (lp (moQf b (t + 1)) j (-1)) ∧ (moQf b (t + 1) j (lp (moQf b (t + 1)) j (-1)) = -1 ∨ (0 ≤ moQf b (t + 1) j (lp (moQf b (t + 1)) j (-1)) ∧ moQf b (t + 1) j (lp (moQf b (t + 1)) j (-1)) < ((j + 1 : Nat) : Int) ∧ 0 < b 41 0 (moQf b (t + 1) j (lp (moQf b (t + 1)) j (-1))).toNat ∧ b 33 0 (2 * (moQf b (t + 1) j (lp (moQf b (t + 1)) j (-1))).toNat) ≤ t))
      rw [g1]
      generalize lp (moQf b (t + 1)) j (-1) = x at *
      have q1 := h4 j (by omega)
      unfold rqNf moQf
      rw [q1.1, q1.2.2.1]
      by_cases hx : x = -1
      · subst hx
        by_cases hc : b 33 0 (2 * j) ≤ t ∧ 0 < b 41 0 j
        · rw [if_pos ⟨hc, Or.inl rfl⟩, if_pos ⟨⟨hc.2, by omega⟩, Or.inl rfl⟩]
          exact ⟨rfl, Or.inr ⟨by omega, by omega, by simpa using hc.2, by simpa using hc.1⟩⟩
        · rw [if_neg (fun h => hc h.1), if_neg (fun h => hc ⟨by omega, h.1.1⟩)]
          exact ⟨rfl, Or.inl rfl⟩
      · have g3 := g2.resolve_left hx
        have q2 := h4 x.toNat (by omega)
        rw [q2.1]
        by_cases hc : (b 33 0 (2 * j) ≤ t ∧ 0 < b 41 0 j) ∧ b 33 0 (2 * j) < b 33 0 (2 * x.toNat)
        · rw [if_pos ⟨hc.1, Or.inr hc.2⟩, if_pos ⟨⟨hc.1.2, by omega⟩, Or.inr hc.2⟩]
          exact ⟨rfl, Or.inr ⟨by omega, by omega, by simpa using hc.1.2, by simpa using hc.1.1⟩⟩
        · rw [if_neg (fun h => hc ⟨h.1, h.2.resolve_left hx⟩), if_neg (fun h => hc ⟨⟨by omega, h.1.1⟩, h.2.resolve_left hx⟩)]
          exact ⟨rfl, Or.inr ⟨by omega, by omega, g3.2.2.1, g3.2.2.2⟩⟩
  have hf := hgo (b 7 0 9).toNat (by omega)
  refine ⟨hf.1, hf.2.imp id (fun g => ⟨g.1, by omega, g.2.2.1, g.2.2.2⟩)⟩
/-- a request is served for a unit -/
theorem st_srq {a b a' b' : zkM} {T : Int} {r : Nat} (hT : 0 ≤ T ∧ T < 400) (h : qR a b) (hr : (r : Int) < b 7 0 9) (hl : 0 < b 41 0 r) (ht : b 33 0 (2 * r) ≤ T) (h3 : a' 3 = a 3) (h13 : a' 13 = a 13) (h14 : a' 14 = a 14) (h15 : a' 15 = (rqSv a r (T + 1)) 15) (h16 : a' 16 = (rqSv a r (T + 1)) 16) (e9 : b' 7 0 9 = b 7 0 9) (e33 : b' 33 = b 33) (e41 : b' 41 = (mset b 41 0 r (b 41 0 r - 1)) 41) (e42 : b' 42 = (mset b 42 0 r (if b 41 0 r - 1 = 0 then T + 1 else -1)) 42) : qR a' b' := by
  obtain ⟨⟨h1, h2, h3'⟩, h4, h5, h6⟩ := h
  obtain ⟨q1, q2, q3, q4, q5, q6⟩ := h4 r hr
  have hr12 : r < 12 := by omega
  have eA : rqSv a r (T + 1) = if b 41 0 r - 1 = 0 then mset (mset a 15 0 r (b 41 0 r - 1)) 16 0 r (T + 1 - b 33 0 (2 * r)) else mset a 15 0 r (b 41 0 r - 1) := by
    unfold rqSv
    rw [if_neg (by omega)]
    simp only [Int.toNat_natCast]
    rw [q3, q1]
  rw [eA] at h15 h16
  have g15 : a' 15 = (mset a 15 0 r (b 41 0 r - 1)) 15 := by
    rw [h15]
    split
    · rfl
    · rfl
  have g16 : a' 16 = if b 41 0 r - 1 = 0 then (mset a 16 0 r (T + 1 - b 33 0 (2 * r))) 16 else a 16 := by
    rw [h16]
    split
    · rfl
    · rfl
  unfold qR
  rw [h3, h13, h14, e9, e33, g15, e41, e42, g16]
  refine ⟨⟨h1, h2, h3'⟩, fun k hk => ?_, fun k hk => ?_, fun k hk => ?_⟩
  · have g := h4 k hk
    by_cases hkr : k = r
    · subst hkr
      refine ⟨g.1, g.2.1, by simp [mset], ?_, ?_, ?_⟩
      · by_cases h0 : b 41 0 k - 1 = 0
        · simp [mset, h0]
          omega
        · simp [mset, h0]
          rw [q4, if_pos (q5 hl)]
      · simp [mset]
        intro h0
        omega
      · simp [mset]
        by_cases h0 : b 41 0 k - 1 = 0
        · rw [if_pos h0]; omega
        · rw [if_neg h0]; omega
    · refine ⟨g.1, g.2.1, by simp [mset, hkr]; exact g.2.2.1, ?_, ?_, ?_⟩
      · have e1 : (if b 41 0 r - 1 = 0 then (mset a 16 0 r (T + 1 - b 33 0 (2 * r))) 16 else a 16) 0 k = a 16 0 k := by
          split
          · simp [mset, hkr]
          · rfl
        rw [e1]
        simp [mset, hkr]
        exact g.2.2.2.1
      · simp [mset, hkr]
        exact g.2.2.2.2.1
      · simp [mset, hkr]
        exact g.2.2.2.2.2
  · have g := h5 k hk
    have gr := h6 r hr12
    refine ⟨g.1, g.2.1, ?_, ?_⟩
    · simp only [mset]
      split
      · omega
      · exact g.2.2.1
    · split
      · simp only [mset]
        split
        · omega
        · exact g.2.2.2
      · exact g.2.2.2
  · have g := h6 k hk
    have gr := h6 r hr12
    refine ⟨g.1, g.2.1, ?_, ?_⟩
    · simp only [mset]
      split
      · omega
      · exact g.2.2.1
    · simp only [mset]
      split
      · split <;> omega
      · exact g.2.2.2
