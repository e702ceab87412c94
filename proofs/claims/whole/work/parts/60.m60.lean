theorem cS_row {a a' : zkM} {i : Nat} {f : Nat → Int} (h : cS a a') : cS a (mrow a' 21 i f) := by
  refine ⟨fun t' h1 h2 h3 h4 => ?_, fun i' k' hk => ?_⟩
  · rw [← h.1 t' h1 h2 h3 h4]
    funext i' k'
    exact mrow_t h3 _ _ _ _ _
  · rw [← h.2 i' k' hk]
    exact mrow_t (by decide) _ _ _ _ _
theorem mS_row {b b' : zkM} {f : Nat → Int} (h : mS b b') : mS b (mrow b' 35 0 f) := by
  intro t' h1 h2 h3 h4 h5 h6
  rw [← h t' h1 h2 h3 h4 h5 h6]
  funext i' k'
  exact mrow_t h1 _ _ _ _ _
theorem cO_row {a a' : zkM} {i : Nat} {f : Nat → Int} (h : cO a a' i) : cO a (mrow a' 21 i f) i := by
  intro j hj
  obtain ⟨h1, h2, h3, h4⟩ := h j hj
  refine ⟨?_, ?_, ?_, ?_⟩
  · rw [← h1]; funext k; exact mrow_i hj _ _ _ _ _
  · rw [← h2]; funext k; exact mrow_i hj _ _ _ _ _
  · rw [← h3]; funext k; exact mrow_i hj _ _ _ _ _
  · rw [← h4]; funext k; exact mrow_i hj _ _ _ _ _
theorem mO_row {b b' : zkM} {i : Nat} {f : Nat → Int} (h : mO b b' i) (hf : ∀ j k, j ≠ i → k < 401 → f (401 * j + k) = b' 35 0 (401 * j + k)) : mO b (mrow b' 35 0 f) i := by
  intro j hj
  obtain ⟨⟨h1, h2, h3, h4⟩, h5, h6⟩ := h j hj
  refine ⟨⟨h1, h2, h3, h4⟩, fun k hk => ?_, h6⟩
  rw [mrow_s, hf j k hj hk]
  exact h5 k hk
/-- a job goes: what both sides look like then -/
theorem tQ_del {a b a' b' : zkM} {T : Int} {i p : Nat} (hi : i < 5) (hT : T ≤ 401) (h : tQ a b T i) (hp : (p : Int) < b 36 0 i) (A1 : a' 1 i 1 = a 1 i 1) (A2 : a' 1 i 2 = a 1 i 2 - 1) (A21 : ∀ x, a' 21 i x = if (a 1 i 1).toNat + p ≤ x ∧ x < (a 1 i 2).toNat - 1 then a 21 i (x + 1) else a 21 i x) (B36 : b' 36 0 i = b 36 0 i - 1) (B35 : ∀ k, k < 401 → b' 35 0 (401 * i + k) = if p ≤ k ∧ k < (b 36 0 i).toNat - 1 then b 35 0 (401 * i + (k + 1)) else b 35 0 (401 * i + k)) : tQ a' b' T i := by
  obtain ⟨⟨q1, q2, q3, q4⟩, q5, q6⟩ := h
  refine ⟨⟨by omega, by omega, by omega, by omega⟩, fun k hk => ?_, fun k hk => ?_⟩
  · rw [A1, A21, B35 k (by omega)]
    by_cases g : p ≤ k
    · rw [if_pos (by omega), if_pos (by omega)]
      exact q5 (k + 1) (by omega)
    · rw [if_neg (by omega), if_neg (by omega)]
      exact q5 k (by omega)
  · rw [B35 k (by omega), B35 (k + 1) (by omega)]
    by_cases g : p ≤ k
    · rw [if_pos (by omega), if_pos (by omega)]
      exact q6 (k + 1) (by omega)
    · rw [if_neg (by omega)]
      by_cases g2 : p ≤ k + 1
      · rw [if_pos (by omega)]
        have h1 := q6 k (by omega)
        have h2 := q6 (k + 1) (by omega)
        omega
      · rw [if_neg (by omega)]
        exact q6 k (by omega)
theorem moTJ_f {m : zkM} {t ix : Nat} (h : (ix : Int) < m 36 0 t) : moTJ m t ix = mset (mrow (mset m 36 0 t (m 36 0 t - 1)) 35 0 (fun x => if 401 * t + ix ≤ x ∧ x < 401 * t + ((m 36 0 t).toNat - 1) then m 35 0 (x + 1) else m 35 0 x)) 37 0 t (if ix = 0 then 0 else m 37 0 t) := by
  unfold moTJ
  rw [moTJ2_e m t ix h]
  rfl
theorem st_miss {a b : zkM} {T U po : Int} {i : Nat} (hi : i < 5) (hT : 0 ≤ T ∧ T < 400) (hU : 0 ≤ U) (hc : b 7 0 11 = T) (hpo : po = b 7 0 1) (hp2 : 0 ≤ po ∧ po ≤ 2) (hC : tC a b i) (hB : tB a b i) (hR : tR a b (T + 1) U i) : (tR (taMs a i T po) (moF5 i b) (T + 1) (U + 1) i ∧ tB (taMs a i T po) (moF5 i b) i) ∧ (cS a (taMs a i T po) ∧ mS b (moF5 i b) ∧ cO a (taMs a i T po) i ∧ mO b (moF5 i b) i) := by
  have hC' := hC
  have hR' := hR
  have hB' := hB
  obtain ⟨⟨c4, c5, c6, c7, c8, c9, c10⟩, ⟨d1, d2, d3, d4, d5, d6, d7, d8, d9⟩, d10⟩ := hC
  obtain ⟨b1, b2, b3, b4, b5, b6, b7, b8⟩ := hB
  obtain ⟨hQ, ⟨p1, p2, p3, p4⟩, hN, ⟨z1, z2, z3⟩⟩ := hR
  have hQ' := hQ
  obtain ⟨⟨q1, q2, q3, q4⟩, q5, q6⟩ := hQ
  have hmono : ∀ k, k + 1 < (b 36 0 i).toNat → a 21 i ((a 1 i 1).toNat + k) < a 21 i ((a 1 i 1).toNat + (k + 1)) := by
    intro k hk
    rw [(q5 k (by omega)).1, (q5 (k + 1) (by omega)).1]
    exact q6 k (by omega)
  have eQ : (a 1 i 2 - a 1 i 1).toNat = (b 36 0 i).toNat := by omega
  have hz : ∀ U' : Int, U ≤ U' → ∀ k : Nat, k < 6 → a 22 i k = b 39 0 (6 * i + k) ∧ 0 ≤ b 39 0 (6 * i + k) ∧ b 39 0 (6 * i + k) ≤ 400 + U' := fun U' hU' k hk => ⟨(z2 k hk).1, (z2 k hk).2.1, by have := (z2 k hk).2.2; omega⟩
  rcases joPf_spec (x := T - a 5 i 6) hmono (b 36 0 i).toNat (Nat.le_refl _) with ⟨g1, g2⟩ | ⟨p, g1, g2, g3⟩
  · have eA : taMs a i T po = a := by
      unfold taMs joPl
      rw [eQ, if_pos g1]
    have eB : moF5 i b = b := moF5_no (fun k hk => by
      have h1 := g2 k hk
      rw [(q5 k (by omega)).1] at h1
      omega)
    rw [eA, eB]
    refine ⟨⟨⟨hQ', ⟨p1, p2, p3, p4⟩, hN, ⟨z1, hz (U + 1) (by omega), by omega⟩⟩, hB'⟩, cS_r a, mS_r b, cO_r a i, mO_r b i⟩
  · have hpl : joPl a i (T - a 5 i 6) = (p : Int) := by unfold joPl; rw [eQ, g2]
    rw [(q5 p (by omega)).1] at g3
    have hpc : b 35 0 (401 * i + p) + b 30 0 (4 * i + 2) = b 7 0 11 := by omega
    have hothers : ∀ k : Nat, k < (b 36 0 i).toNat → k ≠ p → b 35 0 (401 * i + k) + b 30 0 (4 * i + 2) ≠ b 7 0 11 := by
      intro k hk hkp
      have hm := mono_q (v := fun k => a 21 i ((a 1 i 1).toNat + k)) hmono
      have e1 := (q5 k (by omega)).1
      have e2 := (q5 p (by omega)).1
      by_cases hlt : k < p
      · have h1 := hm (p - k) k (by omega)
        have e : k + (p - k) = p := by omega
        simp only [e] at h1
        omega
      · have h1 := hm (k - p) p (by omega)
        have e : p + (k - p) = k := by omega
        simp only [e] at h1
        omega
    by_cases hp1 : po = 1
    · -- the job is removed
      have eB0 : moMf i p b = mset (mrow (mset (mset (mset (mset b 39 0 (6 * i + 1) (b 39 0 (6 * i + 1) + 1)) 38 0 i (b 38 0 i)) 39 0 (6 * i + 2) (b 39 0 (6 * i + 2) + 1)) 36 0 i (b 36 0 i - 1)) 35 0 (fun x => if 401 * i + p ≤ x ∧ x < 401 * i + ((b 36 0 i).toNat - 1) then b 35 0 (x + 1) else b 35 0 x)) 37 0 i (if p = 0 then 0 else b 37 0 i) := by
        unfold moMf
        rw [if_pos hpc, if_pos (by omega)]
        unfold moM2
        have e1 : moM1 i b = mset (mset b 39 0 (6 * i + 1) (b 39 0 (6 * i + 1) + 1)) 38 0 i (b 38 0 i) := by
          unfold moM1
          rw [if_neg (by omega)]
        rw [e1]
        have e3 : (mset (mset b 39 0 (6 * i + 1) (b 39 0 (6 * i + 1) + 1)) 38 0 i (b 38 0 i)) 39 0 (6 * i + 2) = b 39 0 (6 * i + 2) := by
          simp [mset]
        rw [e3, moTJ_f (by show (p : Int) < b 36 0 i; omega)]
        rfl
      have eB : moF5 i b = moMf i p b := by
        refine moF5_at g1 hpc hothers (fun k hk => ?_) ?_ ?_
        · rw [eB0, mset_t (by decide), mrow_s, if_neg (by omega)]
        · rw [eB0, mset_t (by decide)]; rfl
        · rw [eB0]; rfl
      rw [eB, eB0]
      have eA : taMs a i T po = mset (mrow (mset (if p = 0 then mset (mset (mset a 22 i 1 (a 22 i 1 + 1)) 5 i 12 0) 5 i 13 0 else mset a 22 i 1 (a 22 i 1 + 1)) 1 i 2 (a 1 i 2 - 1)) 21 i (fun x => if (a 1 i 1).toNat + p ≤ x ∧ x < (a 1 i 2).toNat - 1 then a 21 i (x + 1) else a 21 i x)) 22 i 2 (a 22 i 2 + 1) := by
        unfold taMs
        rw [hpl, if_neg (by omega), if_pos hp1]
        unfold taRj
        by_cases h0 : p = 0
        · subst h0
          rw [if_pos (by rfl), if_pos rfl]
          rw [joRm_e (by show (((0 : Nat) : Int)) < a 1 i 2 - a 1 i 1; omega) (by show 0 ≤ a 1 i 1; exact q1)]
          have e3 : (mrow (mset (mset (mset (mset a 22 i 1 (a 22 i 1 + 1)) 5 i 12 0) 5 i 13 0) 1 i 2 (a 1 i 2 - 1)) 21 i (fun x => if (a 1 i 1).toNat + 0 ≤ x ∧ x < (a 1 i 2).toNat - 1 then a 21 i (x + 1) else a 21 i x)) 22 i 2 = a 22 i 2 := by
            simp [mset, mrow]
          rw [← e3]
          rfl
        · rw [if_neg (by omega), if_neg h0]
          rw [joRm_e (by show (p : Int) < a 1 i 2 - a 1 i 1; omega) (by show 0 ≤ a 1 i 1; exact q1)]
          have e3 : (mrow (mset (mset a 22 i 1 (a 22 i 1 + 1)) 1 i 2 (a 1 i 2 - 1)) 21 i (fun x => if (a 1 i 1).toNat + p ≤ x ∧ x < (a 1 i 2).toNat - 1 then a 21 i (x + 1) else a 21 i x)) 22 i 2 = a 22 i 2 := by
            simp [mset, mrow]
          rw [← e3]
          rfl
      rw [eA]
      generalize hX : (if p = 0 then mset (mset (mset a 22 i 1 (a 22 i 1 + 1)) 5 i 12 0) 5 i 13 0 else mset a 22 i 1 (a 22 i 1 + 1)) = X
      have X1 : X 1 = a 1 := by rw [← hX]; split <;> rfl
      have X21 : X 21 = a 21 := by rw [← hX]; split <;> rfl
      have X22 : ∀ k, X 22 i k = if k = 1 then a 22 i 1 + 1 else a 22 i k := by
        intro k
        rw [← hX]
        split <;> simp [mset]
      have X5 : ∀ k, k ≠ 12 → k ≠ 13 → X 5 i k = a 5 i k := by
        intro k hk1 hk2
        rw [← hX]
        split <;> simp [mset, hk1, hk2]
      have X12 : X 5 i 12 = if p = 0 then 0 else a 5 i 12 := by
        rw [← hX]
        split <;> simp [mset]
      have X13 : X 5 i 13 = if p = 0 then 0 else a 5 i 13 := by
        rw [← hX]
        split <;> simp [mset]
      have Xs : cS a X := by
        rw [← hX]
        split
        · exact cS_m (cS_m (cS_m (cS_r a) (by omega)) (by omega)) (by omega)
        · exact cS_m (cS_r a) (by omega)
      have Xo : cO a X i := by
        rw [← hX]
        split
        · exact cO_m (cO_m (cO_m (cO_r a i)))
        · exact cO_m (cO_r a i)
      refine ⟨⟨⟨?_, ?_, ?_, ?_⟩, ?_⟩, ?_, ?_, ?_, ?_⟩
      · refine tQ_del (p := p) hi (by omega) hQ' (by omega) ?_ ?_ ?_ ?_ ?_
        · simp [mset, mrow, X1]
        · simp [mset, mrow]
        · intro x; simp [mset, mrow]
        · simp [mset, mrow]
        · intro k hk
          simp only [mset, mrow]
          simp
          by_cases h : p ≤ k ∧ k < (b 36 0 i).toNat - 1
          · rw [if_pos h, if_pos h]; rfl
          · rw [if_neg h, if_neg h]
      · refine ⟨?_, ?_, ?_, ?_⟩
        · simp only [mset, mrow]
          simp [X12, X13]
          by_cases h0 : p = 0
          · simp [h0, moDp]
            rfl
          · simp [h0]
            exact ⟨p1.1, p1.2.1, p1.2.2⟩
        · intro hS
          have := p2 hS
          simp only [mset, mrow]
          simp [X12, X13]
          by_cases h0 : p = 0
          · simp [h0]
            have hS' : 0 < b 31 0 i := hS
            exact ⟨hS', by have := (d10 0 (by unfold moS; omega)).1; show 0 < moLe b i 0; omega⟩
          · simp [h0]
            exact this
        · simp only [mset, mrow]
          simp [X12, X13]
          intro h
          have : p = 0 := by omega
          simp [this]
        · intro h
          have := p4 h
          omega
      · unfold tN at *
        simp only [mset, mrow]
        simp [X5]
        exact hN
      · refine ⟨?_, ?_, ?_⟩
        · simp [mset, mrow, X5]
          exact z1
        · intro k hk
          have h1 := z2 k hk
          have h3 := z2 1 (by omega)
          have h4 := z2 2 (by omega)
          simp only [mset, mrow]
          simp [X22]
          by_cases hk1 : k = 1
          · simp [hk1]; omega
          · by_cases hk2 : k = 2
            · simp [hk2]; omega
            · simp [hk1, hk2]; omega
        · simp [mset, mrow, X5]
          omega
      · refine ⟨fun k hk => ?_, fun k hk => ?_, ?_, ?_, ?_, ?_, ?_, ?_⟩
        · simp only [mset, mrow]
          simp
          split
          · exact b1 _ (by omega)
          · exact b1 k hk
        · simp only [mset, mrow]
          simp
          split
          · exact b2 (k + 1) (by omega)
          · exact b2 k hk
        · simp [mset, mrow, X1]; omega
        · simp [mset, mrow, X12]; split <;> omega
        · simp [mset, mrow, X13]; split <;> omega
        · simp [mset, mrow]; omega
        · simp [mset, mrow]; split <;> omega
        · simp [mset, mrow]; exact b8
      · exact cS_m (cS_row (cS_m Xs (by omega))) (by omega)
      · exact mS_m (mS_row (mS_m (mS_m (mS_m (mS_m (mS_r b) (by omega)) (by omega)) (by omega)) (by omega))) (by omega)
      · exact cO_m (cO_row (cO_m Xo))
      · refine mO_m (mO_row (mO_m (mO_m (mO_m (mO_m (mO_r b i) hi (by omega)) hi (by omega)) hi (by omega)) hi (by omega)) (fun j k hj hk => ?_)) hi (by omega)
        rw [if_neg (by omega)]
        rfl
    · have eB0 : moMf i p b = mset (mset b 39 0 (6 * i + 1) (b 39 0 (6 * i + 1) + 1)) 38 0 i (if po = 2 then 1 else b 38 0 i) := by
        unfold moMf
        rw [if_pos hpc, if_neg (by omega)]
        unfold moM1
        rw [hpo]
      have eB : moF5 i b = moMf i p b := by
        refine moF5_at g1 hpc hothers (fun k hk => ?_) ?_ ?_
        · rw [eB0]; rfl
        · rw [eB0]; rfl
        · rw [eB0]; rfl
      rw [eB, eB0]
      by_cases hp3 : po = 2
      · have eA : taMs a i T po = mset (mset a 22 i 1 (a 22 i 1 + 1)) 5 i 11 1 := by
          unfold taMs
          rw [hpl, if_neg (by omega), if_neg hp1, if_pos hp3]
        rw [eA, if_pos hp3]
        refine ⟨⟨⟨hQ', ?_, ?_, ?_⟩, ?_⟩, ?_, ?_, ?_, ?_⟩
        · exact ⟨by simpa [mset, moDp, moLe] using p1, by simpa [mset, moLe] using p2, by simpa [mset] using p3, p4⟩
        · unfold tN at *
          simpa [mset] using hN
        · refine ⟨by simp [mset], ?_, ?_⟩
          · intro k hk
            have h1 := z2 k hk
            have h3 := z2 1 (by omega)
            simp only [mset]
            simp
            by_cases hk1 : k = 1
            · simp [hk1]; omega
            · simp [hk1]; omega
          · simp [mset]
            omega
        · exact ⟨b1, b2, b3, by simpa [mset] using b4, by simpa [mset] using b5, b6, b7, by simp [mset]⟩
        · exact cS_m (cS_m (cS_r a) (by omega)) (by omega)
        · exact mS_m (mS_m (mS_r b) (by omega)) (by omega)
        · exact cO_m (cO_m (cO_r a i))
        · exact mO_m (mO_m (mO_r b i) hi (by omega)) hi (by omega)
      · have eA : taMs a i T po = mset a 22 i 1 (a 22 i 1 + 1) := by
          unfold taMs
          rw [hpl, if_neg (by omega), if_neg hp1, if_neg hp3]
        rw [eA, if_neg hp3]
        refine ⟨⟨⟨hQ', ?_, hN, ?_⟩, ?_⟩, ?_, ?_, ?_, ?_⟩
        · exact ⟨p1, p2, p3, p4⟩
        · refine ⟨by simpa [mset] using z1, ?_, ?_⟩
          · intro k hk
            have h1 := z2 k hk
            have h3 := z2 1 (by omega)
            simp only [mset]
            simp
            by_cases hk1 : k = 1
            · simp [hk1]; omega
            · simp [hk1]; omega
          · simp [mset]
            omega
        · exact ⟨b1, b2, b3, b4, b5, b6, b7, by simpa [mset] using b8⟩
        · exact cS_m (cS_r a) (by omega)
        · exact mS_m (mS_m (mS_r b) (by omega)) (by omega)
        · exact cO_m (cO_r a i)
        · exact mO_m (mO_m (mO_r b i) hi (by omega)) hi (by omega)
