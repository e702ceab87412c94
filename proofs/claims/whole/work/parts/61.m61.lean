/-! how far a job is; what it holds; it runs for a unit -/
theorem moDp_s (b : zkM) (i s : Nat) : moDp b i (s + 1) = moDp b i s + moLe b i s := rfl
theorem moDp_up {b : zkM} {i S : Nat} (h : ∀ k, k < S → 1 ≤ moLe b i k ∧ moLe b i k ≤ 9) : ∀ d s : Nat, s + d ≤ S → moDp b i s + d ≤ moDp b i (s + d) ∧ moDp b i (s + d) ≤ moDp b i s + 9 * d
  | 0, s, _ => by simp
  | d + 1, s, hd => by
    have h1 := moDp_up h d s (by omega)
    have h2 := h (s + d) (by omega)
    have e : s + (d + 1) = s + d + 1 := by omega
    rw [e, moDp_s]
    push_cast
    omega
theorem moDp_0 (b : zkM) (i : Nat) : moDp b i 0 = 0 := rfl
theorem moDe_p (b : zkM) (i : Nat) : moDe b i = moDp b i (moS b i) := rfl
theorem moSN_at {b : zkM} {i s : Nat} {u : Int} (hl : ∀ k, k < moS b i → 1 ≤ moLe b i k ∧ moLe b i k ≤ 9) (hs : s < moS b i) (hu : 0 ≤ u ∧ u < moLe b i s) (hp : b 37 0 i = moDp b i s + u) : ∀ r k : Nat, k + r = moS b i → k ≤ s → moSNf b i r k (moDp b i k) = if u = 0 then -1 else (s : Int)
  | 0, k, h1, h2 => by omega
  | r + 1, k, h1, h2 => by
    unfold moSNf
    rw [← moDp_s]
    by_cases hk : k = s
    · subst hk
      rw [moDp_s, if_pos (by omega)]
      by_cases h0 : u = 0
      · rw [if_pos (by omega), if_pos h0]
      · rw [if_neg (by omega), if_neg h0]
    · have := moDp_up hl (s - (k + 1)) (k + 1) (by omega)
      have e : k + 1 + (s - (k + 1)) = s := by omega
      rw [e] at this
      rw [if_neg (by omega)]
      exact moSN_at hl hs hu hp r (k + 1) (by omega) (by omega)
theorem tS_pos {a b : zkM} {i : Nat} (hC : tC a b i) (hP : tP a b i) (h : b 36 0 i ≠ 0) : 0 < b 31 0 i := by
  have h1 := hC.2.1
  have h2 := hP.2.2.2
  omega
theorem hd_eq {a b : zkM} {i : Nat} (hC : tC a b i) (hP : tP a b i) : taHd a i = moHd b i := by
  have hP' := hP
  obtain ⟨⟨p1, p2, p3⟩, p4, p5, p6⟩ := hP
  unfold taHd moHd
  by_cases hq : b 36 0 i = 0
  · rw [if_pos hq, if_neg (by have := p5 hq; omega)]
  · have hS := tS_pos hC hP' hq
    obtain ⟨g1, g2⟩ := p4 hS
    have hd := hC.2.1
    have hlt : (a 5 i 12).toNat < moS b i := by unfold moS; omega
    have e := moSN_at (u := a 5 i 13) hC.2.2 hlt ⟨p2, g2⟩ p3 (moS b i) 0 (by omega) (by omega)
    rw [if_neg hq]
    unfold moSN
    rw [moDp_0] at e
    rw [e]
    by_cases h0 : a 5 i 13 = 0
    · rw [if_pos h0, if_pos rfl, if_neg (by omega)]
    · rw [if_neg h0, if_pos ⟨by omega, by omega⟩, if_neg (by omega)]
      rw [(hC.1.2.2.2.2.2.2 _ hlt).1]
      rw [Int.toNat_natCast]
theorem pg_pos {a b : zkM} {i : Nat} (hC : tC a b i) (hP : tP a b i) : 0 < b 37 0 i ↔ (0 < a 5 i 12 ∨ 0 < a 5 i 13) := by
  have hP' := hP
  obtain ⟨⟨p1, p2, p3⟩, p4, p5, p6⟩ := hP
  by_cases hS : b 31 0 i = 0
  · have := p5 (p6 hS)
    rw [this.1, this.2] at p3
    have e : moDp b i (0 : Int).toNat = 0 := rfl
    rw [e] at p3
    omega
  · have hd := hC.2.1
    obtain ⟨g1, g2⟩ := p4 (by omega)
    have := moDp_up hC.2.2 (a 5 i 12).toNat 0 (by unfold moS; omega)
    rw [moDp_0, Nat.zero_add] at this
    omega
/-- the job that is first runs -/
theorem st_run {a b : zkM} {T U : Int} {i : Nat} (hi : i < 5) (hT : 0 ≤ T ∧ T < 400) (hU : 0 ≤ U) (hc : b 7 0 11 = T) (hC : tC a b i) (hB : tB a b i) (hR : tR a b (T + 1) U i) (hq : b 36 0 i ≠ 0) : b2i (taRu a i (T + 1)).1 = (moRJ b i).1 ∧ (tR (taRu a i (T + 1)).2 (moRJ b i).2 (T + 1) (U + 1) i ∧ tB (taRu a i (T + 1)).2 (moRJ b i).2 i) ∧ (cS a (taRu a i (T + 1)).2 ∧ mS b (moRJ b i).2 ∧ cO a (taRu a i (T + 1)).2 i ∧ mO b (moRJ b i).2 i) := by
  have hC' := hC
  have hB' := hB
  obtain ⟨⟨c4, c5, c6, c7, c8, c9, c10⟩, ⟨d1, d2, d3, d4, d5, d6, d7, d8, d9⟩, d10⟩ := hC
  obtain ⟨b1, b2, b3, b4, b5, b6, b7, b8⟩ := hB
  obtain ⟨hQ, hP, hN, hZ⟩ := hR
  have hS := tS_pos hC' hP hq
  have hQ' := hQ
  obtain ⟨⟨q1, q2, q3, q4⟩, q5, q6⟩ := hQ
  obtain ⟨⟨p1, p2, p3⟩, p4, p5, p6⟩ := hP
  have hZ' := hZ
  obtain ⟨z1, z2, z3⟩ := hZ
  obtain ⟨g1, g2⟩ := p4 hS
  have hlt : (a 5 i 12).toNat < moS b i := by unfold moS; omega
  have hL := (c10 _ hlt).2
  have hup := moDp_up d10 (moS b i - ((a 5 i 12).toNat + 1)) ((a 5 i 12).toNat + 1) (by omega)
  have e0 : (a 5 i 12).toNat + 1 + (moS b i - ((a 5 i 12).toNat + 1)) = moS b i := by omega
  rw [e0, moDp_s, ← moDe_p] at hup
  have hz : ∀ k : Nat, k < 6 → a 22 i k = b 39 0 (6 * i + k) ∧ 0 ≤ b 39 0 (6 * i + k) ∧ b 39 0 (6 * i + k) ≤ 400 + (U + 1) := fun k hk => ⟨(z2 k hk).1, (z2 k hk).2.1, by have := (z2 k hk).2.2; omega⟩
  have hb37 : b 37 0 i + 1 ≤ 100 := by
    have h1 := moDp_up d10 (moS b i) 0 (by omega)
    rw [Nat.zero_add, moDp_0, ← moDe_p] at h1
    unfold moS at h1 hup
    omega
  have hnf : ¬ a 5 i 8 ≤ a 5 i 12 := by omega
  have hsS : (moS b i : Int) = b 31 0 i := by unfold moS; omega
  by_cases hu : a 5 i 13 + 1 = a 20 i (a 5 i 12).toNat
  · by_cases hs : a 5 i 12 + 1 < b 31 0 i
    · -- the next segment
      have eA : taRu a i (T + 1) = (false, mset (mset (mset a 5 i 13 (a 5 i 13 + 1)) 5 i 12 (a 5 i 12 + 1)) 5 i 13 0) := by
        unfold taRu taR2 taR1
        rw [if_neg hnf, if_pos hu, if_pos (by omega)]
        rw [if_pos hu]
      have eB : moRJ b i = (0, mset b 37 0 i (b 37 0 i + 1)) := by
        unfold moRJ
        rw [if_pos (by omega)]
        rfl
      rw [eA, eB]
      have hn12 : (a 5 i 12 + 1).toNat = (a 5 i 12).toNat + 1 := by omega
      refine ⟨rfl, ⟨⟨hQ', ?_, ?_, ?_⟩, ?_⟩, ?_, ?_, ?_, ?_⟩
      · refine ⟨?_, ?_, ?_, p6⟩
        · simp only [mset]
          simp
          refine ⟨by omega, ?_⟩
          rw [hn12]
          show _ = moDp b i _
          rw [moDp_s]
          omega
        · intro _
          simp only [mset]
          simp
          refine ⟨hs, ?_⟩
          rw [hn12]
          have := d10 ((a 5 i 12).toNat + 1) (by omega)
          show 0 < moLe b i _
          omega
        · intro h
          exact absurd h hq
      · unfold tN at *
        simpa [mset] using hN
      · refine ⟨by simpa [mset] using z1, hz, ?_⟩
        simp [mset]
        omega
      · refine ⟨b1, b2, b3, ?_, ?_, b6, ?_, b8⟩
        · simp [mset]; omega
        · simp [mset]
        · simp [mset]; omega
      · exact cS_m (cS_m (cS_m (cS_r a) (by omega)) (by omega)) (by omega)
      · exact mS_m (mS_r b) (by omega)
      · exact cO_m (cO_m (cO_m (cO_r a i)))
      · exact mO_m (mO_r b i) hi (by omega)
    · -- the job is finished
      have e12 : (a 5 i 12).toNat + 1 = moS b i := by omega
      have hfst := q5 0 (by omega)
      simp only [Nat.add_zero] at hfst
      have eX : joFst a i = b 35 0 (401 * i) := by
        unfold joFst
        rw [if_pos (by omega), hfst.1]
      have eB : moRJ b i = (1, moTJ (moJ4 b i) i 0) := by
        unfold moRJ
        rw [if_neg (by rw [e12] at hup; simp at hup; omega)]
      have e39 : moJ2 b i 39 0 (6 * i + 5) = b 39 0 (6 * i + 5) := by
        unfold moJ2 moJ1
        simp [mset]
      have eB4 : moJ4 b i = mset (mset (mset (mset b 37 0 i (b 37 0 i + 1)) 39 0 (6 * i) (b 39 0 (6 * i) + 1)) 39 0 (6 * i + 5) (max (b 39 0 (6 * i + 5)) (T + 1 - b 35 0 (401 * i)))) 40 0 i (b 40 0 i + (T + 1 - b 35 0 (401 * i))) := by
        unfold moJ4 moJ3
        rw [e39]
        unfold moJ2 moJ1 moRsp
        rw [hc]
      have eJ : moTJ (moJ4 b i) i 0 = mset (mrow (mset (moJ4 b i) 36 0 i (b 36 0 i - 1)) 35 0 (fun x => if 401 * i + 0 ≤ x ∧ x < 401 * i + ((b 36 0 i).toNat - 1) then b 35 0 (x + 1) else b 35 0 x)) 37 0 i 0 := by
        have h36 : moJ4 b i 36 0 i = b 36 0 i := by rw [eB4]; rfl
        have h35 : moJ4 b i 35 = b 35 := by rw [eB4]; rfl
        rw [moTJ_f (by rw [h36]; omega), h36, h35, if_pos rfl]
      have eA : taRu a i (T + 1) = (true, mset (mset (mset (mset (mset (mset (mset (mset a 5 i 13 (a 5 i 13 + 1)) 5 i 12 (a 5 i 12 + 1)) 5 i 13 0) 1 i 1 (a 1 i 1 + 1)) 5 i 12 0) 22 i 0 (a 22 i 0 + 1)) 22 i 5 (max (a 22 i 5) (T + 1 - b 35 0 (401 * i)))) 5 i 14 (a 5 i 14 + (T + 1 - b 35 0 (401 * i)))) := by
        unfold taRu taR2
        rw [if_neg hnf, if_pos hu, if_neg (by omega), eX]
        have e1 : taR1 a i = mset (mset (mset a 5 i 13 (a 5 i 13 + 1)) 5 i 12 (a 5 i 12 + 1)) 5 i 13 0 := by
          unfold taR1
          rw [if_pos hu]
        have e2 : joRmF (taR1 a i) i = mset (taR1 a i) 1 i 1 (a 1 i 1 + 1) := by
          unfold joRmF
          rw [e1]
          rw [if_pos (by show a 1 i 1 < a 1 i 2; omega)]
          rfl
        have e3 : joRmF (taR1 a i) i 22 = a 22 := by rw [e2, e1]; rfl
        have e4 : joRmF (taR1 a i) i 5 i 14 = a 5 i 14 := by rw [e2, e1]; simp [mset]
        unfold taFj
        rw [e3, e4, e2, e1]
      rw [eA, eB]
      simp only
      rw [eJ, eB4]
      have z0 := z2 0 (by omega)
      have z5 := z2 5 (by omega)
      simp only [Nat.add_zero] at z0
      refine ⟨rfl, ⟨⟨?_, ?_, ?_, ?_⟩, ?_⟩, ?_, ?_, ?_, ?_⟩
      · refine ⟨?_, ?_, ?_⟩
        · simp [mset, mrow]; omega
        · intro k hk
          simp [mset, mrow] at hk
          have := q5 (k + 1) (by omega)
          have e1 : (a 1 i 1 + 1).toNat + k = (a 1 i 1).toNat + (k + 1) := by omega
          simp only [mset, mrow]
          simp
          rw [if_pos (by omega), e1]
          exact this
        · intro k hk
          simp [mset, mrow] at hk
          have := q6 (k + 1) (by omega)
          simp only [mset, mrow]
          simp
          rw [if_pos (by omega), if_pos (by omega)]
          exact this
      · refine ⟨?_, ?_, ?_, ?_⟩
        · simp [mset, mrow, moDp, lp]
        · intro _
          simp [mset, mrow]
          have := d10 0 (by omega)
          exact ⟨hS, by show 0 < moLe b i 0; omega⟩
        · simp [mset, mrow]
        · intro h
          exact absurd (p6 h) hq
      · unfold tN at *
        simpa [mset, mrow] using hN
      · refine ⟨by simpa [mset, mrow] using z1, ?_, ?_⟩
        · intro k hk
          have h1 := hz k hk
          by_cases hk0 : k = 0
          · subst hk0
            simp [mset, mrow]
            omega
          · by_cases hk5 : k = 5
            · subst hk5
              simp [mset, mrow]
              omega
            · simp [mset, mrow, hk0, hk5]
              omega
        · simp [mset, mrow]
          omega
      · refine ⟨b1, ?_, ?_, ?_, ?_, ?_, ?_, ?_⟩
        · intro k hk
          simp only [mset, mrow]
          simp
          split
          · exact b2 (k + 1) (by omega)
          · exact b2 k hk
        · simp [mset, mrow]; omega
        · simp [mset, mrow]
        · simp [mset, mrow]
        · simp [mset, mrow]; omega
        · simp [mset, mrow]
        · simpa [mset, mrow] using b8
      · exact cS_m (cS_m (cS_m (cS_m (cS_m (cS_m (cS_m (cS_m (cS_r a) (by omega)) (by omega)) (by omega)) (by omega)) (by omega)) (by omega)) (by omega)) (by omega)
      · exact mS_m (mS_row (mS_m (mS_m (mS_m (mS_m (mS_m (mS_r b) (by omega)) (by omega)) (by omega)) (by omega)) (by omega))) (by omega)
      · exact cO_m (cO_m (cO_m (cO_m (cO_m (cO_m (cO_m (cO_m (cO_r a i))))))))
      · refine mO_m (mO_row (mO_m (mO_m (mO_m (mO_m (mO_m (mO_r b i) hi (by omega)) hi (by omega)) hi (by omega)) hi (by omega)) hi (by omega)) (fun j k hj hk => ?_)) hi (by omega)
        rw [if_neg (by omega)]
        rfl
  · have hs : a 5 i 12 < b 31 0 i := g1
    have eA : taRu a i (T + 1) = (false, mset a 5 i 13 (a 5 i 13 + 1)) := by
      unfold taRu taR2 taR1
      rw [if_neg hnf, if_neg hu, if_pos (by omega)]
      rw [if_neg hu]
    have eB : moRJ b i = (0, mset b 37 0 i (b 37 0 i + 1)) := by
      unfold moRJ
      rw [if_pos (by omega)]
      rfl
    rw [eA, eB]
    have hl9 := d10 _ hlt
    refine ⟨rfl, ⟨⟨hQ', ?_, ?_, ?_⟩, ?_⟩, ?_, ?_, ?_, ?_⟩
    · refine ⟨?_, ?_, ?_, p6⟩
      · simp only [mset]
        simp
        refine ⟨p1, by omega, ?_⟩
        show _ = moDp b i _ + _
        omega
      · intro _
        simp only [mset]
        simp
        refine ⟨hs, ?_⟩
        show _ < moLe b i _
        omega
      · intro h
        exact absurd h hq
    · unfold tN at *
      simpa [mset] using hN
    · refine ⟨by simpa [mset] using z1, hz, ?_⟩
      simp [mset]
      omega
    · refine ⟨b1, b2, b3, ?_, ?_, b6, ?_, b8⟩
      · simpa [mset] using b4
      · simp [mset]; omega
      · simp [mset]; omega
    · exact cS_m (cS_r a) (by omega)
    · exact mS_m (mS_r b) (by omega)
    · exact cO_m (cO_r a i)
    · exact mO_m (mO_r b i) hi (by omega)
