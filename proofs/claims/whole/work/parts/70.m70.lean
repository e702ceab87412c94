/-! a unit of the class and of the reference -/
def sR (a b : zkM) (T : Int) : Prop := phR a b T (5 * T) T T T ∧ a 0 0 7 = T ∧ b 7 0 11 = T ∧ 0 ≤ T ∧ T ≤ 400
theorem phR_u {a b : zkM} {T U U' L N E : Int} (h : phR a b T U L N E) (hU : U ≤ U') : phR a b T U' L N E := by
  obtain ⟨hK, hR, hB, hS, hQ, hN, hX, hO⟩ := h
  exact ⟨hK, fun i hi => tR_u (hR i hi) hU, hB, hS, hQ, hN, hX, hO⟩
theorem tB_joB {a b : zkM} {i : Nat} (h : tB a b i) : joB a i := ⟨h.2.2.1, fun k hk => by have := h.1 k hk; unfold inR; omega⟩
theorem q_iff {a b : zkM} {T U : Int} {i : Nat} (h : tR a b T U i) : a 1 i 1 = a 1 i 2 ↔ b 36 0 i = 0 := by
  have := h.1.1
  omega
theorem phR_rlP {a b : zkM} {T U : Int} {j : Nat} (hT : 0 ≤ T ∧ T ≤ 401) (hK : kR a b) (hj : j < moN b) (hR : tR a b T U j) (hB : tB a b j) : taRlP a j ∧ taMsP a j := by
  have hC := hK.2.1 j hj
  have hn := kR_n hK
  have hA := (hK.2.2.2.2.1.2.1 j (by omega)).1
  obtain ⟨⟨c4, c5, c6, c7, c8, c9, c10⟩, ⟨d1, d2, d3, d4, d5, d6, d7, d8, d9⟩, d10⟩ := hC
  have hN := hR.2.2.1
  have hZ := hR.2.2.2.1
  refine ⟨⟨tB_joB hB, by unfold inR; omega, ?_, by omega⟩, tB_joB hB, by omega⟩
  unfold inR
  by_cases hS : b 31 0 j = 0
  · have := hN.2 hS
    omega
  · have := hN.1 (by omega)
    unfold moPe at d3
    omega
theorem phR_beP {a b : zkM} {T U L N E : Int} (h : phR a b T U L N E) : beP a ∧ rqP a ∧ seP a ∧ ∀ k, k < 400 → inR (a 18 0 k) := by
  obtain ⟨hK, hR, hB, hS, hQ, hN, hX, hO⟩ := h
  have hA := hK.2.2.2.2.1
  refine ⟨⟨hA.1, fun i hi => ?_, fun k hk => ?_, ?_⟩, ⟨?_, fun k hk => ?_, fun k hk => ?_⟩, ⟨hA.2.2.2.1, ?_, ?_⟩, fun k hk => ?_⟩
  · have h1 := hB i hi
    have h2 := hA.2.1 i hi
    exact ⟨tB_joB h1, h1.2.2.2.1, by have := h1.2.2.2.2.1; unfold inR; omega, by unfold inR; omega, fun k hk => (h2.2 k hk).1⟩
  · have := hA.2.2.1 k hk
    unfold inR; omega
  · have := hA.2.2.2.2.1
    unfold inR; omega
  · have := hQ.1
    omega
  · have := (hQ.2.2.1 k hk).1
    unfold inR; omega
  · have := (hQ.2.2.1 k hk).2.2.1
    omega
  · have := hS.1
    omega
  · have := hS.2.2.2.2.2.2.2.2.2.2.2.1
    unfold inR; omega
  · have := hN.2.1 k hk
    unfold inR; omega
theorem phR_Q0 {a b : zkM} {T U L N E : Int} (h : phR a b T U L N E) : moQ0 b := by
  have hQ := h.2.2.2.2.1
  refine ⟨⟨hQ.1.2.1, hQ.1.2.2⟩, fun r hr => ?_, fun k hk => ?_⟩
  · have := (hQ.2.2.2 r hr).2.2
    unfold inR; omega
  · have h1 := hQ.2.2.2 (k / 2) (by omega)
    rcases Nat.mod_two_eq_zero_or_one k with e | e
    · have e2 : 2 * (k / 2) = k := by omega
      rw [e2] at h1
      unfold inR; omega
    · have e2 : 2 * (k / 2) + 1 = k := by omega
      rw [e2] at h1
      unfold inR; omega
theorem tB_35 {b : zkM} (h : ∀ i, i < 5 → ∀ k, k < 401 → 0 ≤ b 35 0 (401 * i + k) ∧ b 35 0 (401 * i + k) ≤ 400) : ∀ k, k < 2005 → 0 ≤ b 35 0 k ∧ b 35 0 k ≤ 400 := by
  intro k hk
  have := h (k / 401) (by omega) (k % 401) (by omega)
  have e : 401 * (k / 401) + k % 401 = k := by omega
  rw [e] at this
  exact this
theorem st_unit {a b : zkM} {T : Int} (h : sR a b T) (hT : T < 400) : ((beMk a).1 = (moUnit b).1 ∧ sR (beMk a).2 (moUnit b).2 (T + 1)) ∧ beOk a ∧ moOk b := by
  obtain ⟨hP, ha, hb, hT0, hT4⟩ := h
  have hTT : 0 ≤ T ∧ T < 400 := ⟨hT0, hT⟩
  have hn := kR_n hP.1
  -- phase 1
  obtain ⟨P1, c1, z1, n1⟩ := ph1 hTT hP hb
  have eU1 : beU1 a = seRp a T := by unfold beU1; rw [ha]
  -- phase 2
  obtain ⟨P2, s2, m2, q2⟩ := ph2 hTT (by omega) P1 c1
  rw [n1] at P2 s2 q2
  have eU2 : beU2 a = lp (beR T) (moN b) (seRp a T) := by unfold beU2; rw [ha, hn.1, eU1]
  rw [← eU2] at P2 s2
  have c2 : moRel (moRepl b) 7 0 11 = T := by
    rw [m2 7 (by decide) (by decide) (by decide) (by decide) (by decide) (by decide)]; exact c1
  have n2 : moN (moRel (moRepl b)) = moN b := by
    rw [moN_c (by rw [m2 7 (by decide) (by decide) (by decide) (by decide) (by decide) (by decide)]), n1]
  have z2 : beU2 a 0 = a 0 := by rw [s2.1 0 (by decide) (by decide) (by decide) (by decide)]; exact z1
  -- phase 3
  obtain ⟨P3, s3, m3, q3⟩ := ph3 hTT (by omega) P2 c2
  rw [n2, z2] at P3 s3 q3
  have eU3 : beU3 a = lp (beM T (a 0 0 6)) (moN b) (beU2 a) := by unfold beU3; rw [ha, hn.1]
  rw [← eU3] at P3 s3
  have eS3 : moS3 b = moMeet (moRel (moRepl b)) := rfl
  rw [← eS3] at P3 m3
  have c3 : moS3 b 7 0 11 = T := by
    rw [m3 7 (by decide) (by decide) (by decide) (by decide) (by decide) (by decide)]; exact c2
  have n3 : moN (moS3 b) = moN b := by
    rw [moN_c (by rw [m3 7 (by decide) (by decide) (by decide) (by decide) (by decide) (by decide)]), n2]
  have z3 : beU3 a 0 = a 0 := by rw [s3.1 0 (by decide) (by decide) (by decide) (by decide)]; exact z2
  -- the choice
  obtain ⟨K3, R3, B3, S3, Q3, N3, X3, O3⟩ := id P3
  have hfq := fq_eq Q3 T
  have hry : beRy (beU3 a) T = b2i (moRb (moS3 b) (moS3 b 7 0 11 + 1)) := by
    unfold beRy beW moRb
    rw [c3, hfq.1]
    congr 1
    rw [decide_eq_decide]
    have k1 := K3.2.2.2.1.1
    constructor
    · rintro ⟨g1, g2, g3⟩
      by_cases h6 : 0 < moS3 b 7 0 6
      · have := (S3.2.2.2.2.1 h6).1
        refine ⟨h6, by omega, fun e => ?_⟩
        rw [if_pos e] at g2
        omega
      · rw [if_neg h6] at k1
        omega
    · rintro ⟨g1, g2, g3⟩
      have := (S3.2.2.2.2.1 g1).1
      rw [if_pos g1] at k1
      exact ⟨k1, by rw [if_neg g3], by omega⟩
  have hch : beCh a = moMU (moS3 b) := by
    unfold beCh
    rw [ha]
    exact mu_eq K3 (fun i hi => ⟨(R3 i hi).2.1, q_iff (R3 i hi)⟩) hry
  have hmu := mu_cases K3
  have hcc : -1 ≤ moMU (moS3 b) ∧ moMU (moS3 b) ≤ 9 := by
    rcases hmu with h | h | ⟨c, h1, h2, -⟩ <;> omega
  -- phase 4
  obtain ⟨P4, fA4, f04, fB4⟩ := ph4 (c := moMU (moS3 b)) hTT (by omega) P3 (by rw [z3]; exact ha) c3 hcc
  have eU4 : beU4 a = mset (mset (beNp (beU3 a) (moMU (moS3 b))) 18 0 T.toNat (moMU (moS3 b))) 0 0 7 (T + 1) := by
    unfold beU4
    rw [hch, ha]
  have eS4 : moS4 b = mset (moPre (moS3 b) (moMU (moS3 b))) 34 0 T.toNat (moMU (moS3 b)) := by
    unfold moS4
    rw [hb]
  rw [← eU4, ← eS4] at P4
  rw [← eU4] at fA4 f04
  rw [← eS4] at fB4
  have e47 : moS4 b 7 = moS3 b 7 := fB4 7 (by decide) (by decide)
  have c4 : moS4 b 7 0 11 = T := by rw [e47]; exact c3
  have n4 : moN (moS4 b) = moN b := by rw [moN_c (by rw [e47]), n3]
  have z47 : beU4 a 0 0 7 = T + 1 := by rw [eU4, ms_s]
  have hfq4 : moFq (moS4 b) (T + 1) = moFq (moS3 b) (T + 1) := moFq_c (by rw [e47]) (fB4 33 (by decide) (by decide)) (fB4 41 (by decide) (by decide)) _
  obtain ⟨K4, R4, B4, S4, Q4, N4, X4, O4⟩ := id P4
  -- phase 5
  have P5 : b2i (beU5 a).1 = (moS5 b).1 ∧ phR (beU5 a).2 (moS6 b) (T + 1) (5 * (T + 1)) (T + 1) (T + 1) (T + 1) ∧ moS6 b 7 0 11 = T + 1 ∧ (beU5 a).2 0 = beU4 a 0 := by
    rcases hmu with ⟨g1, g2⟩ | ⟨g1, g2⟩ | ⟨c, g1, g2, g3, g4⟩
    · have hrd := of_decide_eq_true g2
      rw [c3] at hrd
      have hq := hfq.2.resolve_left hrd.2.2
      have eU5 : beU5 a = (false, rqSv (seRu (beU4 a) T) (moFq (moS3 b) (T + 1)) (T + 1)) := by
        unfold beU5
        rw [hch, if_pos g1, ha, hfq.1]
      have eS5 : moS5 b = (0, moServe (moS4 b) (moFq (moS3 b) (T + 1)).toNat) := by
        unfold moS5
        rw [if_pos g1, c4, hfq4]
      have er : moFq (moS3 b) (T + 1) = (((moFq (moS3 b) (T + 1)).toNat : Nat) : Int) := by omega
      have e41 := fB4 41 (by decide) (by decide)
      have e33 := fB4 33 (by decide) (by decide)
      have p5 := ph5s (r := (moFq (moS3 b) (T + 1)).toNat) hTT P4 c4 (by rw [e47]; exact hrd.1) (by rw [e47]; exact hrd.2.1) (by rw [e47]; omega) (by rw [e41]; exact hq.2.2.1) (by rw [e33]; exact hq.2.2.2)
      rw [← er] at p5
      have e11 : moServe (moS4 b) (moFq (moS3 b) (T + 1)).toNat 7 0 11 = T := by
        rw [← c4]
        unfold moServe moV3 moV2 moV1
        split <;> rfl
      have eS6 : moS6 b = mset (moServe (moS4 b) (moFq (moS3 b) (T + 1)).toNat) 7 0 11 (T + 1) := by
        unfold moS6
        rw [eS5]
        simp only
        rw [e11]
      rw [eU5, eS6, eS5]
      refine ⟨rfl, phR_u (phR_clk p5) (by omega), ms_s _ _ _ _ _, ?_⟩
      funext i k
      show rqSv (seRu (beU4 a) T) _ _ 0 i k = _
      rw [rqSv_f (by decide), seRu_f (by decide)]
    · have eU5 : beU5 a = (false, beU4 a) := by
        unfold beU5
        rw [hch, g1, if_neg (by decide), if_neg (by omega)]
      have eS5 : moS5 b = (0, moS4 b) := by
        unfold moS5
        rw [g1, if_neg (by decide), if_pos rfl]
      have eS6 : moS6 b = mset (moS4 b) 7 0 11 (T + 1) := by
        unfold moS6
        rw [eS5]
        simp only
        rw [c4]
      rw [eU5, eS6, eS5]
      refine ⟨rfl, phR_u (phR_clk ?_) (by omega : 5 * T + 1 + 1 + 1 ≤ 5 * (T + 1)), ms_s _ _ _ _ _, rfl⟩
      exact ⟨K4, R4, B4, sV_n1 hT0 S4, Q4, N4, X4, O4⟩
    · rw [n3] at g1 g4
      have e36 := fB4 36 (by decide) (by decide)
      have eHd : ∀ i, moHd (moS4 b) i = moHd (moS3 b) i := by
        intro i
        unfold moHd moSN moRe moS
        rw [e36, fB4 32 (by decide) (by decide), fB4 31 (by decide) (by decide)]
        have : ∀ r k x, moSNf (moS4 b) i r k x = moSNf (moS3 b) i r k x := by
          intro r
          induction r with
          | zero => intro k x; rfl
          | succ r ih =>
            intro k x
            unfold moSNf moLe
            rw [fB4 37 (by decide) (by decide), fB4 32 (by decide) (by decide), ih]
        rw [this]
      have eAc : ∀ i, moAc (moS4 b) i = moAc (moS3 b) i := by
        intro i
        unfold moAc moPr
        rw [eHd, fB4 30 (by decide) (by decide), moCe_c (by rw [e47]) (fB4 30 (by decide) (by decide)) (fB4 31 (by decide) (by decide)) (fB4 32 (by decide) (by decide))]
      obtain ⟨p1, p2, p3, p4⟩ := ph5j (c := c) hTT (by omega) P4 c4 (by rw [n4]; exact g1) (by rw [e36]; exact g3) (fun hh i hi hic hqi hhi => by
        rw [n4] at hi
        rw [e36] at hqi
        rw [eHd] at hh hhi
        rw [eAc, eAc]
        exact g4 hh i hi hic hqi hhi)
      have hc5 : (c : Int) ≤ a 0 0 5 - 1 := by unfold moN at g1; omega
      have eU5 : beU5 a = taRu (beU4 a) c (T + 1) := by
        unfold beU5
        rw [hch, g2, if_neg (by omega), if_pos ⟨by omega, hc5⟩, ha, Int.toNat_natCast]
      have eS5 : moS5 b = moRJ (moS4 b) c := by
        unfold moS5
        rw [g2, if_neg (by omega), if_neg (by omega), Int.toNat_natCast]
      have e11 : (moRJ (moS4 b) c).2 7 0 11 = T := by
        rw [p4 7 (by decide) (by decide) (by decide) (by decide) (by decide) (by decide)]; exact c4
      have eS6 : moS6 b = mset (moRJ (moS4 b) c).2 7 0 11 (T + 1) := by
        unfold moS6
        rw [eS5, e11]
      rw [eU5, eS6, eS5]
      obtain ⟨k1, k2, k3, k4, k5, k6, k7, k8⟩ := p2
      refine ⟨p1, phR_u (phR_clk ⟨k1, k2, k3, sV_n1 hT0 k4, k5, k6, k7, k8⟩) (by omega), ms_s _ _ _ _ _, ?_⟩
      exact p3.1 0 (by decide) (by decide) (by decide) (by decide)
  obtain ⟨p51, p52, p53, p54⟩ := P5
  have hq5 := fq_eq p52.2.2.2.2.1 T
  obtain ⟨P6, z6, c6⟩ := ph6 (w := beW (beU5 a).2 T) (by omega) p52 p53 (by unfold beW; rw [hq5.1])
  have eMk : (beMk a).2 = seEn (beU5 a).2 (T + 1) (beW (beU5 a).2 T) := by
    unfold beMk
    rw [ha]
  have hb5 := phR_beP p52
  have hn5 := sV_n p52.1.2.2.2.2.2 p52.2.2.2.1
  refine ⟨⟨p51, ?_⟩, ?_, ?_⟩
  · rw [eMk]
    refine ⟨P6, ?_, c6, by omega, by omega⟩
    rw [z6, p54]
    exact z47
  · -- the class's bounds
    have hs0 := hP.2.2.2.1
    have hsn := sV_n hP.1.2.2.2.2.2 hs0
    have hb3 := phR_beP P3
    have hb4 := phR_beP P4
    refine ⟨by omega, by omega, ?_, ?_, ?_, ?_, ?_, hb3, ?_, ?_⟩
    · have := hP.1.1
      unfold inR; omega
    · have := hs0.2.1
      omega
    · intro k hk
      have := hs0.2.2.2.2.2.2.2.2.1 k hk
      unfold inR; omega
    · intro j hj
      rw [ha, eU1]
      obtain ⟨g1, g2, g3⟩ := q2 j (by unfold moN; omega)
      refine (phR_rlP (by omega) g1 ?_ g2 g3).1
      have e7 : lp moF2 j (moRepl b) 7 0 2 = moRepl b 7 0 2 := by
        have := (kR_n g1).2.2.2.2
        have e0 : lp (beR T) j (seRp a T) 0 0 5 = a 0 0 5 := by rw [beR_f (by decide), z1]
        rw [← this, e0, hn.2.2.2.2]
        have := (kR_n P1.1).2.2.2.2
        rw [← this, z1, hn.2.2.2.2]
      rw [moN_c e7, n1]
      unfold moN; omega
    · intro j hj
      rw [ha]
      obtain ⟨g1, g2, g3⟩ := q3 j (by unfold moN; omega)
      refine (phR_rlP (by omega) g1 ?_ g2 g3).2
      have e7 : lp moF5 j (moRel (moRepl b)) 7 0 2 = b 7 0 2 := by
        have := (kR_n g1).2.2.2.2
        have e0 : lp (beM T (a 0 0 6)) j (beU2 a) 0 0 5 = a 0 0 5 := by rw [beM_f (by decide), z2]
        rw [← this, e0, hn.2.2.2.2]
      rw [moN_c e7]
      unfold moN; omega
    · refine ⟨hb4.2.2.1, hb4.2.1, fun hx => ?_⟩
      rw [hch] at hx ⊢
      have hlt : (moMU (moS3 b)).toNat < moN (moS4 b) := by rw [n4]; unfold moN; omega
      have hB := B4 (moMU (moS3 b)).toNat (by omega)
      have hZ := (R4 _ hlt).2.2.2.2.1 5 (by omega)
      have hA := K4.2.2.2.2.1.2.1 (moMU (moS3 b)).toNat (by omega)
      refine ⟨tB_joB hB, hB.2.2.2.1, by omega, by have := hB.2.2.2.2.1; omega, fun k hk => ?_, fun k hk => ?_, ?_⟩
      · have := (hA.2 k hk).2
        unfold inR; omega
      · have := hB.1 k hk
        omega
      · unfold inR; omega
    · have hs5 := p52.2.2.2.1
      have hA := p52.1.2.2.2.2.1
      refine ⟨hb5.2.1, hb5.2.2.1, ?_, ?_, ?_⟩
      · have := hs5.2.1
        omega
      · have := hs5.2.2.2.2.2.2.2.2.2.2.1
        omega
      · have := hA.2.2.2.2.2.2
        omega
  · -- the reference's bounds
    have hs0 := hP.2.2.2.1
    have hsn := sV_n hP.1.2.2.2.2.2 hs0
    have hM1 := P1.1.2.2.2.2.2
    have hM2 := P2.1.2.2.2.2.2
    have hM3 := P3.1.2.2.2.2.2
    have hM4 := P4.1.2.2.2.2.2
    have hM5 := p52.1.2.2.2.2.2
    have hB1 := P1.2.2.1
    have hB2 := P2.2.2.1
    have hB3 := P3.2.2.1
    refine ⟨⟨by have := hs0.2.1; omega, by unfold inR; omega, fun k hk => ?_⟩, ⟨hM1, by omega, fun t ht => ?_, fun t ht => ?_⟩, ⟨hM2, by unfold inR; omega, ?_, fun t ht => ?_, tB_35 (fun i hi => (hB2 i hi).2.1)⟩, ⟨hM3, phR_Q0 P3, by omega, by omega, ?_, fun t ht => ?_, fun k hk => ?_⟩, ⟨by omega, phR_Q0 P4, hM4⟩, ?_, ?_, ?_⟩
    · have := hs0.2.2.2.2.2.2.2.2.2.1 k hk
      unfold inR; omega
    · have := (hB1 t ht).2.2.2.2.2.1
      omega
    · have := (hB1 t ht).2.2.2.2.2.2.2
      unfold inR; omega
    · have := P2.1.1
      unfold inR; omega
    · have := (hB2 t ht).2.2.2.2.2.1
      omega
    · have := S3.2.2.2.2.2.2.2.2.2.2.2.2.1
      unfold inR; omega
    · have h1 := (hB3 t ht).2.2.2.2.2.1
      have h2 := (hB3 t ht).2.2.2.2.2.2.1
      unfold inR; omega
    · have := N3.2.2 k hk
      unfold inR; omega
    · intro h9
      rcases hmu with ⟨g1, g2⟩ | ⟨g1, g2⟩ | ⟨c, g1, g2, g3, g4⟩
      · have hrd := of_decide_eq_true g2
        rw [c3] at hrd
        have hq := hfq.2.resolve_left hrd.2.2
        refine ⟨by have := S4.1; unfold inR; omega, by rw [c4, hfq4]; exact hq.1, fun r hr => ?_⟩
        have := (Q4.2.2.2 r hr).2.2
        omega
      · omega
      · omega
    · intro h9 h1
      rcases hmu with ⟨g1, g2⟩ | ⟨g1, g2⟩ | ⟨c, g1, g2, g3, g4⟩
      · omega
      · omega
      · rw [n3] at g1
        rw [g2, Int.toNat_natCast]
        have hB := B4 c (by omega)
        have hR := R4 c (by rw [n4]; exact g1)
        have hZ := hR.2.2.2.2.1 5 (by omega)
        have e36 := fB4 36 (by decide) (by decide)
        refine ⟨by omega, by have := hB.2.2.2.2.2.2.1; omega, ?_, by unfold inR; omega, ?_⟩
        · have := hB.2.1 0 (by omega)
          simpa using this
        · have := hB.2.2.2.2.2.1
          rw [e36] at this ⊢
          omega
    · have hs5 := p52.2.2.2.1
      refine ⟨phR_Q0 p52, by omega, by have := hs5.1; unfold inR; omega, by have := hM5.2.2.2.2.2.1; unfold inR; omega, ?_, ?_, ?_, ?_⟩
      · have := hs5.2.2.2.2.2.2.2.2.2.2.2.2.1
        unfold inR; omega
      · have := hs5.2.2.2.2.2.2.2.2.2.2.2.2.2.1
        omega
      · have := hM5.2.2.2.2.2.2.2.1
        omega
      · have := hs5.2.1
        omega
