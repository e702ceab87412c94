/-! the phases of a unit, on -/
theorem ph2 {a b : zkM} {T U L N E : Int} (hT : 0 ≤ T ∧ T < 400) (hU : 0 ≤ U) (h : phR a b T U L N E) (hc : b 7 0 11 = T) : phR (lp (beR T) (moN b) a) (moRel b) (T + 1) (U + 1) L N E ∧ cS a (lp (beR T) (moN b) a) ∧ mS b (moRel b) ∧ ∀ j, j < moN b → kR (lp (beR T) j a) (lp moF2 j b) ∧ tR (lp (beR T) j a) (lp moF2 j b) T U j ∧ tB (lp (beR T) j a) (lp moF2 j b) j := by
  have hn := kR_n h.1
  unfold moRel
  refine ph_tasks (by omega) (by omega) h (fun i a' b' hi s1 s2 hB hR => ?_) (fun i a' => Or.inl (rl_hd a' i T))
  have hK := kR_s s1 s2 h.1
  have e7 : b' 7 = b 7 := s2 7 (by decide) (by decide) (by decide) (by decide) (by decide) (by decide)
  exact st_rel (by omega) hT hU (by rw [e7]; exact hc) (hK.2.1 i (by unfold moN at *; rw [e7]; exact hi)) hB hR
theorem ph3 {a b : zkM} {T U L N E : Int} (hT : 0 ≤ T ∧ T < 400) (hU : 0 ≤ U) (h : phR a b (T + 1) U L N E) (hc : b 7 0 11 = T) : phR (lp (beM T (a 0 0 6)) (moN b) a) (moMeet b) (T + 1) (U + 1) L N E ∧ cS a (lp (beM T (a 0 0 6)) (moN b) a) ∧ mS b (moMeet b) ∧ ∀ j, j < moN b → kR (lp (beM T (a 0 0 6)) j a) (lp moF5 j b) ∧ tR (lp (beM T (a 0 0 6)) j a) (lp moF5 j b) (T + 1) U j ∧ tB (lp (beM T (a 0 0 6)) j a) (lp moF5 j b) j := by
  have hn := kR_n h.1
  have hp := h.1.1
  unfold moMeet
  refine ph_tasks (by omega) (by omega) h (fun i a' b' hi s1 s2 hB hR => ?_) (fun i a' => ms_hd a' i T _)
  have hK := kR_s s1 s2 h.1
  have e7 : b' 7 = b 7 := s2 7 (by decide) (by decide) (by decide) (by decide) (by decide) (by decide)
  exact st_miss (by omega) hT hU (by rw [e7]; exact hc) (by rw [e7]; exact hp.2.1) (by omega) (hK.2.1 i (by unfold moN at *; rw [e7]; exact hi)) hB hR
theorem ph4 {a b : zkM} {T U L N c : Int} (hT : 0 ≤ T ∧ T < 400) (hU : 0 ≤ U) (h : phR a b (T + 1) U L N T) (ha : a 0 0 7 = T) (hc : b 7 0 11 = T) (hcc : -1 ≤ c ∧ c ≤ 9) : phR (mset (mset (beNp a c) 18 0 T.toNat c) 0 0 7 (T + 1)) (mset (moPre b c) 34 0 T.toNat c) (T + 1) (U + 1) L N (T + 1) ∧ (∀ t, t ≠ 22 → t ≠ 18 → t ≠ 0 → (mset (mset (beNp a c) 18 0 T.toNat c) 0 0 7 (T + 1)) t = a t) ∧ (∀ k, k ≠ 7 → (mset (mset (beNp a c) 18 0 T.toNat c) 0 0 7 (T + 1)) 0 0 k = a 0 0 k) ∧ (∀ t, t ≠ 39 → t ≠ 34 → (mset (moPre b c) 34 0 T.toNat c) t = b t) := by
  obtain ⟨hK, hR, hB, hS, hQ, hN, hX, hO⟩ := h
  have hn := kR_n hK
  obtain ⟨g1, g2, g3, g4⟩ := st_pre (c := c) hT hU hK ha hc hN.1 hR hB
  have fA : ∀ t, t ≠ 22 → t ≠ 18 → t ≠ 0 → (mset (mset (beNp a c) 18 0 T.toNat c) 0 0 7 (T + 1)) t = a t := by
    intro t t1 t2 t3
    rw [mset_t t3, mset_t t2, g3 t t1]
  have f0 : ∀ k, k ≠ 7 → (mset (mset (beNp a c) 18 0 T.toNat c) 0 0 7 (T + 1)) 0 0 k = a 0 0 k := by
    intro k hk
    rw [ms_k hk, ms_t (by decide), g3 0 (by decide)]
  have fB : ∀ t, t ≠ 39 → t ≠ 34 → (mset (moPre b c) 34 0 T.toNat c) t = b t := by
    intro t t1 t2
    rw [mset_t t2, g4 t t1]
  have en : moN (mset (moPre b c) 34 0 T.toNat c) = moN b := moN_c (by rw [fB 7 (by decide) (by decide)])
  refine ⟨⟨?_, ?_, ?_, ?_, ?_, ?_, ?_, ?_⟩, fA, f0, fB⟩
  · exact kR_c (f0 5 (by decide)) (f0 6 (by decide)) (fun i k _ => by rw [fA 5 (by decide) (by decide) (by decide)]) (fA 17 (by decide) (by decide) (by decide)) (fA 19 (by decide) (by decide) (by decide)) (fA 20 (by decide) (by decide) (by decide)) (by rw [fA 4 (by decide) (by decide) (by decide)]) (by rw [fA 4 (by decide) (by decide) (by decide)]) (by rw [fA 4 (by decide) (by decide) (by decide)]) (by rw [fA 4 (by decide) (by decide) (by decide)]) (by rw [fB 7 (by decide) (by decide)]) (by rw [fB 7 (by decide) (by decide)]) (by rw [fB 7 (by decide) (by decide)]) (by rw [fB 7 (by decide) (by decide)]) (by rw [fB 7 (by decide) (by decide)]) (fB 30 (by decide) (by decide)) (fB 31 (by decide) (by decide)) (fB 32 (by decide) (by decide)) hK
  · intro i hi
    rw [en] at hi
    refine tR_e (a := beNp a c) (b := moPre b c) ?_ ?_ ?_ ?_ ?_ (g1 i hi)
    · rw [mset_t (by decide), mset_t (by decide)]
    · rw [mset_t (by decide), mset_t (by decide)]
    · rw [mset_t (by decide), mset_t (by decide)]
    · rw [mset_t (by decide), mset_t (by decide)]
    · intro t t1 t2 t3 t4
      rw [mset_t t3]
  · intro i hi
    refine tB_e (a := beNp a c) (b := moPre b c) ?_ ?_ ?_ ?_ (g2 i hi)
    · rw [mset_t (by decide), mset_t (by decide)]
    · rw [mset_t (by decide), mset_t (by decide)]
    · rw [mset_t (by decide), mset_t (by decide)]
    · intro t t1 t2 t3 t4
      rw [mset_t t3]
  · exact sV_c (fA 4 (by decide) (by decide) (by decide)) (fA 11 (by decide) (by decide) (by decide)) (fA 12 (by decide) (by decide) (by decide)) (fB 7 (by decide) (by decide)) (fB 43 (by decide) (by decide)) hS
  · exact qR_c (fA 3 (by decide) (by decide) (by decide)) (fA 13 (by decide) (by decide) (by decide)) (fA 14 (by decide) (by decide) (by decide)) (fA 15 (by decide) (by decide) (by decide)) (fA 16 (by decide) (by decide) (by decide)) (by rw [fB 7 (by decide) (by decide)]) (fB 33 (by decide) (by decide)) (fB 41 (by decide) (by decide)) (fB 42 (by decide) (by decide)) hQ
  · have e18 : (mset (mset (beNp a c) 18 0 T.toNat c) 0 0 7 (T + 1)) 18 = mset a 18 0 T.toNat c 18 := by
      rw [mset_t (by decide)]
      funext i k
      simp only [mset]
      rw [g3 18 (by decide)]
    have e34 : (mset (moPre b c) 34 0 T.toNat c) 34 = mset b 34 0 T.toNat c 34 := by
      funext i k
      simp only [mset]
      rw [g4 34 (by decide)]
    unfold nR
    rw [e18, e34]
    refine ⟨fun k hk => ?_, fun k hk => ?_, fun k hk => ?_⟩
    · by_cases e : k = T.toNat
      · subst e
        rw [ms_s, ms_s]
      · rw [ms_k e, ms_k e]
        exact hN.1 k (by omega)
    · by_cases e : k = T.toNat
      · subst e
        rw [ms_s]
        exact hcc
      · rw [ms_k e]
        exact hN.2.1 k hk
    · by_cases e : k = T.toNat
      · subst e
        rw [ms_s]
        exact hcc
      · rw [ms_k e]
        exact hN.2.2 k hk
  · exact exR_e (f0 5 (by decide)) (fA 5 (by decide) (by decide) (by decide)) (fA 17 (by decide) (by decide) (by decide)) (fA 19 (by decide) (by decide) (by decide)) hX
  · intro i hi hi5
    rw [en] at hi
    have ho := hO i hi hi5
    refine ⟨?_, fun k hk => ?_, ?_⟩
    · rw [fB 36 (by decide) (by decide), fB 37 (by decide) (by decide), fB 38 (by decide) (by decide), fB 40 (by decide) (by decide)]
      exact ho.1
    · rw [ms_t (by decide)]
      unfold moPre
      split
      · next hx =>
        rw [ms_k (by unfold moN at hi; omega)]
        exact ho.2.1 k hk
      · exact ho.2.1 k hk
    · rw [fA 5 (by decide) (by decide) (by decide), ms_t (by decide), ms_t (by decide)]
      refine ⟨ho.2.2.1, ?_⟩
      unfold beNp
      split
      · rw [ms_k (by decide)]
        exact ho.2.2.2
      · exact ho.2.2.2
/-- the clock of the reference goes on -/
theorem phR_clk {a b : zkM} {T U L N E x : Int} (h : phR a b T U L N E) : phR a (mset b 7 0 11 x) T U L N E := by
  obtain ⟨hK, hR, hB, hS, hQ, hN, hX, hO⟩ := h
  have en : moN (mset b 7 0 11 x) = moN b := rfl
  have eb : ∀ t, 30 ≤ t → t ≠ 33 → t ≠ 34 → t ≤ 40 → mset b 7 0 11 x t = b t := fun t h1 _ _ _ => mset_t (by omega) _ _ _ _
  refine ⟨kR_c rfl rfl (fun _ _ _ => rfl) rfl rfl rfl rfl rfl rfl rfl rfl rfl rfl rfl rfl rfl rfl rfl hK, fun i hi => tR_e rfl rfl rfl rfl eb (hR i hi), fun i hi => tB_e rfl rfl rfl eb (hB i hi), sV_c2 rfl rfl rfl (fun k _ hk => ms_k hk _ _ _ _ _ _) rfl hS, qR_c rfl rfl rfl rfl rfl rfl rfl rfl rfl hQ, nR_c rfl rfl hN, hX, fun i hi hi5 => tO_e rfl rfl eb (hO i hi hi5)⟩
/-- phase 5, the server -/
theorem ph5s {a b : zkM} {T U E : Int} {r : Nat} (hT : 0 ≤ T ∧ T < 400) (h : phR a b (T + 1) U (T + 1) T E) (hc : b 7 0 11 = T) (hs : 0 < b 7 0 6) (hb : 0 < b 7 0 19) (hr : (r : Int) < b 7 0 9) (hl : 0 < b 41 0 r) (ht : b 33 0 (2 * r) ≤ T) : phR (rqSv (seRu a T) r (T + 1)) (moServe b r) (T + 1) U (T + 1) (T + 1) E := by
  obtain ⟨hK, hR, hB, hS, hQ, hN, hX, hO⟩ := h
  have fA : ∀ t, t ≠ 4 → t ≠ 15 → t ≠ 16 → rqSv (seRu a T) r (T + 1) t = a t := by
    intro t t1 t2 t3
    funext i k
    rw [rqSv_f ⟨t2, t3⟩, seRu_f t1]
  have fB : ∀ t, t ≠ 7 → t ≠ 41 → t ≠ 42 → moServe b r t = b t := by
    intro t t1 t2 t3
    unfold moServe moV3 moV2 moV1
    rw [mset_t t3, mset_t t2, mset_t t1, mset_t t1]
    split
    · rw [mset_t t1, mset_t t1, mset_t t1]
    · rfl
  have b7 : moServe b r 7 = moV2 b 7 := rfl
  have a4 : rqSv (seRu a T) r (T + 1) 4 = seRu a T 4 := by
    funext i k
    rw [rqSv_f (by decide)]
  have eb : ∀ t, 30 ≤ t → t ≠ 33 → t ≠ 34 → t ≤ 40 → moServe b r t = b t := fun t h1 _ _ h2 => fB t (by omega) (by omega) (by omega)
  obtain ⟨s1, s2, s3⟩ := st_srun hT hK.2.2.2.2.2 hS hc hs hb a4 (fA 11 (by decide) (by decide) (by decide)) (fA 12 (by decide) (by decide) (by decide)) b7 (fB 43 (by decide) (by decide) (by decide))
  have en : moN (moServe b r) = moN b := moN_c (s3 2 (by decide) (by decide) (by decide) (by decide))
  have eq1 : (rqSv a r (T + 1)) 15 = (rqSv (seRu a T) r (T + 1)) 15 ∧ (rqSv a r (T + 1)) 16 = (rqSv (seRu a T) r (T + 1)) 16 := by
    have e15 : seRu a T 15 = a 15 := by funext i k; exact seRu_f (by decide) _ _ _
    have e16 : seRu a T 16 = a 16 := by funext i k; exact seRu_f (by decide) _ _ _
    have e13 : seRu a T 13 = a 13 := by funext i k; exact seRu_f (by decide) _ _ _
    have e3 : seRu a T 3 = a 3 := by funext i k; exact seRu_f (by decide) _ _ _
    unfold rqSv
    rw [e15, e13, e3]
    constructor
    · split
      · rw [e15]
      · split
        · funext i k
          simp only [mset]
          rw [e15]
        · funext i k
          simp only [mset]
          rw [e15]
    · split
      · rw [e16]
      · split
        · funext i k
          simp only [mset]
          rw [e16]
        · funext i k
          simp only [mset]
          rw [e16]
  refine ⟨?_, ?_, ?_, s1, ?_, ?_, ?_, ?_⟩
  · exact kR_c (by rw [fA 0 (by decide) (by decide) (by decide)]) (by rw [fA 0 (by decide) (by decide) (by decide)]) (fun i k _ => by rw [fA 5 (by decide) (by decide) (by decide)]) (fA 17 (by decide) (by decide) (by decide)) (fA 19 (by decide) (by decide) (by decide)) (fA 20 (by decide) (by decide) (by decide)) (s2 3 (by decide) (by decide) (by decide) (by decide)) (s2 4 (by decide) (by decide) (by decide) (by decide)) (s2 5 (by decide) (by decide) (by decide) (by decide)) (s2 6 (by decide) (by decide) (by decide) (by decide)) (s3 1 (by decide) (by decide) (by decide) (by decide)) (s3 2 (by decide) (by decide) (by decide) (by decide)) (s3 6 (by decide) (by decide) (by decide) (by decide)) (s3 7 (by decide) (by decide) (by decide) (by decide)) (s3 8 (by decide) (by decide) (by decide) (by decide)) (fB 30 (by decide) (by decide) (by decide)) (fB 31 (by decide) (by decide) (by decide)) (fB 32 (by decide) (by decide) (by decide)) hK
  · exact fun i hi => tR_e (fA 1 (by decide) (by decide) (by decide)) (fA 5 (by decide) (by decide) (by decide)) (fA 21 (by decide) (by decide) (by decide)) (fA 22 (by decide) (by decide) (by decide)) eb (hR i (by rw [en] at hi; exact hi))
  · exact fun i hi => tB_e (fA 1 (by decide) (by decide) (by decide)) (fA 5 (by decide) (by decide) (by decide)) (fA 21 (by decide) (by decide) (by decide)) eb (hB i hi)
  · refine st_srq hT hQ hr hl ht (fA 3 (by decide) (by decide) (by decide)) (fA 13 (by decide) (by decide) (by decide)) (fA 14 (by decide) (by decide) (by decide)) eq1.1.symm eq1.2.symm (s3 9 (by decide) (by decide) (by decide) (by decide)) (fB 33 (by decide) (by decide) (by decide)) ?_ ?_
    · unfold moServe moV3
      rw [mset_t (by decide)]
      funext i k
      simp only [mset]
      have e : moV2 b 41 = b 41 := by
        unfold moV2 moV1
        split <;> rfl
      rw [e]
    · unfold moServe
      rw [hc]
      funext i k
      simp only [mset]
      have e : moV3 b r 42 = b 42 := by
        unfold moV3 moV2 moV1
        split <;> rfl
      rw [e]
  · exact nR_c (fA 18 (by decide) (by decide) (by decide)) (fB 34 (by decide) (by decide) (by decide)) hN
  · exact exR_e (by rw [fA 0 (by decide) (by decide) (by decide)]) (fA 5 (by decide) (by decide) (by decide)) (fA 17 (by decide) (by decide) (by decide)) (fA 19 (by decide) (by decide) (by decide)) hX
  · exact fun i hi hi5 => tO_e (fA 5 (by decide) (by decide) (by decide)) (fA 22 (by decide) (by decide) (by decide)) eb (hO i (by rw [en] at hi; exact hi) hi5)
/-- phase 5, a job -/
theorem ph5j {a b : zkM} {T U L N E : Int} {c : Nat} (hT : 0 ≤ T ∧ T < 400) (hU : 0 ≤ U) (h : phR a b (T + 1) U L N E) (hc : b 7 0 11 = T) (hcn : c < moN b) (hq : b 36 0 c ≠ 0) (hm : moHd b c = -1 → ∀ i, i < moN b → i ≠ c → b 36 0 i ≠ 0 → moHd b i ≠ -1 → moAc b i < moAc b c) : b2i (taRu a c (T + 1)).1 = (moRJ b c).1 ∧ phR (taRu a c (T + 1)).2 (moRJ b c).2 (T + 1) (U + 1) L N E ∧ cS a (taRu a c (T + 1)).2 ∧ mS b (moRJ b c).2 := by
  obtain ⟨hK, hR, hB, hS, hQ, hN, hX, hO⟩ := h
  have hn := kR_n hK
  obtain ⟨r1, ⟨r2, r3⟩, s1, s2, o1, o2⟩ := st_run (by omega) hT hU hc (hK.2.1 c hcn) (hB c (by omega)) (hR c hcn) hq
  have c1 := fun t h1 h2 h3 h4 => s1.1 t h1 h2 h3 h4
  have e7 : (moRJ b c).2 7 = b 7 := s2 7 (by decide) (by decide) (by decide) (by decide) (by decide) (by decide)
  have en : moN (moRJ b c).2 = moN b := moN_c (by rw [e7])
  refine ⟨r1, ⟨kR_s s1 s2 hK, fun i hi => ?_, fun i hi => ?_, ?_, ?_, ?_, ?_, fun i hi hi5 => tO_c (i := c) (by omega) o1 o2 (hO i (by rw [en] at hi; exact hi) hi5)⟩, s1, s2⟩
  · by_cases e : i = c
    · subst e; exact r2
    · exact tR_u (tR_c (by omega) e s1 s2 o1 o2 (hR i (by rw [en] at hi; exact hi))) (by omega)
  · by_cases e : i = c
    · subst e; exact r3
    · exact tB_c e o1 o2 (hB i hi)
  · exact sV_c (c1 4 (by decide) (by decide) (by decide) (by decide)) (c1 11 (by decide) (by decide) (by decide) (by decide)) (c1 12 (by decide) (by decide) (by decide) (by decide)) e7 (s2 43 (by decide) (by decide) (by decide) (by decide) (by decide) (by decide)) hS
  · exact qR_c (c1 3 (by decide) (by decide) (by decide) (by decide)) (c1 13 (by decide) (by decide) (by decide) (by decide)) (c1 14 (by decide) (by decide) (by decide) (by decide)) (c1 15 (by decide) (by decide) (by decide) (by decide)) (c1 16 (by decide) (by decide) (by decide) (by decide)) (by rw [e7]) (s2 33 (by decide) (by decide) (by decide) (by decide) (by decide) (by decide)) (s2 41 (by decide) (by decide) (by decide) (by decide) (by decide) (by decide)) (s2 42 (by decide) (by decide) (by decide) (by decide) (by decide) (by decide)) hQ
  · exact nR_c (c1 18 (by decide) (by decide) (by decide) (by decide)) (s2 34 (by decide) (by decide) (by decide) (by decide) (by decide) (by decide)) hN
  · -- no two that hold
    have h0 : (taRu a c (T + 1)).2 0 0 5 = a 0 0 5 := by rw [c1 0 (by decide) (by decide) (by decide) (by decide)]
    have h17 := c1 17 (by decide) (by decide) (by decide) (by decide)
    have h5 : ∀ i, (taRu a c (T + 1)).2 5 i 4 = a 5 i 4 := fun i => s1.2 i 4 (by decide)
    have hdo : ∀ i, i ≠ c → taHd (taRu a c (T + 1)).2 i = taHd a i := by
      intro i hi
      have := (o1 i hi).2.1
      exact taHd_c (by rw [this]) (by rw [this]) (c1 19 (by decide) (by decide) (by decide) (by decide))
    rcases ru_hd a c (T + 1) with hd | hd | hd
    · refine exR_c h0 h5 h17 (fun i _ => ?_) hX
      by_cases e : i = c
      · subst e; exact Or.inr hd
      · exact Or.inl (hdo i e)
    · have key : ∀ j : Nat, (j : Int) < a 0 0 5 → j ≠ c → taHd a j ≠ -1 → beUr a j < a 5 c 4 := by
        intro j hj hjc hh
        have hjn : j < moN b := by unfold moN; omega
        have ehj := hd_eq (hK.2.1 j hjn) (hR j hjn).2.1
        have ehc := hd_eq (hK.2.1 c hcn) (hR c hcn).2.1
        have hqj : b 36 0 j ≠ 0 := by
          intro h0
          apply hh
          rw [ehj]
          unfold moHd
          rw [if_pos h0]
        have := hm (by rw [← ehc]; exact hd) j hjn hjc hqj (by rw [← ehj]; exact hh)
        rw [ur_eq hK hjn (hR j hjn).2.1, (hK.2.1 c hcn).1.1]
        have e : moAc b c = moPr b c := by
          unfold moAc
          rw [← ehc, if_pos hd]
        omega
      intro i j hi hj hij h1 h2
      rw [h0] at hi hj
      rw [h5, h5]
      by_cases ei : i = c
      · subst ei
        rw [hdo j (fun e => hij e.symm)] at h2
        refine Or.inr ?_
        rw [beUr_c (h5 j) h17 (hdo j (fun e => hij e.symm))]
        exact key j hj (fun e => hij e.symm) h2
      · by_cases ej : j = c
        · subst ej
          rw [hdo i ei] at h1
          refine Or.inl ?_
          rw [beUr_c (h5 i) h17 (hdo i ei)]
          exact key i hi ei h1
        · rw [hdo i ei] at h1
          rw [hdo j ej] at h2
          rw [beUr_c (h5 i) h17 (hdo i ei), beUr_c (h5 j) h17 (hdo j ej)]
          exact hX i j hi hj hij h1 h2
    · refine exR_c h0 h5 h17 (fun i _ => ?_) hX
      by_cases e : i = c
      · subst e; exact Or.inl hd
      · exact Or.inl (hdo i e)
/-- phase 6: the busy time -/
theorem ph6 {a b : zkM} {U E w : Int} (hE : 1 ≤ E ∧ E ≤ 400) (h : phR a b E U E E E) (hc : b 7 0 11 = E) (hw : w = if moFq b E = -1 then 0 else 1) : phR (seEn a E w) (moEB b) E U E E E ∧ seEn a E w 0 = a 0 ∧ moEB b 7 0 11 = E := by
  obtain ⟨hK, hR, hB, hS, hQ, hN, hX, hO⟩ := h
  have hm := hK.2.2.2.2.2.2.2.2.2.2.2.2.2
  obtain ⟨g1, g2, g3, g4, g5⟩ := st_end hE hK.2.2.2.2.2 hS hc hK.2.2.2.1.1 (fun hs => ⟨(hK.2.2.2.1.2 hs).2.2.1, hm hs⟩) hw
  have en : moN (moEB b) = moN b := moN_c (g5 2 (by decide) (by decide))
  have eb : ∀ t, 30 ≤ t → t ≠ 33 → t ≠ 34 → t ≤ 40 → moEB b t = b t := fun t h1 _ _ h2 => g4 t (by omega) (by omega)
  refine ⟨⟨?_, ?_, ?_, g1, ?_, ?_, ?_, ?_⟩, g2 0 (by decide) (by decide) (by decide), by rw [g5 11 (by decide) (by decide)]; exact hc⟩
  · exact kR_c (by rw [g2 0 (by decide) (by decide) (by decide)]) (by rw [g2 0 (by decide) (by decide) (by decide)]) (fun i k _ => by rw [g2 5 (by decide) (by decide) (by decide)]) (g2 17 (by decide) (by decide) (by decide)) (g2 19 (by decide) (by decide) (by decide)) (g2 20 (by decide) (by decide) (by decide)) (g3 3 (by decide) (by decide)) (g3 4 (by decide) (by decide)) (g3 5 (by decide) (by decide)) (g3 6 (by decide) (by decide)) (g5 1 (by decide) (by decide)) (g5 2 (by decide) (by decide)) (g5 6 (by decide) (by decide)) (g5 7 (by decide) (by decide)) (g5 8 (by decide) (by decide)) (g4 30 (by decide) (by decide)) (g4 31 (by decide) (by decide)) (g4 32 (by decide) (by decide)) hK
  · exact fun i hi => tR_e (g2 1 (by decide) (by decide) (by decide)) (g2 5 (by decide) (by decide) (by decide)) (g2 21 (by decide) (by decide) (by decide)) (g2 22 (by decide) (by decide) (by decide)) eb (hR i (by rw [en] at hi; exact hi))
  · exact fun i hi => tB_e (g2 1 (by decide) (by decide) (by decide)) (g2 5 (by decide) (by decide) (by decide)) (g2 21 (by decide) (by decide) (by decide)) eb (hB i hi)
  · exact qR_c (g2 3 (by decide) (by decide) (by decide)) (g2 13 (by decide) (by decide) (by decide)) (g2 14 (by decide) (by decide) (by decide)) (g2 15 (by decide) (by decide) (by decide)) (g2 16 (by decide) (by decide) (by decide)) (g5 9 (by decide) (by decide)) (g4 33 (by decide) (by decide)) (g4 41 (by decide) (by decide)) (g4 42 (by decide) (by decide)) hQ
  · exact nR_c (g2 18 (by decide) (by decide) (by decide)) (g4 34 (by decide) (by decide)) hN
  · exact exR_e (by rw [g2 0 (by decide) (by decide) (by decide)]) (g2 5 (by decide) (by decide) (by decide)) (g2 17 (by decide) (by decide) (by decide)) (g2 19 (by decide) (by decide) (by decide)) hX
  · exact fun i hi hi5 => tO_e (g2 5 (by decide) (by decide) (by decide)) (g2 22 (by decide) (by decide) (by decide)) eb (hO i (by rw [en] at hi; exact hi) hi5)
