/-! the relation reads only what is kept -/
abbrev kcp (t k : Nat) : Prop := (t = 0 ∧ 5 ≤ k ∧ k ≤ 7) ∨ (t = 3 ∧ k = 4) ∨ (t = 4 ∧ 2 ≤ k ∧ k ≤ 10) ∨ (t = 1 ∧ 1 ≤ k ∧ k ≤ 2) ∨ (t = 5 ∧ 4 ≤ k ∧ k ≤ 14) ∨ ((11 ≤ t ∧ t ≤ 22) ∧ k < aln t)
def lw (a a' : zkM) : Prop := ∀ t i k, LC t i → kcp t k → a' t i k = a t i k
def lx (b b' : zkM) : Prop := ∀ t k, kpos t k < 3400 → b' t 0 k = b t 0 k
theorem kp30 {k : Nat} (h : k < 20) : kpos 30 k < 3400 := by show (if k < 20 then 12 + k else 10000) < 3400; rw [if_pos h]; omega
theorem kp31 {k : Nat} (h : k < 5) : kpos 31 k < 3400 := by show (if k < 5 then 32 + k else 10000) < 3400; rw [if_pos h]; omega
theorem kp32 {k : Nat} (h : k < 60) : kpos 32 k < 3400 := by show (if k < 60 then 37 + k else 10000) < 3400; rw [if_pos h]; omega
theorem kp33 {k : Nat} (h : k < 24) : kpos 33 k < 3400 := by show (if k < 24 then 97 + k else 10000) < 3400; rw [if_pos h]; omega
theorem kp34 {k : Nat} (h : k < 400) : kpos 34 k < 3400 := by show (if k < 400 then 121 + k else 10000) < 3400; rw [if_pos h]; omega
theorem kp35 {k : Nat} (h : k < 2005) : kpos 35 k < 3400 := by show (if k < 2005 then 521 + k else 10000) < 3400; rw [if_pos h]; omega
theorem kp36 {k : Nat} (h : k < 5) : kpos 36 k < 3400 := by show (if k < 5 then 2526 + k else 10000) < 3400; rw [if_pos h]; omega
theorem kp37 {k : Nat} (h : k < 5) : kpos 37 k < 3400 := by show (if k < 5 then 2531 + k else 10000) < 3400; rw [if_pos h]; omega
theorem kp38 {k : Nat} (h : k < 5) : kpos 38 k < 3400 := by show (if k < 5 then 2536 + k else 10000) < 3400; rw [if_pos h]; omega
theorem kp39 {k : Nat} (h : k < 30) : kpos 39 k < 3400 := by show (if k < 30 then 2541 + k else 10000) < 3400; rw [if_pos h]; omega
theorem kp40 {k : Nat} (h : k < 5) : kpos 40 k < 3400 := by show (if k < 5 then 2571 + k else 10000) < 3400; rw [if_pos h]; omega
theorem kp41 {k : Nat} (h : k < 12) : kpos 41 k < 3400 := by show (if k < 12 then 2576 + k else 10000) < 3400; rw [if_pos h]; omega
theorem kp42 {k : Nat} (h : k < 12) : kpos 42 k < 3400 := by show (if k < 12 then 2588 + k else 10000) < 3400; rw [if_pos h]; omega
theorem kp43 {k : Nat} (h : k < 800) : kpos 43 k < 3400 := by show (if k < 800 then 2600 + k else 10000) < 3400; rw [if_pos h]; omega
theorem moS_lx {b b' : zkM} (hb : lx b b') {i : Nat} (hi : i < 5) : moS b' i = moS b i := by unfold moS; rw [hb 31 i (kp31 hi)]
theorem moPr_lx {b b' : zkM} (hb : lx b b') {i : Nat} (hi : i < 5) : moPr b' i = moPr b i := hb 30 _ (kp30 (by omega))
theorem moPe_lx {b b' : zkM} (hb : lx b b') {i : Nat} (hi : i < 5) : moPe b' i = moPe b i := hb 30 _ (kp30 (by omega))
theorem moLe_lx {b b' : zkM} (hb : lx b b') {i k : Nat} (hi : i < 5) (hk : k < 6) : moLe b' i k = moLe b i k := hb 32 _ (kp32 (by omega))
theorem moRe_lx {b b' : zkM} (hb : lx b b') {i k : Nat} (hi : i < 5) (hk : k < 6) : moRe b' i k = moRe b i k := hb 32 _ (kp32 (by omega))
theorem moN_lx {b b' : zkM} (hb : lx b b') : moN b' = moN b := moN_c (hb 7 2 (by decide))
theorem moDp_lx {b b' : zkM} (hb : lx b b') {i s : Nat} (hi : i < 5) (hs : s ≤ 6) : moDp b' i s = moDp b i s := by
  unfold moDp
  exact lp_cong (fun j x hj => by rw [moLe_lx hb hi (by omega)]) 0
theorem moDe_lx {b b' : zkM} (hb : lx b b') (hM : moA b) {i : Nat} (hi : i < 5) : moDe b' i = moDe b i := by
  have := hM.2.1 i hi
  rw [moDe_p, moDe_p, moS_lx hb hi, moDp_lx hb hi (by unfold moS; omega)]
theorem moCe_lx {b b' : zkM} (hb : lx b b') (hM : moA b) (r : Int) : moCe b' r = moCe b r := by
  have hn := hM.1
  unfold moCe
  rw [moN_lx hb]
  refine lp_cong (fun i s hi => ?_) 0
  have hi5 : i < 5 := by unfold moN at hi; omega
  have := hM.2.1 i hi5
  unfold moCi
  rw [moS_lx hb hi5, moPr_lx hb hi5]
  exact lp_cong (fun k s hk => by rw [moRe_lx hb hi5 (by unfold moS at hk; omega)]) s
theorem tC_lw {a a' b b' : zkM} {i : Nat} (hi : i < 5) (hM : moA b) (ha : lw a a') (hb : lx b b') (h : tC a b i) : tC a' b' i := by
  have hS := hM.2.1 i hi
  have e5 : ∀ k, 4 ≤ k → k ≤ 14 → a' 5 i k = a 5 i k := fun k h1 h2 => ha 5 i k (by omega) (by omega)
  unfold tC at *
  rw [moDe_lx hb hM hi, moPr_lx hb hi, moPe_lx hb hi, moS_lx hb hi, hb 30 (4 * i + 2) (kp30 (by omega)), hb 30 (4 * i + 3) (kp30 (by omega)), hb 31 i (kp31 hi), e5 4 (by decide) (by decide), e5 5 (by decide) (by decide), e5 6 (by decide) (by decide), e5 7 (by decide) (by decide), e5 8 (by decide) (by decide), e5 9 (by decide) (by decide)]
  refine ⟨⟨h.1.1, h.1.2.1, h.1.2.2.1, h.1.2.2.2.1, h.1.2.2.2.2.1, h.1.2.2.2.2.2.1, fun k hk => ?_⟩, h.2.1, fun k hk => ?_⟩
  · have hk6 : k < 6 := by unfold moS at hk; omega
    rw [ha 19 i k (by omega) (Or.inr (Or.inr (Or.inr (Or.inr (Or.inr ⟨by omega, hk6⟩))))), ha 20 i k (by omega) (Or.inr (Or.inr (Or.inr (Or.inr (Or.inr ⟨by omega, hk6⟩))))), moRe_lx hb hi hk6, moLe_lx hb hi hk6]
    exact h.1.2.2.2.2.2.2 k hk
  · have hk6 : k < 6 := by unfold moS at hk; omega
    rw [moLe_lx hb hi hk6]
    exact h.2.2 k hk
theorem kc11 {t k : Nat} (ht : 11 ≤ t ∧ t ≤ 22) (hk : k < aln t) : kcp t k := Or.inr (Or.inr (Or.inr (Or.inr (Or.inr ⟨ht, hk⟩))))
theorem kR_lw {a a' b b' : zkM} (ha : lw a a') (hb : lx b b') (h : kR a b) : kR a' b' := by
  have hn := kR_n h
  obtain ⟨h1, h2, h3, h4, hA, hM⟩ := h
  have v7 : ∀ k, k = 1 ∨ k = 2 ∨ k = 6 ∨ k = 7 ∨ k = 8 → b' 7 0 k = b 7 0 k := by
    intro k hk
    rcases hk with rfl | rfl | rfl | rfl | rfl <;> exact hb 7 _ (by decide)
  have e5 : ∀ i k, i < 5 → 4 ≤ k → k ≤ 14 → a' 5 i k = a 5 i k := fun i k h0 h1 h2 => ha 5 i k (by omega) (by omega)
  have e4 : ∀ k, 2 ≤ k → k ≤ 10 → a' 4 0 k = a 4 0 k := fun k h1 h2 => ha 4 0 k (by omega) (by omega)
  have e17 : ∀ k, k < 4 → a' 17 0 k = a 17 0 k := fun k hk => ha 17 0 k (by omega) (kc11 (by omega) hk)
  have e05 : a' 0 0 5 = a 0 0 5 := ha 0 0 5 (by omega) (by omega)
  have e06 : a' 0 0 6 = a 0 0 6 := ha 0 0 6 (by omega) (by omega)
  refine ⟨?_, fun i hi => tC_lw (by rw [moN_lx hb] at hi; omega) hM ha hb (h2 i (by rw [moN_lx hb] at hi; exact hi)), fun r hr => by rw [e17 r hr, moCe_lx hb hM]; exact h3 r hr, ?_, ?_, ?_⟩
  · rw [e05, e06, v7 1 (by omega), v7 2 (by omega)]; exact h1
  · rw [e4 3 (by decide) (by decide), e4 4 (by decide) (by decide), e4 5 (by decide) (by decide), e4 6 (by decide) (by decide), v7 6 (by omega), v7 7 (by omega), v7 8 (by omega)]; exact h4
  · unfold anA at *
    rw [e05, e4 3 (by decide) (by decide), e4 4 (by decide) (by decide), e4 5 (by decide) (by decide), e4 6 (by decide) (by decide)]
    refine ⟨hA.1, fun i hi => ⟨?_, fun k hk => ?_⟩, fun k hk => by rw [e17 k hk]; exact hA.2.2.1 k hk, hA.2.2.2⟩
    · rw [e5 i 4 hi (by decide) (by decide), e5 i 5 hi (by decide) (by decide), e5 i 6 hi (by decide) (by decide), e5 i 8 hi (by decide) (by decide), e5 i 9 hi (by decide) (by decide)]
      exact (hA.2.1 i hi).1
    · rw [ha 19 i k (by omega) (kc11 (by omega) hk), ha 20 i k (by omega) (kc11 (by omega) hk)]
      exact (hA.2.1 i hi).2 k hk
  · unfold moA at *
    rw [v7 2 (by omega), v7 6 (by omega), v7 7 (by omega), v7 8 (by omega)]
    refine ⟨hM.1, fun i hi => by rw [hb 31 i (kp31 hi)]; exact hM.2.1 i hi, fun i hi => ?_, fun i hi => ?_, fun i k hi hk => ?_, hM.2.2.2.2.2⟩
    · rw [hb 30 _ (kp30 (by omega)), hb 30 _ (kp30 (by omega)), hb 30 _ (kp30 (by omega)), hb 30 _ (kp30 (by omega))]
      exact hM.2.2.1 i hi
    · have := hM.1
      rw [hb 30 _ (kp30 (by omega))]
      exact hM.2.2.2.1 i hi
    · rw [moRe_lx hb hi hk, moLe_lx hb hi hk]
      exact hM.2.2.2.2.1 i k hi hk
theorem tR_lw {a a' b b' : zkM} {T U : Int} {i : Nat} (hT : T ≤ 400) (hi : i < 5) (hM : moA b) (hB : tB a b i) (ha : lw a a') (hb : lx b b') (h : tR a b T U i) : tR a' b' T U i := by
  obtain ⟨⟨q1, q2, q3⟩, ⟨p1, p2, p3, p4⟩, ⟨n1, n2⟩, ⟨z1, z2, z3⟩⟩ := h
  have hS := hM.2.1 i hi
  have e1 : ∀ k, 1 ≤ k → k ≤ 2 → a' 1 i k = a 1 i k := fun k h1 h2 => ha 1 i k (by omega) (by omega)
  have e5 : ∀ k, 4 ≤ k → k ≤ 14 → a' 5 i k = a 5 i k := fun k h1 h2 => ha 5 i k (by omega) (by omega)
  have e36 := hb 36 i (kp36 hi)
  have e37 := hb 37 i (kp37 hi)
  have e38 := hb 38 i (kp38 hi)
  have e40 := hb 40 i (kp40 hi)
  have e31 := hb 31 i (kp31 hi)
  have b12 := hB.2.2.2.1
  refine ⟨⟨?_, fun k hk => ?_, fun k hk => ?_⟩, ⟨?_, ?_, ?_, ?_⟩, ⟨?_, ?_⟩, ⟨?_, fun k hk => ?_, ?_⟩⟩
  · rw [e1 1 (by decide) (by decide), e1 2 (by decide) (by decide), e36]; exact q1
  · rw [e36] at hk
    rw [e1 1 (by decide) (by decide), ha 21 i _ (by omega) (kc11 (by omega) (by show (a 1 i 1).toNat + k < 400; omega)), hb 35 _ (kp35 (by omega))]
    exact q2 k hk
  · rw [e36] at hk
    rw [hb 35 _ (kp35 (by omega)), hb 35 _ (kp35 (by omega))]
    exact q3 k hk
  · rw [e5 12 (by decide) (by decide), e5 13 (by decide) (by decide), e37, moDp_lx hb hi (by omega)]; exact p1
  · rw [e5 12 (by decide) (by decide), e5 13 (by decide) (by decide), e31]
    intro hS'
    rw [moLe_lx hb hi (by have := p2 hS'; omega)]
    exact p2 hS'
  · rw [e36, e5 12 (by decide) (by decide), e5 13 (by decide) (by decide)]; exact p3
  · rw [e36, e31]; exact p4
  · rw [e31, e5 10 (by decide) (by decide), hb 30 (4 * i + 3) (kp30 (by omega)), hb 30 (4 * i + 1) (kp30 (by omega))]; exact n1
  · rw [e31, e5 10 (by decide) (by decide), hb 30 (4 * i + 3) (kp30 (by omega))]; exact n2
  · rw [e5 11 (by decide) (by decide), e38]; exact z1
  · rw [ha 22 i k (by omega) (kc11 (by omega) hk), hb 39 _ (kp39 (by omega))]; exact z2 k hk
  · rw [e5 14 (by decide) (by decide), e40]; exact z3
theorem phR_lw {a a' b b' : zkM} {T U : Int} (hT : T ≤ 400) (ha : lw a a') (hb : lx b b') (h : phR a b T U T T T) : phR a' b' T U T T T := by
  have hn := kR_n h.1
  obtain ⟨hK, hR, hB, hS, hQ, hN, hX, hO⟩ := h
  have hM := hK.2.2.2.2.2
  have hsn := sV_n hM hS
  have e4 : ∀ k, 2 ≤ k → k ≤ 10 → a' 4 0 k = a 4 0 k := fun k h1 h2 => ha 4 0 k (by omega) (by omega)
  have v7 : ∀ k, k = 6 ∨ k = 7 ∨ k = 8 ∨ k = 9 ∨ k = 19 ∨ k = 20 ∨ k = 21 ∨ k = 22 ∨ k = 26 → b' 7 0 k = b 7 0 k := by
    intro k hk
    rcases hk with rfl | rfl | rfl | rfl | rfl | rfl | rfl | rfl | rfl <;> exact hb 7 _ (by decide)
  have e05 : a' 0 0 5 = a 0 0 5 := ha 0 0 5 (by omega) (by omega)
  refine ⟨kR_lw ha hb hK, fun i hi => ?_, fun i hi => ?_, ?_, ?_, ?_, ?_, fun i hi hi5 => ?_⟩
  · rw [moN_lx hb] at hi
    exact tR_lw hT (by omega) hM (hB i (by omega)) ha hb (hR i hi)
  · have r := hB i hi
    have e1 : ∀ k, 1 ≤ k → k ≤ 2 → a' 1 i k = a 1 i k := fun k h1 h2 => ha 1 i k (by omega) (by omega)
    have e5 : ∀ k, 4 ≤ k → k ≤ 14 → a' 5 i k = a 5 i k := fun k h1 h2 => ha 5 i k (by omega) (by omega)
    unfold tB at *
    rw [e1 1 (by decide) (by decide), e1 2 (by decide) (by decide), e5 12 (by decide) (by decide), e5 13 (by decide) (by decide), hb 36 i (kp36 hi), hb 37 i (kp37 hi), hb 38 i (kp38 hi)]
    refine ⟨fun k hk => ?_, fun k hk => ?_, r.2.2⟩
    · rw [ha 21 i k (by omega) (kc11 (by omega) hk)]; exact r.1 k hk
    · rw [hb 35 _ (kp35 (by omega))]; exact r.2.1 k hk
  · obtain ⟨s1, s2, s3, s4, s5, s6, s7, s8, s9⟩ := hS
    have hps : ∀ n : Nat, n ≤ 9 → plS b' n = plS b n := by
      intro n hn9
      unfold plS
      exact lp_cong (fun j s hj => by rw [hb 43 _ (kp43 (by omega))]) 0
    unfold sV
    rw [e4 2 (by decide) (by decide), e4 7 (by decide) (by decide), e4 8 (by decide) (by decide), e4 9 (by decide) (by decide), e4 10 (by decide) (by decide), v7 6 (by omega), v7 7 (by omega), v7 8 (by omega), v7 19 (by omega), v7 20 (by omega), v7 21 (by omega), v7 22 (by omega), v7 26 (by omega), hps _ (by omega)]
    refine ⟨s1, s2, fun k hk => ?_, fun k hk => ?_, s5, s6, s7, s8, fun k hk => ?_, fun k hk => ?_, s9.2.2⟩
    · rw [ha 11 0 k (by omega) (kc11 (by omega) (by show k < 9; omega)), ha 12 0 k (by omega) (kc11 (by omega) (by show k < 9; omega)), hb 43 _ (kp43 (by omega)), hb 43 _ (kp43 (by omega))]
      exact s3 k hk
    · rw [hb 43 _ (kp43 (by omega)), hb 43 _ (kp43 (by omega))]
      exact s4 k hk
    · rw [ha 11 0 k (by omega) (kc11 (by omega) hk)]; exact s9.1 k hk
    · rw [hb 43 _ (kp43 hk)]; exact s9.2.1 k hk
  · obtain ⟨q1, q2, q3, q4⟩ := hQ
    have e3 : a' 3 0 4 = a 3 0 4 := ha 3 0 4 (by omega) (by omega)
    unfold qR
    rw [e3, v7 9 (by omega)]
    refine ⟨q1, fun k hk => ?_, fun k hk => ?_, fun k hk => ?_⟩
    · rw [ha 13 0 k (by omega) (kc11 (by omega) (by show k < 12; omega)), ha 14 0 k (by omega) (kc11 (by omega) (by show k < 12; omega)), ha 15 0 k (by omega) (kc11 (by omega) (by show k < 12; omega)), ha 16 0 k (by omega) (kc11 (by omega) (by show k < 12; omega)), hb 33 _ (kp33 (by omega)), hb 33 _ (kp33 (by omega)), hb 41 _ (kp41 (by omega)), hb 42 _ (kp42 (by omega))]
      exact q2 k hk
    · rw [ha 13 0 k (by omega) (kc11 (by omega) hk), ha 14 0 k (by omega) (kc11 (by omega) hk), ha 15 0 k (by omega) (kc11 (by omega) hk), ha 16 0 k (by omega) (kc11 (by omega) hk)]
      exact q3 k hk
    · rw [hb 33 _ (kp33 (by omega)), hb 33 _ (kp33 (by omega)), hb 41 _ (kp41 (by omega)), hb 42 _ (kp42 (by omega))]
      exact q4 k hk
  · refine ⟨fun k hk => ?_, fun k hk => ?_, fun k hk => ?_⟩
    · rw [ha 18 0 k (by omega) (kc11 (by omega) (by show k < 400; omega)), hb 34 _ (kp34 (by omega))]
      exact hN.1 k hk
    · rw [ha 18 0 k (by omega) (kc11 (by omega) hk)]; exact hN.2.1 k hk
    · rw [hb 34 _ (kp34 hk)]; exact hN.2.2 k hk
  · intro i j hi hj hij h1 h2
    rw [e05] at hi hj
    have hhd : ∀ x, x < 5 → taHd a' x = taHd a x := by
      intro x hx
      have e5 : ∀ k, 4 ≤ k → k ≤ 14 → a' 5 x k = a 5 x k := fun k h1 h2 => ha 5 x k (by omega) (by omega)
      unfold taHd
      rw [e5 12 (by decide) (by decide), e5 13 (by decide) (by decide)]
      by_cases g : 0 < a 5 x 13 ∧ a 5 x 12 < 6
      · rw [if_pos g, if_pos g, ha 19 x _ (by omega) (kc11 (by omega) (by show (a 5 x 12).toNat < 6; omega))]
      · rw [if_neg g, if_neg g]
    have hur : ∀ x, x < 5 → beUr a' x = beUr a x := by
      intro x hx
      have hb3 : -1 ≤ taHd a x ∧ taHd a x ≤ 3 := by
        unfold taHd
        split
        · next g =>
          have hb := hB x hx
          exact ((hK.2.2.2.2.1.2.1 x hx).2 (a 5 x 12).toNat (by omega)).1
        · omega
      unfold beUr
      rw [hhd x hx, ha 5 x 4 (by omega) (by omega), ha 17 0 (taHd a x).toNat (by omega) (kc11 (by omega) (by show (taHd a x).toNat < 4; omega))]
    rw [hhd i (by omega)] at h1
    rw [hhd j (by omega)] at h2
    rw [hur i (by omega), hur j (by omega), ha 5 i 4 (by omega) (by omega), ha 5 j 4 (by omega) (by omega)]
    exact hX i j hi hj hij h1 h2
  · rw [moN_lx hb] at hi
    have r := hO i hi hi5
    unfold tO at *
    rw [ha 5 i 11 (by omega) (by omega), ha 22 i 0 (by omega) (kc11 (by omega) (by decide)), hb 36 i (kp36 hi5), hb 37 i (kp37 hi5), hb 38 i (kp38 hi5), hb 40 i (kp40 hi5)]
    exact ⟨r.1, fun k hk => by rw [hb 39 _ (kp39 (by omega))]; exact r.2.1 k hk, r.2.2⟩
theorem sR_lw {a a' b b' : zkM} {T : Int} (ha : lw a a') (hb : lx b b') (h : sR a b T) : sR a' b' T := by
  obtain ⟨h1, h2, h3, h4⟩ := h
  exact ⟨phR_lw h4.2 ha hb h1, by rw [ha 0 0 7 (by omega) (by omega)]; exact h2, by rw [hb 7 11 (by decide)]; exact h3, h4⟩
