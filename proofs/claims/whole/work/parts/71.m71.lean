/-! what the relation reads; a run of units -/
def lv (a a' : zkM) : Prop := (∀ t, t = 0 ∨ t = 3 ∨ t = 4 ∨ (11 ≤ t ∧ t ≤ 18) → a' t 0 = a t 0) ∧ ∀ t i, t = 1 ∨ t = 5 ∨ (19 ≤ t ∧ t ≤ 22) → i < 5 → a' t i = a t i
def lm (b b' : zkM) : Prop := (∀ k, k ≠ 0 → k < 28 → b' 7 0 k = b 7 0 k) ∧ ∀ t, 30 ≤ t → t ≤ 43 → b' t 0 = b t 0
theorem lv_r (a : zkM) : lv a a := ⟨fun _ _ => rfl, fun _ _ _ _ => rfl⟩
theorem lm_r (b : zkM) : lm b b := ⟨fun _ _ _ => rfl, fun _ _ _ => rfl⟩
theorem lv_t {a b c : zkM} (h : lv a b) (g : lv b c) : lv a c := ⟨fun t ht => (g.1 t ht).trans (h.1 t ht), fun t i ht hi => (g.2 t i ht hi).trans (h.2 t i ht hi)⟩
theorem lm_t {a b c : zkM} (h : lm a b) (g : lm b c) : lm a c := ⟨fun k h0 h1 => (g.1 k h0 h1).trans (h.1 k h0 h1), fun t h0 h1 => (g.2 t h0 h1).trans (h.2 t h0 h1)⟩
theorem moDe_lm {b b' : zkM} (h : lm b b') (i : Nat) : moDe b' i = moDe b i := by
  unfold moDe moLe moS
  rw [h.2 31 (by decide) (by decide), h.2 32 (by decide) (by decide)]
theorem moCe_lm {b b' : zkM} (h : lm b b') (r : Int) : moCe b' r = moCe b r := by
  unfold moCe moCi moRe moPr moN moS
  rw [h.1 2 (by decide) (by decide), h.2 30 (by decide) (by decide), h.2 31 (by decide) (by decide), h.2 32 (by decide) (by decide)]
theorem moN_lm {b b' : zkM} (h : lm b b') : moN b' = moN b := moN_c (h.1 2 (by decide) (by decide))
theorem tC_lv {a a' b b' : zkM} {i : Nat} (hi : i < 5) (ha : lv a a') (hb : lm b b') (h : tC a b i) : tC a' b' i := by
  unfold tC at *
  rw [moDe_lm hb]
  unfold moPr moPe moRe moLe moS at *
  rw [ha.2 5 i (by omega) hi, ha.2 19 i (by omega) hi, ha.2 20 i (by omega) hi, hb.2 30 (by decide) (by decide), hb.2 31 (by decide) (by decide), hb.2 32 (by decide) (by decide)]
  exact h
theorem kR_lv {a a' b b' : zkM} (ha : lv a a') (hb : lm b b') (h : kR a b) : kR a' b' := by
  have hn := kR_n h
  obtain ⟨h1, h2, h3, h4, hA, hM⟩ := h
  refine ⟨?_, fun i hi => tC_lv (by rw [moN_lm hb] at hi; omega) ha hb (h2 i (by rw [moN_lm hb] at hi; exact hi)), fun r hr => by rw [ha.1 17 (by omega), moCe_lm hb]; exact h3 r hr, ?_, ?_, ?_⟩
  · rw [ha.1 0 (by omega), hb.1 1 (by decide) (by decide), hb.1 2 (by decide) (by decide)]; exact h1
  · rw [ha.1 4 (by omega), hb.1 6 (by decide) (by decide), hb.1 7 (by decide) (by decide), hb.1 8 (by decide) (by decide)]; exact h4
  · unfold anA at *
    rw [ha.1 0 (by omega), ha.1 17 (by omega), ha.1 4 (by omega)]
    refine ⟨hA.1, fun i hi => ?_, hA.2.2⟩
    rw [ha.2 5 i (by omega) hi, ha.2 19 i (by omega) hi, ha.2 20 i (by omega) hi]
    exact hA.2.1 i hi
  · unfold moA moRe moLe at *
    rw [hb.1 2 (by decide) (by decide), hb.1 6 (by decide) (by decide), hb.1 7 (by decide) (by decide), hb.1 8 (by decide) (by decide), hb.2 30 (by decide) (by decide), hb.2 31 (by decide) (by decide), hb.2 32 (by decide) (by decide)]
    exact hM
theorem tR_lv {a a' b b' : zkM} {T U : Int} {i : Nat} (hi : i < 5) (ha : lv a a') (hb : lm b b') (h : tR a b T U i) : tR a' b' T U i := by
  unfold tR tQ tP tN tZ moDp moLe at *
  rw [ha.2 1 i (by omega) hi, ha.2 5 i (by omega) hi, ha.2 21 i (by omega) hi, ha.2 22 i (by omega) hi, hb.2 30 (by decide) (by decide), hb.2 31 (by decide) (by decide), hb.2 32 (by decide) (by decide), hb.2 35 (by decide) (by decide), hb.2 36 (by decide) (by decide), hb.2 37 (by decide) (by decide), hb.2 38 (by decide) (by decide), hb.2 39 (by decide) (by decide), hb.2 40 (by decide) (by decide)]
  exact h
theorem tB_lv {a a' b b' : zkM} {i : Nat} (hi : i < 5) (ha : lv a a') (hb : lm b b') (h : tB a b i) : tB a' b' i := by
  unfold tB at *
  rw [ha.2 1 i (by omega) hi, ha.2 5 i (by omega) hi, ha.2 21 i (by omega) hi, hb.2 35 (by decide) (by decide), hb.2 36 (by decide) (by decide), hb.2 37 (by decide) (by decide), hb.2 38 (by decide) (by decide)]
  exact h
theorem tO_lv {a a' b b' : zkM} {i : Nat} (hi : i < 5) (ha : lv a a') (hb : lm b b') (h : tO a b i) : tO a' b' i := by
  unfold tO at *
  rw [ha.2 5 i (by omega) hi, ha.2 22 i (by omega) hi, hb.2 36 (by decide) (by decide), hb.2 37 (by decide) (by decide), hb.2 38 (by decide) (by decide), hb.2 39 (by decide) (by decide), hb.2 40 (by decide) (by decide)]
  exact h
theorem sV_lv {a a' b b' : zkM} {L N : Int} (ha : lv a a') (hb : lm b b') (h : sV a b L N) : sV a' b' L N := by
  unfold sV plS at *
  rw [ha.1 4 (by omega), ha.1 11 (by omega), ha.1 12 (by omega), hb.2 43 (by decide) (by decide), hb.1 6 (by decide) (by decide), hb.1 7 (by decide) (by decide), hb.1 8 (by decide) (by decide), hb.1 19 (by decide) (by decide), hb.1 20 (by decide) (by decide), hb.1 21 (by decide) (by decide), hb.1 22 (by decide) (by decide), hb.1 26 (by decide) (by decide)]
  exact h
theorem qR_lv {a a' b b' : zkM} (ha : lv a a') (hb : lm b b') (h : qR a b) : qR a' b' := by
  unfold qR at *
  rw [ha.1 3 (by omega), ha.1 13 (by omega), ha.1 14 (by omega), ha.1 15 (by omega), ha.1 16 (by omega), hb.1 9 (by decide) (by decide), hb.2 33 (by decide) (by decide), hb.2 41 (by decide) (by decide), hb.2 42 (by decide) (by decide)]
  exact h
theorem nR_lv {a a' b b' : zkM} {E : Int} (ha : lv a a') (hb : lm b b') (h : nR a b E) : nR a' b' E := by
  unfold nR at *
  rw [ha.1 18 (by omega), hb.2 34 (by decide) (by decide)]
  exact h
theorem taHd_lv {a a' : zkM} {i : Nat} (hi : i < 5) (ha : lv a a') : taHd a' i = taHd a i := by
  unfold taHd
  rw [ha.2 5 i (by omega) hi, ha.2 19 i (by omega) hi]
theorem beUr_lv {a a' : zkM} {i : Nat} (hi : i < 5) (ha : lv a a') : beUr a' i = beUr a i := by
  unfold beUr
  rw [taHd_lv hi ha, ha.2 5 i (by omega) hi, ha.1 17 (by omega)]
theorem exR_lv {a a' : zkM} (ha : lv a a') (h5 : a 0 0 5 ≤ 5) (h : exR a) : exR a' := by
  intro i j hi hj hij h1 h2
  rw [ha.1 0 (by omega)] at hi hj
  rw [taHd_lv (by omega) ha] at h1 h2
  rw [beUr_lv (by omega) ha, beUr_lv (by omega) ha, ha.2 5 i (by omega) (by omega), ha.2 5 j (by omega) (by omega)]
  exact h i j hi hj hij h1 h2
theorem phR_lv {a a' b b' : zkM} {T U L N E : Int} (ha : lv a a') (hb : lm b b') (h : phR a b T U L N E) : phR a' b' T U L N E := by
  have hn := kR_n h.1
  obtain ⟨hK, hR, hB, hS, hQ, hN, hX, hO⟩ := h
  refine ⟨kR_lv ha hb hK, fun i hi => tR_lv (by rw [moN_lm hb] at hi; omega) ha hb (hR i (by rw [moN_lm hb] at hi; exact hi)), fun i hi => tB_lv hi ha hb (hB i hi), sV_lv ha hb hS, qR_lv ha hb hQ, nR_lv ha hb hN, exR_lv ha (by omega) hX, fun i hi hi5 => tO_lv hi5 ha hb (hO i (by rw [moN_lm hb] at hi; exact hi) hi5)⟩
theorem sR_lv {a a' b b' : zkM} {T : Int} (ha : lv a a') (hb : lm b b') (h : sR a b T) : sR a' b' T := by
  obtain ⟨h1, h2, h3, h4⟩ := h
  exact ⟨phR_lv ha hb h1, by rw [ha.1 0 (by omega)]; exact h2, by rw [hb.1 11 (by decide) (by decide)]; exact h3, h4⟩
theorem lm_thr (b : zkM) (x : Int) : lm b (mset b 7 0 0 x) := ⟨fun k hk _ => ms_k hk _ _ _ _ _ _, fun t ht _ => by rw [mset_t (by omega)]⟩
theorem sR_thr {a b : zkM} {T x : Int} (h : sR a b T) : sR a (mset b 7 0 0 x) T := sR_lv (lv_r a) (lm_thr b x) h
/-- a run of units -/
theorem st_units {a b : zkM} {T : Int} (h : sR a b T) : ∀ j : Nat, T + j ≤ 400 → ((lp beMs j (0, a)).1 = (lp moUf1 j (0, b)).1 ∧ (0 ≤ (lp beMs j (0, a)).1 ∧ (lp beMs j (0, a)).1 ≤ j)) ∧ sR (lp beMs j (0, a)).2 (lp moUf1 j (0, b)).2 (T + j) ∧ ∀ i, i < j → beOk (lp beMs i (0, a)).2 ∧ moOk (lp moUf1 i (0, b)).2
  | 0, _ => ⟨⟨rfl, Int.le_refl 0, Int.le_refl 0⟩, by simpa [lp] using h, fun i hi => absurd hi (by omega)⟩
  | j + 1, hj => by
    obtain ⟨⟨g1, g2⟩, g3, g4⟩ := st_units h j (by omega)
    obtain ⟨⟨u1, u2⟩, u3, u4⟩ := st_unit g3 (by omega)
    have hb : 0 ≤ (beMk (lp beMs j (0, a)).2).1 ∧ (beMk (lp beMs j (0, a)).2).1 ≤ 1 := by
      show 0 ≤ b2i (beU5 _).1 ∧ b2i (beU5 _).1 ≤ 1
      unfold b2i
      split <;> omega
    refine ⟨⟨?_, ?_⟩, ?_, fun i hi => ?_⟩
    · show (lp beMs j (0, a)).1 + (beMk (lp beMs j (0, a)).2).1 = (lp moUf1 j (0, b)).1 + (moUnit (lp moUf1 j (0, b)).2).1
      rw [g1, u1]
    · show 0 ≤ (lp beMs j (0, a)).1 + (beMk (lp beMs j (0, a)).2).1 ∧ (lp beMs j (0, a)).1 + (beMk (lp beMs j (0, a)).2).1 ≤ ((j + 1 : Nat) : Int)
      omega
    · have e : T + ((j + 1 : Nat) : Int) = T + j + 1 := by omega
      rw [e]
      exact u2
    · by_cases e : i = j
      · subst e
        exact ⟨u3, u4⟩
      · exact g4 i (by omega)
