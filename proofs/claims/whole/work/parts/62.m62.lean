/-! the configuration's relation over two memories; what is most urgent; who holds -/
def kR (a b : zkM) : Prop := (a 0 0 5 = b 7 0 2 ∧ a 0 0 6 = b 7 0 1 ∧ 0 ≤ b 7 0 1 ∧ b 7 0 1 ≤ 2) ∧ (∀ i : Nat, i < moN b → tC a b i) ∧ (∀ r : Nat, r < 4 → a 17 0 r = moCe b (r : Int)) ∧ ((a 4 0 3 = if 0 < b 7 0 6 then 1 else 0) ∧ (0 < b 7 0 6 → a 4 0 4 = b 7 0 6 ∧ a 4 0 5 = b 7 0 7 ∧ a 4 0 6 = b 7 0 8 ∧ 1 ≤ b 7 0 7)) ∧ anA a ∧ moA b
theorem moCe_c {b b' : zkM} (e7 : b' 7 0 2 = b 7 0 2) (e30 : b' 30 = b 30) (e31 : b' 31 = b 31) (e32 : b' 32 = b 32) (r : Int) : moCe b' r = moCe b r := by
  unfold moCe moCi moRe moPr moN moS
  rw [e7, e30, e31, e32]
theorem kR_c {a a' b b' : zkM} (h05 : a' 0 0 5 = a 0 0 5) (h06 : a' 0 0 6 = a 0 0 6) (h5 : ∀ i k, k < 10 → a' 5 i k = a 5 i k) (h17 : a' 17 = a 17) (h19 : a' 19 = a 19) (h20 : a' 20 = a 20) (h43 : a' 4 0 3 = a 4 0 3) (h44 : a' 4 0 4 = a 4 0 4) (h45 : a' 4 0 5 = a 4 0 5) (h46 : a' 4 0 6 = a 4 0 6) (e71 : b' 7 0 1 = b 7 0 1) (e72 : b' 7 0 2 = b 7 0 2) (e76 : b' 7 0 6 = b 7 0 6) (e77 : b' 7 0 7 = b 7 0 7) (e78 : b' 7 0 8 = b 7 0 8) (e30 : b' 30 = b 30) (e31 : b' 31 = b 31) (e32 : b' 32 = b 32) (h : kR a b) : kR a' b' := by
  obtain ⟨h1, h2, h3, h4, hA, hM⟩ := h
  refine ⟨by rw [h05, h06, e71, e72]; exact h1, fun i hi => tC_c h5 h19 h20 e30 e31 e32 (h2 i (by unfold moN at *; rw [← e72]; exact hi)), fun r hr => by rw [h17, moCe_c e72 e30 e31 e32]; exact h3 r hr, by rw [h43, h44, h45, h46, e76, e77, e78]; exact h4, ?_, ?_⟩
  · unfold anA at *
    rw [h05, h17, h19, h20, h43, h44, h45, h46]
    refine ⟨hA.1, fun i hi => ?_, hA.2.2⟩
    rw [h5 i 4 (by decide), h5 i 5 (by decide), h5 i 6 (by decide), h5 i 8 (by decide), h5 i 9 (by decide)]
    exact hA.2.1 i hi
  · unfold moA moRe moLe at *
    rw [e72, e76, e77, e78, e30, e31, e32]
    exact hM
theorem kR_s {a a' b b' : zkM} (hs : cS a a') (hm : mS b b') (h : kR a b) : kR a' b' := by
  have e0 := hs.1 0 (by decide) (by decide) (by decide) (by decide)
  have e4 := hs.1 4 (by decide) (by decide) (by decide) (by decide)
  have e7 := hm 7 (by decide) (by decide) (by decide) (by decide) (by decide) (by decide)
  exact kR_c (by rw [e0]) (by rw [e0]) hs.2 (hs.1 17 (by decide) (by decide) (by decide) (by decide)) (hs.1 19 (by decide) (by decide) (by decide) (by decide)) (hs.1 20 (by decide) (by decide) (by decide) (by decide)) (by rw [e4]) (by rw [e4]) (by rw [e4]) (by rw [e4]) (by rw [e7]) (by rw [e7]) (by rw [e7]) (by rw [e7]) (by rw [e7]) (hm 30 (by decide) (by decide) (by decide) (by decide) (by decide) (by decide)) (hm 31 (by decide) (by decide) (by decide) (by decide) (by decide) (by decide)) (hm 32 (by decide) (by decide) (by decide) (by decide) (by decide) (by decide)) h
theorem kR_n {a b : zkM} (h : kR a b) : (a 0 0 5).toNat = moN b ∧ moN b ≤ 5 ∧ 0 ≤ b 7 0 2 ∧ b 7 0 2 ≤ 5 ∧ a 0 0 5 = b 7 0 2 := by
  have h1 := h.1.1
  have h2 := h.2.2.2.2.2.1
  unfold moN
  rw [h1]
  omega
theorem ur_eq {a b : zkM} (hK : kR a b) {i : Nat} (hi : i < moN b) (hP : tP a b i) : beUr a i = moAc b i := by
  have hC := hK.2.1 i hi
  have hn := kR_n hK
  have hb := moHd_b hK.2.2.2.2.2 (t := i) (by omega)
  unfold beUr moAc
  rw [hd_eq hC hP]
  by_cases h : moHd b i = -1
  · rw [if_pos h, if_pos h, hC.1.1]
  · rw [if_neg h, if_neg h, hC.1.1, hK.2.2.1 (moHd b i).toNat (by omega)]
    have e : (((moHd b i).toNat : Nat) : Int) = moHd b i := by omega
    rw [e]
theorem ac_pos {a b : zkM} (hK : kR a b) {i : Nat} (hi : i < moN b) : 1 ≤ moAc b i ∧ moPr b i ≤ moAc b i := by
  have hC := hK.2.1 i hi
  have := hC.2.1.1
  unfold moAc
  split <;> omega
theorem mu_go {a b : zkM} (hK : kR a b) (hT : ∀ i, i < moN b → tP a b i ∧ (a 1 i 1 = a 1 i 2 ↔ b 36 0 i = 0)) (s0 : Int × Int) (h0 : 0 ≤ s0.2) : ∀ j, j ≤ moN b → lp (beMf a) j s0 = lp (moUf b) j s0 ∧ 0 ≤ (lp (moUf b) j s0).2
  | 0, _ => ⟨rfl, h0⟩
  | j + 1, hj => by
    obtain ⟨h1, h2⟩ := mu_go hK hT s0 h0 j (by omega)
    have hP := hT j (by omega)
    have hu := ur_eq hK (i := j) (by omega) hP.1
    have hd := hd_eq (hK.2.1 j (by omega)) hP.1
    have hp := ac_pos hK (i := j) (by omega)
    show beMf a j (lp (beMf a) j s0) = moUf b j (lp (moUf b) j s0) ∧ 0 ≤ (moUf b j (lp (moUf b) j s0)).2
    rw [h1]
    generalize lp (moUf b) j s0 = s at *
    unfold beMf moUf moAa
    rw [hu, hd]
    by_cases hq : b 36 0 j = 0
    · rw [if_pos (hP.2.mpr hq), if_pos hq, if_neg (by omega)]
      exact ⟨rfl, h2⟩
    · rw [if_neg (fun h => hq (hP.2.mp h)), if_neg hq]
      by_cases hc : s.2 < moAc b j ∨ moAc b j = s.2 ∧ moHd b j ≠ -1
      · rw [if_pos hc, if_pos (by rcases hc with h | h; exact Or.inl h; exact Or.inr ⟨h.1, by omega, h.2⟩)]
        exact ⟨rfl, by show 0 ≤ moAc b j; omega⟩
      · rw [if_neg hc, if_neg (fun h => hc (by rcases h with h | h; exact Or.inl h; exact Or.inr ⟨h.1, h.2.2⟩))]
        exact ⟨rfl, h2⟩
theorem mu_eq {a b : zkM} {w : Int} (hK : kR a b) (hT : ∀ i, i < moN b → tP a b i ∧ (a 1 i 1 = a 1 i 2 ↔ b 36 0 i = 0)) (hw : w = b2i (moRb b (b 7 0 11 + 1))) : beMu a w = moMU b := by
  have hn := kR_n hK
  have hM := hK.2.2.2.2.2
  unfold beMu moMU moU0
  rw [hn.1]
  by_cases h : moRb b (b 7 0 11 + 1) = true
  · rw [h] at hw
    have h6 : 0 < b 7 0 6 := by
      unfold moRb at h
      have := of_decide_eq_true h
      exact this.1
    rw [if_pos h, if_neg (by rw [hw]; decide), (hK.2.2.2.1.2 h6).1]
    rw [(mu_go hK hT (9, b 7 0 6) (by show 0 ≤ b 7 0 6; omega) (moN b) (Nat.le_refl _)).1]
  · have h' : moRb b (b 7 0 11 + 1) = false := by simpa using h
    rw [h'] at hw
    rw [if_neg h, if_pos (by rw [hw]; rfl)]
    rw [(mu_go hK hT (-1, 0) (Int.le_refl 0) (moN b) (Nat.le_refl _)).1]
/-- what is chosen -/
def muJ (b : zkM) (s0 : Int × Int) (j : Nat) (s : Int × Int) : Prop := (s = s0 ∧ ∀ i, i < j → b 36 0 i ≠ 0 → moAc b i ≤ s.2) ∨ ∃ c : Nat, c < j ∧ s = ((c : Int), moAc b c) ∧ b 36 0 c ≠ 0 ∧ (∀ i, i < j → b 36 0 i ≠ 0 → moAc b i ≤ moAc b c) ∧ (moHd b c = -1 → ∀ i, i < j → i ≠ c → b 36 0 i ≠ 0 → moHd b i ≠ -1 → moAc b i < moAc b c)
theorem mu_inv {a b : zkM} (hK : kR a b) (s0 : Int × Int) (h0 : 0 ≤ s0.2) : ∀ j, j ≤ moN b → muJ b s0 j (lp (moUf b) j s0)
  | 0, _ => Or.inl ⟨rfl, fun i hi => absurd hi (by omega)⟩
  | j + 1, hj => by
    have ih := mu_inv hK s0 h0 j (by omega)
    have hp := ac_pos hK (i := j) (by omega)
    show muJ b s0 (j + 1) (moUf b j (lp (moUf b) j s0))
    generalize lp (moUf b) j s0 = s at *
    unfold moUf moAa
    by_cases hq : b 36 0 j = 0
    · rw [if_pos hq]
      have hs2 : 0 ≤ s.2 := by
        rcases ih with ⟨e, -⟩ | ⟨c, hc, e, -⟩
        · rw [e]; exact h0
        · rw [e]; have := ac_pos hK (i := c) (by omega); show 0 ≤ moAc b c; omega
      rw [if_neg (by omega)]
      rcases ih with ⟨e, g⟩ | ⟨c, hc, e, g1, g2, g3⟩
      · refine Or.inl ⟨e, fun i hi hqi => ?_⟩
        by_cases hij : i = j
        · subst hij; exact absurd hq hqi
        · exact g i (by omega) hqi
      · refine Or.inr ⟨c, by omega, e, g1, fun i hi hqi => ?_, fun hh i hi hic hqi hhi => ?_⟩
        · by_cases hij : i = j
          · subst hij; exact absurd hq hqi
          · exact g2 i (by omega) hqi
        · by_cases hij : i = j
          · subst hij; exact absurd hq hqi
          · exact g3 hh i (by omega) hic hqi hhi
    · rw [if_neg hq]
      by_cases hc : s.2 < moAc b j ∨ moAc b j = s.2 ∧ 0 < moAc b j ∧ moHd b j ≠ -1
      · rw [if_pos hc]
        have hle : ∀ i, i < j → b 36 0 i ≠ 0 → moAc b i ≤ s.2 := by
          rcases ih with ⟨e, g⟩ | ⟨c, hc, e, g1, g2, g3⟩
          · exact g
          · rw [e]; exact g2
        refine Or.inr ⟨j, by omega, rfl, hq, fun i hi hqi => ?_, fun hh i hi hic hqi hhi => ?_⟩
        · by_cases hij : i = j
          · subst hij; exact Int.le_refl _
          · have := hle i (by omega) hqi
            omega
        · have := hle i (by omega) hqi
          rcases hc with hc | hc
          · omega
          · exact absurd hh hc.2.2
      · rw [if_neg hc]
        rcases ih with ⟨e, g⟩ | ⟨c, hcc, e, g1, g2, g3⟩
        · refine Or.inl ⟨e, fun i hi hqi => ?_⟩
          by_cases hij : i = j
          · subst hij; omega
          · exact g i (by omega) hqi
        · have e2 : s.2 = moAc b c := by rw [e]
          rw [e2] at hc
          refine Or.inr ⟨c, by omega, e, g1, fun i hi hqi => ?_, fun hh i hi hic hqi hhi => ?_⟩
          · by_cases hij : i = j
            · subst hij; omega
            · exact g2 i (by omega) hqi
          · by_cases hij : i = j
            · subst hij; omega
            · exact g3 hh i (by omega) hic hqi hhi
theorem moU0_2 {a b : zkM} (hK : kR a b) : 0 ≤ (moU0 b).2 := by
  have := hK.2.2.2.2.2.2.2.2.2.2.1
  unfold moU0
  split
  · exact this.1
  · exact Int.le_refl 0
/-- the choice: the server, none, or a task with a job -/
theorem mu_cases {a b : zkM} (hK : kR a b) : (moMU b = 9 ∧ moRb b (b 7 0 11 + 1) = true) ∨ (moMU b = -1 ∧ moRb b (b 7 0 11 + 1) = false) ∨ ∃ c : Nat, c < moN b ∧ moMU b = c ∧ b 36 0 c ≠ 0 ∧ (moHd b c = -1 → ∀ i, i < moN b → i ≠ c → b 36 0 i ≠ 0 → moHd b i ≠ -1 → moAc b i < moAc b c) := by
  have h := mu_inv hK (moU0 b) (moU0_2 hK) (moN b) (Nat.le_refl _)
  unfold moMU
  rcases h with ⟨e, g⟩ | ⟨c, hc, e, g1, g2, g3⟩
  · rw [e]
    unfold moU0
    by_cases hr : moRb b (b 7 0 11 + 1) = true
    · rw [if_pos hr]
      exact Or.inl ⟨rfl, hr⟩
    · rw [if_neg hr]
      exact Or.inr (Or.inl ⟨rfl, by simpa using hr⟩)
  · rw [e]
    exact Or.inr (Or.inr ⟨c, hc, rfl, g1, g3⟩)
