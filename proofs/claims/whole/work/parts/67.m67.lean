/-! the server's steps keep the relation -/
theorem plS_sh {b b' : zkM} {P : Nat} (h : ∀ k : Nat, k + 1 < P → b' 43 0 (2 * k + 1) = b 43 0 (2 * (k + 1) + 1)) : ∀ n : Nat, n + 1 ≤ P → plS b' n + b 43 0 1 = plS b (n + 1)
  | 0, _ => by
    show (0 : Int) + b 43 0 1 = 0 + b 43 0 (2 * 0 + 1)
    rfl
  | n + 1, hn => by
    have h1 := plS_sh h n (by omega)
    have h2 := h n (by omega)
    show plS b' n + b' 43 0 (2 * n + 1) + b 43 0 1 = plS b (n + 1) + b 43 0 (2 * (n + 1) + 1)
    rw [h2]
    omega
theorem st_repl {a b : zkM} {T : Int} (hT : 0 ≤ T ∧ T < 400) (hM : moA b) (h : sV a b T T) (hc : b 7 0 11 = T) : sV (seRp a T) (moRepl b) (T + 1) T ∧ (∀ t, t ≠ 4 → t ≠ 11 → t ≠ 12 → seRp a T t = a t) ∧ (∀ k, k ≠ 2 → k ≠ 7 → seRp a T 4 0 k = a 4 0 k) ∧ (∀ t, t ≠ 7 → t ≠ 43 → moRepl b t = b t) ∧ (∀ k, k ≠ 19 → k ≠ 26 → moRepl b 7 0 k = b 7 0 k) := by
  have hN := sV_n hM h
  have h' := h
  obtain ⟨h1, h2, h3, h4, h5, h6, h7, h8, h9⟩ := h
  by_cases hd : 0 < b 7 0 26 ∧ b 43 0 0 = T
  · have eA := rp_yesA h' hd.1 hd.2
    have eB := rp_yesB h' hc hd.1 hd.2
    have e0 : a 12 0 0 = b 43 0 1 := by
      have := (h3 0 (by omega)).2.1
      simpa using this
    have i0 : 1 ≤ b 43 0 1 := by
      have := (h3 0 (by omega)).2.2.2.1
      simpa using this
    have hs : 0 < b 7 0 6 := by
      apply Classical.byContradiction
      intro hs
      have := h6 hs
      omega
    obtain ⟨g1, g2, g3⟩ := h5 hs
    rw [eA, eB]
    have hPn : (b 7 0 26 - 1).toNat = (b 7 0 26).toNat - 1 := by omega
    have hlt : ∀ k : Nat, (k : Int) + 1 < b 7 0 26 → T < b 43 0 (2 * (k + 1)) := by
      intro k hkp
      have := mono_q (v := fun k => b 43 0 (2 * k)) (Q := (b 7 0 26).toNat) (fun k hk => h4 k (by omega)) (k + 1) 0 (by omega)
      simp only [Nat.zero_add, Nat.mul_zero] at this
      push_cast at this
      omega
    generalize hB' : mset (mrow (mset b 7 0 19 (b 7 0 19 + b 43 0 1)) 43 0 (fun x => if x < 2 * ((b 7 0 26).toNat - 1) then b 43 0 (x + 2) else b 43 0 x)) 7 0 26 (b 7 0 26 - 1) = b'
    generalize hA' : mset (mrow (mrow (mset a 4 0 7 (a 4 0 7 + a 12 0 0)) 11 0 (fun x => if x < (b 7 0 26).toNat - 1 then a 11 0 (x + 1) else a 11 0 x)) 12 0 (fun x => if x < (b 7 0 26).toNat - 1 then a 12 0 (x + 1) else a 12 0 x)) 4 0 2 (b 7 0 26 - 1) = a'
    have B43 : ∀ x, b' 43 0 x = if x < 2 * ((b 7 0 26).toNat - 1) then b 43 0 (x + 2) else b 43 0 x := by intro x; rw [← hB', ms_t (by decide), mrow_s]
    have B26 : b' 7 0 26 = b 7 0 26 - 1 := by rw [← hB', ms_s]
    have B19 : b' 7 0 19 = b 7 0 19 + b 43 0 1 := by rw [← hB']; rfl
    have B7 : ∀ k, k ≠ 19 → k ≠ 26 → b' 7 0 k = b 7 0 k := by
      intro k k1 k2
      rw [← hB', ms_k k2, mrow_t (by decide), ms_k k1]
    have A11 : ∀ x, a' 11 0 x = if x < (b 7 0 26).toNat - 1 then a 11 0 (x + 1) else a 11 0 x := by intro x; rw [← hA', ms_t (by decide), mrow_t (by decide), mrow_s]
    have A12 : ∀ x, a' 12 0 x = if x < (b 7 0 26).toNat - 1 then a 12 0 (x + 1) else a 12 0 x := by intro x; rw [← hA', ms_t (by decide), mrow_s]
    have A42 : a' 4 0 2 = b 7 0 26 - 1 := by rw [← hA', ms_s]
    have A47 : a' 4 0 7 = a 4 0 7 + b 43 0 1 := by rw [← hA', ← e0]; rfl
    have A4 : ∀ k, k ≠ 2 → k ≠ 7 → a' 4 0 k = a 4 0 k := by
      intro k k1 k2
      rw [← hA', ms_k k1, mrow_t (by decide), mrow_t (by decide), ms_k k2]
    have hsum := plS_sh (b := b) (b' := b') (P := (b 7 0 26).toNat) (fun k hk => by rw [B43, if_pos (by omega)]; rfl) ((b 7 0 26).toNat - 1) (by omega)
    have en : (b 7 0 26).toNat - 1 + 1 = (b 7 0 26).toNat := by omega
    rw [en] at hsum
    have hge := plS_ge (b := b') ((b 7 0 26).toNat - 1) (fun k hk => by
      rw [B43, if_pos (by omega)]
      exact (h3 (k + 1) (by omega)).2.2.2.1)
    have hb9 := hM.2.2.2.2.2.2.1
    refine ⟨⟨?_, ?_, ?_, ?_, ?_, ?_, ?_, ?_, ?_⟩, ?_, A4, ?_, B7⟩
    · rw [A4 8 (by decide) (by decide), B7 20 (by decide) (by decide)]; exact h1
    · rw [A42, B26]; exact ⟨rfl, by omega⟩
    · intro k hk
      rw [B26] at hk
      have g := h3 (k + 1) (by omega)
      rw [A11, A12, B43, B43, B7 20 (by decide) (by decide), B7 21 (by decide) (by decide), B7 8 (by decide) (by decide), if_pos (by omega), if_pos (by omega), if_pos (by omega), if_pos (by omega)]
      have e1 : 2 * k + 2 = 2 * (k + 1) := by omega
      have e2 : 2 * k + 1 + 2 = 2 * (k + 1) + 1 := by omega
      rw [e1, e2]
      have hgt := hlt k (by omega)
      exact ⟨g.1, g.2.1, by omega, g.2.2.2.1, g.2.2.2.2⟩
    · intro k hk
      rw [B26] at hk
      rw [B43, B43, if_pos (by omega), if_pos (by omega)]
      exact h4 (k + 1) (by omega)
    · intro _
      rw [A47, B19, B26, B7 20 (by decide) (by decide), B7 22 (by decide) (by decide), B7 7 (by decide) (by decide), hPn]
      omega
    · intro hh
      rw [B7 6 (by decide) (by decide)] at hh
      exact absurd hs hh
    · rw [A4 9 (by decide) (by decide), A4 10 (by decide) (by decide), B7 20 (by decide) (by decide), B7 21 (by decide) (by decide), B7 22 (by decide) (by decide)]
      exact h7
    · intro h0
      have := h8 h0
      omega
    · obtain ⟨r1, r2, r3, r4, r5, r6, r7⟩ := h9
      refine ⟨fun k hk => ?_, fun k hk => ?_, by rw [A4 9 (by decide) (by decide)]; exact r3, ?_, ?_, by rw [B7 21 (by decide) (by decide)]; exact r6, by rw [B7 22 (by decide) (by decide)]; exact r7⟩
      · rw [A11]
        split
        · exact r1 (k + 1) (by omega)
        · exact r1 k hk
      · rw [B43]
        split
        · exact r2 (k + 2) (by omega)
        · exact r2 k hk
      · rw [A47, g1]
        split at g3 <;> omega
      · rw [B19]
        split at g3 <;> omega
    · intro t t1 t2 t3
      rw [← hA', mset_t t1]
      funext i k
      rw [mrow_t t3, mrow_t t2, ms_t t1]
    · intro t t1 t2
      rw [← hB', mset_t t1]
      funext i k
      rw [mrow_t t2, ms_t t1]
  · have hn : ∀ k : Nat, (k : Int) < b 7 0 26 → b 43 0 (2 * k) ≠ T := by
      intro k hk he
      have := mono_q (v := fun k => b 43 0 (2 * k)) (Q := (b 7 0 26).toNat) (fun k hk => h4 k (by omega)) k 0 (by omega)
      simp only [Nat.zero_add, Nat.mul_zero] at this
      have := (h3 0 (by omega)).2.2.1
      simp only [Nat.mul_zero] at this
      exact hd ⟨by omega, by omega⟩
    obtain ⟨eA, eB⟩ := rp_no h' hc hn
    rw [eA, eB]
    refine ⟨⟨h1, h2, fun k hk => ?_, h4, h5, h6, h7, h8, h9⟩, fun _ _ _ _ => rfl, fun _ _ _ => rfl, fun _ _ _ => rfl, fun _ _ _ => rfl⟩
    have g := h3 k hk
    have := hn k hk
    exact ⟨g.1, g.2.1, by omega, g.2.2.2⟩
/-- the server does not run -/
theorem sV_n1 {a b : zkM} {T : Int} (hT : 0 ≤ T) (h : sV a b (T + 1) T) : sV a b (T + 1) (T + 1) := by
  obtain ⟨h1, h2, h3, h4, h5, h6, h7, h8, h9⟩ := h
  refine ⟨h1, h2, fun k hk => ?_, h4, h5, h6, fun hu => ?_, fun h0 => by omega, h9⟩
  · have g := h3 k hk
    refine ⟨g.1, g.2.1, g.2.2.1, g.2.2.2.1, ?_⟩
    have g5 := g.2.2.2.2
    by_cases hu : b 7 0 20 = 1
    · rw [if_pos hu] at g5 ⊢; exact g5
    · rw [if_neg hu] at g5 ⊢; omega
  · have := h7 hu
    omega
/-- the server runs for a unit -/
theorem st_srun {a b a' b' : zkM} {T : Int} (hT : 0 ≤ T ∧ T < 400) (hM : moA b) (h : sV a b (T + 1) T) (hc : b 7 0 11 = T) (hs : 0 < b 7 0 6) (hb : 0 < b 7 0 19) (a4 : a' 4 = (seRu a T) 4) (a11 : a' 11 = a 11) (a12 : a' 12 = a 12) (b7 : b' 7 = (moV2 b) 7) (b43 : b' 43 = b 43) : sV a' b' (T + 1) (T + 1) ∧ (∀ k, k ≠ 7 → k ≠ 8 → k ≠ 9 → k ≠ 10 → a' 4 0 k = a 4 0 k) ∧ (∀ k, k ≠ 19 → k ≠ 20 → k ≠ 21 → k ≠ 22 → b' 7 0 k = b 7 0 k) := by
  obtain ⟨h1, h2, h3, h4, h5, h6, h7, h8, h9⟩ := h
  obtain ⟨g1, g2, g3⟩ := h5 hs
  have hb9 := hM.2.2.2.2.2.2.1
  have hge := plS_ge (b := b) (b 7 0 26).toNat (fun k hk => (h3 k (by omega)).2.2.2.1)
  obtain ⟨r1, r2, r3, r4, r5, r6, r7⟩ := h9
  have hps : plS b' (b 7 0 26).toNat = plS b (b 7 0 26).toNat := plS_c b43 _
  by_cases hu : b 7 0 20 = 1
  · have hbs := h7 hu
    have A4 : ∀ k, a' 4 0 k = if k = 10 then a 4 0 10 + 1 else if k = 7 then a 4 0 7 - 1 else a 4 0 k := by
      intro k
      rw [a4]
      unfold seRu
      rw [if_neg (by omega)]
      simp [mset]
    have B7 : ∀ k, b' 7 0 k = if k = 22 then b 7 0 22 + 1 else if k = 19 then b 7 0 19 - 1 else b 7 0 k := by
      intro k
      rw [b7]
      unfold moV2 moV1
      rw [if_neg (by omega)]
      simp [mset]
    rw [if_pos hu] at g3
    refine ⟨⟨?_, ?_, ?_, ?_, ?_, ?_, ?_, ?_, ?_⟩, ?_, ?_⟩
    · simp only [A4, B7]; simp; exact h1
    · simp only [A4, B7]; simp; exact h2
    · intro k hk
      simp only [B7] at hk
      simp at hk
      have g := h3 k hk
      rw [if_pos hu] at g
      rw [a11, a12, b43]
      simp only [B7]
      simp
      rw [if_pos hu]
      exact g
    · simp only [B7]; simp; rw [b43]; exact h4
    · intro _
      simp only [A4, B7]
      simp
      rw [if_pos hu, hps]
      omega
    · intro hh
      simp only [B7] at hh
      simp at hh
      omega
    · intro _
      simp only [A4, B7]
      simp
      omega
    · intro h0
      omega
    · refine ⟨by rw [a11]; exact r1, by rw [b43]; exact r2, ?_, ?_, ?_, ?_, ?_⟩
      · simp only [A4]; simp; exact r3
      · simp only [A4]; simp; omega
      · simp only [B7]; simp; omega
      · simp only [B7]; simp; exact r6
      · simp only [B7]; simp; omega
    · intro k k1 k2 k3 k4
      rw [A4, if_neg k4, if_neg k1]
    · intro k k1 k2 k3 k4
      rw [B7, if_neg k4, if_neg k1]
  · have hu0 : b 7 0 20 = 0 := by omega
    have A4 : ∀ k, a' 4 0 k = if k = 10 then 1 else if k = 7 then a 4 0 7 - 1 else if k = 9 then T else if k = 8 then 1 else a 4 0 k := by
      intro k
      rw [a4]
      unfold seRu
      rw [if_pos (by omega)]
      by_cases k1 : k = 10
      · simp [mset, k1]
      · by_cases k2 : k = 7
        · simp [mset, k2]
        · simp [mset, k1, k2]
    have B7 : ∀ k, b' 7 0 k = if k = 22 then 1 else if k = 19 then b 7 0 19 - 1 else if k = 21 then T else if k = 20 then 1 else b 7 0 k := by
      intro k
      rw [b7]
      unfold moV2 moV1
      rw [if_pos hu0, hc]
      by_cases k1 : k = 22
      · simp [mset, k1]
      · by_cases k2 : k = 19
        · simp [mset, k2]
        · simp [mset, k1, k2]
    rw [if_neg hu] at g3
    refine ⟨⟨?_, ?_, ?_, ?_, ?_, ?_, ?_, ?_, ?_⟩, ?_, ?_⟩
    · simp only [A4, B7]; simp
    · simp only [A4, B7]; simp; exact h2
    · intro k hk
      simp only [B7] at hk
      simp at hk
      have g := h3 k hk
      rw [if_neg hu] at g
      rw [a11, a12, b43]
      simp only [B7]
      simp
      exact g
    · simp only [B7]; simp; rw [b43]; exact h4
    · intro _
      simp only [A4, B7]
      simp
      rw [hps]
      omega
    · intro hh
      simp only [B7] at hh
      simp at hh
      omega
    · intro _
      simp only [A4, B7]
      simp
      omega
    · intro h0
      omega
    · refine ⟨by rw [a11]; exact r1, by rw [b43]; exact r2, ?_, ?_, ?_, ?_, ?_⟩
      · simp only [A4]; simp; omega
      · simp only [A4]; simp; omega
      · simp only [B7]; simp; omega
      · simp only [B7]; simp; omega
      · simp only [B7]; simp
    · intro k k1 k2 k3 k4
      rw [A4, if_neg k4, if_neg k1, if_neg k3, if_neg k2]
    · intro k k1 k2 k3 k4
      rw [B7, if_neg k4, if_neg k1, if_neg k3, if_neg k2]
/-- the busy time ends, or goes on -/
theorem st_end {a b : zkM} {E w : Int} (hE : 1 ≤ E ∧ E ≤ 400) (hM : moA b) (h : sV a b E E) (hc : b 7 0 11 = E) (h3' : a 4 0 3 = if 0 < b 7 0 6 then 1 else 0) (h46 : 0 < b 7 0 6 → a 4 0 6 = b 7 0 8 ∧ 1 ≤ b 7 0 8) (hw : w = if moFq b E = -1 then 0 else 1) : sV (seEn a E w) (moEB b) E E ∧ (∀ t, t ≠ 4 → t ≠ 11 → t ≠ 12 → seEn a E w t = a t) ∧ (∀ k, k ≠ 2 → k ≠ 8 → seEn a E w 4 0 k = a 4 0 k) ∧ (∀ t, t ≠ 7 → t ≠ 43 → moEB b t = b t) ∧ (∀ k, k ≠ 20 → k ≠ 26 → moEB b 7 0 k = b 7 0 k) := by
  have hN := sV_n hM h
  have h' := h
  obtain ⟨h1, h2, h3, h4, h5, h6, h7, h8, h9⟩ := h
  by_cases hu : b 7 0 20 = 1
  · obtain ⟨hn8, hs⟩ := hN.2 hu
    obtain ⟨g1, g2, g3⟩ := h5 hs
    obtain ⟨u1, u2, u3, u4, u5⟩ := h7 hu
    obtain ⟨s1, s2⟩ := h46 hs
    rw [if_pos hs] at h3'
    rw [if_pos hu] at g3
    by_cases hr : 0 < b 7 0 19 ∧ moFq b E ≠ -1
    · have eA : seEn a E w = a := by
        unfold seEn
        rw [if_pos (Or.inr ⟨h3', by rw [hw, if_neg hr.2], by rw [g1]; exact hr.1⟩)]
      have eB : moEB b = b := by
        unfold moEB
        rw [if_neg]
        rintro ⟨-, g⟩
        unfold moRb at g
        rw [hc] at g
        exact of_decide_eq_false g ⟨hs, hr.1, hr.2⟩
      rw [eA, eB]
      exact ⟨h', fun _ _ _ _ => rfl, fun _ _ _ => rfl, fun _ _ _ => rfl, fun _ _ _ => rfl⟩
    · have eA : seEn a E w = mset (mset (mset (mset a 4 0 8 0) 11 0 (b 7 0 26).toNat (max (b 7 0 21 + b 7 0 8) E)) 12 0 (b 7 0 26).toNat (b 7 0 22)) 4 0 2 (b 7 0 26 + 1) := by
        unfold seEn
        rw [if_neg, if_pos (by omega), u1, u2, s1, h2.1]
        rintro (g | ⟨-, g⟩)
        · omega
        · refine hr ⟨by omega, fun e => ?_⟩
          rw [hw, if_pos e] at g
          omega
      have eB : moEB b = mset (mset (mset (mset b 7 0 20 0) 43 0 (2 * (b 7 0 26).toNat) (max (b 7 0 21 + b 7 0 8) E)) 43 0 (2 * (b 7 0 26).toNat + 1) (b 7 0 22)) 7 0 26 (b 7 0 26 + 1) := by
        unfold moEB
        rw [if_pos ⟨hu, by unfold moRb; rw [hc]; exact decide_eq_false (fun g => hr g.2)⟩, hc]
      rw [eA, eB]
      generalize hA' : mset (mset (mset (mset a 4 0 8 0) 11 0 (b 7 0 26).toNat (max (b 7 0 21 + b 7 0 8) E)) 12 0 (b 7 0 26).toNat (b 7 0 22)) 4 0 2 (b 7 0 26 + 1) = a'
      generalize hB' : mset (mset (mset (mset b 7 0 20 0) 43 0 (2 * (b 7 0 26).toNat) (max (b 7 0 21 + b 7 0 8) E)) 43 0 (2 * (b 7 0 26).toNat + 1) (b 7 0 22)) 7 0 26 (b 7 0 26 + 1) = b'
      have A4 : ∀ k, a' 4 0 k = if k = 2 then b 7 0 26 + 1 else if k = 8 then 0 else a 4 0 k := by
        intro k; rw [← hA']; simp [mset]
      have A11 : ∀ k, a' 11 0 k = if k = (b 7 0 26).toNat then max (b 7 0 21 + b 7 0 8) E else a 11 0 k := by
        intro k; rw [← hA']; simp [mset]
      have A12 : ∀ k, a' 12 0 k = if k = (b 7 0 26).toNat then b 7 0 22 else a 12 0 k := by
        intro k; rw [← hA']; simp [mset]
      have B7 : ∀ k, b' 7 0 k = if k = 26 then b 7 0 26 + 1 else if k = 20 then 0 else b 7 0 k := by
        intro k; rw [← hB']; simp [mset]
      have B43 : ∀ k, b' 43 0 k = if k = 2 * (b 7 0 26).toNat + 1 then b 7 0 22 else if k = 2 * (b 7 0 26).toNat then max (b 7 0 21 + b 7 0 8) E else b 43 0 k := by
        intro k; rw [← hB']; simp [mset]
      have hm8 := hM.2.2.2.2.2.2.2.1
      have hP : ∀ n : Nat, n ≤ (b 7 0 26).toNat → plS b' n = plS b n := by
        intro n hn
        unfold plS
        refine lp_cong (fun j s hj => ?_) 0
        rw [B43, if_neg (by omega), if_neg (by omega)]
      obtain ⟨r1, r2, r3, r4, r5, r6, r7⟩ := h9
      refine ⟨⟨?_, ?_, ?_, ?_, ?_, ?_, ?_, ?_, ?_⟩, ?_, ?_, ?_, ?_⟩
      · simp only [A4, B7]; simp
      · simp only [A4, B7]; simp; omega
      · intro k hk
        simp only [B7] at hk
        simp at hk
        rw [A11, A12, B43, B43]
        simp only [B7]
        simp
        by_cases hkP : k = (b 7 0 26).toNat
        · subst hkP
          simp
          omega
        · have g := h3 k (by omega)
          rw [if_pos hu] at g
          rw [if_neg hkP, if_neg hkP, if_neg (by omega), if_neg (by omega), if_neg (by omega), if_neg (by omega)]
          refine ⟨g.1, g.2.1, g.2.2.1, g.2.2.2.1, by omega⟩
      · intro k hk
        simp only [B7] at hk
        simp at hk
        rw [B43, B43, if_neg (by omega), if_neg (by omega), if_neg (by omega)]
        by_cases hkP : k + 1 = (b 7 0 26).toNat
        · rw [if_pos (by omega)]
          have g := h3 k (by omega)
          rw [if_pos hu] at g
          omega
        · rw [if_neg (by omega)]
          exact h4 k (by omega)
      · intro _
        simp only [A4, B7]
        simp
        have e1 : (b 7 0 26 + 1).toNat = (b 7 0 26).toNat + 1 := by omega
        rw [e1]
        have e2 : plS b' ((b 7 0 26).toNat + 1) = plS b (b 7 0 26).toNat + b 7 0 22 := by
          show plS b' (b 7 0 26).toNat + b' 43 0 (2 * (b 7 0 26).toNat + 1) = _
          rw [hP _ (Nat.le_refl _), B43, if_pos rfl]
        rw [e2]
        omega
      · intro hh
        simp only [B7] at hh
        simp at hh
        omega
      · simp only [B7]; simp
      · intro h0
        omega
      · refine ⟨fun k hk => ?_, fun k hk => ?_, ?_, ?_, ?_, ?_, ?_⟩
        · rw [A11]
          split
          · omega
          · exact r1 k hk
        · rw [B43]
          split
          · omega
          · split
            · omega
            · exact r2 k hk
        · simp only [A4]; simp; exact r3
        · simp only [A4]; simp; exact r4
        · simp only [B7]; simp; exact r5
        · simp only [B7]; simp; exact r6
        · simp only [B7]; simp; exact r7
      · intro t t1 t2 t3
        rw [← hA', mset_t t1, mset_t t3, mset_t t2, mset_t t1]
      · intro k k1 k2
        rw [A4, if_neg k1, if_neg k2]
      · intro t t1 t2
        rw [← hB', mset_t t1, mset_t t2, mset_t t2, mset_t t1]
      · intro k k1 k2
        rw [B7, if_neg k2, if_neg k1]
  · have eA : seEn a E w = a := by
      unfold seEn
      rw [if_pos (Or.inl (by omega))]
    have eB : moEB b = b := by
      unfold moEB
      rw [if_neg (fun g => hu g.1)]
    rw [eA, eB]
    exact ⟨h', fun _ _ _ _ => rfl, fun _ _ _ => rfl, fun _ _ _ => rfl, fun _ _ _ => rfl⟩
