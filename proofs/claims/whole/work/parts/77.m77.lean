/-! what the reference keeps -/
def kpos (t k : Nat) : Nat := match t with
  | 7 => (match k with | 1 => 0 | 2 => 1 | 6 => 2 | 7 => 3 | 8 => 4 | 9 => 5 | 11 => 6 | 19 => 7 | 20 => 8 | 21 => 9 | 22 => 10 | 26 => 11 | _ => 10000)
  | 30 => if k < 20 then 12 + k else 10000
  | 31 => if k < 5 then 32 + k else 10000
  | 32 => if k < 60 then 37 + k else 10000
  | 33 => if k < 24 then 97 + k else 10000
  | 34 => if k < 400 then 121 + k else 10000
  | 35 => if k < 2005 then 521 + k else 10000
  | 36 => if k < 5 then 2526 + k else 10000
  | 37 => if k < 5 then 2531 + k else 10000
  | 38 => if k < 5 then 2536 + k else 10000
  | 39 => if k < 30 then 2541 + k else 10000
  | 40 => if k < 5 then 2571 + k else 10000
  | 41 => if k < 12 then 2576 + k else 10000
  | 42 => if k < 12 then 2588 + k else 10000
  | 43 => if k < 800 then 2600 + k else 10000
  | _ => 10000
/-- which tag and slot stands at a place -/
def kcel (p : Nat) : Nat × Nat :=
  if p < 12 then (7, [1, 2, 6, 7, 8, 9, 11, 19, 20, 21, 22, 26].getD p 0) else if p < 32 then (30, p - 12) else if p < 37 then (31, p - 32) else if p < 97 then (32, p - 37) else if p < 121 then (33, p - 97) else if p < 521 then (34, p - 121) else if p < 2526 then (35, p - 521) else if p < 2531 then (36, p - 2526) else if p < 2536 then (37, p - 2531) else if p < 2541 then (38, p - 2536) else if p < 2571 then (39, p - 2541) else if p < 2576 then (40, p - 2571) else if p < 2588 then (41, p - 2576) else if p < 2600 then (42, p - 2588) else (43, p - 2600)
theorem kcel_pos {t k : Nat} (h : kpos t k < 3400) : kcel (kpos t k) = (t, k) := by
  unfold kpos at *
  split at h
  · split at h <;> first | rfl | omega
  all_goals first
    | (split at h
       · next hk =>
         rw [if_pos hk]
         unfold kcel
         repeat rw [if_neg (by omega)]
         try rw [if_pos (by omega)]
         simp
       · omega)
    | omega
def pss (t k : Nat) (m : zkM) : zkM := mset (ps m (m t 0 k)).2 t 0 k (ps m (m t 0 k)).1
/-- while it is being kept -/
def kI0 (m0 : zkM) (p : Nat) (m : zkM) : Prop := (∀ t i k, t ≠ 46 → ¬ (t = 7 ∧ i = 0 ∧ k = 36) → m t i k = m0 t i k) ∧ m 7 0 36 = p ∧ m0 7 0 37 = 0 ∧ ∀ t k, kpos t k < p → m 46 0 (kpos t k) = m0 t 0 k
theorem kI0_s {m0 m : zkM} {p t k : Nat} (h : kI0 m0 p m) (hp : kpos t k = p) (hp2 : p < 3400) : kI0 m0 (p + 1) (pss t k m) := by
  obtain ⟨h1, h2, h3, h4⟩ := h
  have ht : t ≠ 46 := by
    intro e
    subst e
    have : kpos 46 k = 10000 := rfl
    omega
  have h36 : ¬ (t = 7 ∧ k = 36) := by
    rintro ⟨rfl, rfl⟩
    have : kpos 7 36 = 10000 := rfl
    omega
  have h37 : m 7 0 37 = 0 := by rw [h1 7 0 37 (by decide) (by decide)]; exact h3
  have hv : m t 0 k = m0 t 0 k := h1 t 0 k ht (by omega)
  have e : pss t k m = mset (mset (mset m 46 0 p (m t 0 k)) 7 0 36 (p + 1)) t 0 k (m t 0 k) := by
    unfold pss ps
    rw [h37, h2]
    simp
  rw [e]
  refine ⟨fun t' i' k' ht' hn => ?_, ?_, h3, fun t' k' hk' => ?_⟩
  · simp only [mset]
    by_cases g : t' = t ∧ i' = 0 ∧ k' = k
    · rw [if_pos g, hv, g.1, g.2.1, g.2.2]
    · rw [if_neg g, if_neg hn, if_neg (by omega)]
      exact h1 t' i' k' ht' hn
  · simp only [mset]
    rw [if_neg (by omega)]
    simp
  · have : ∀ x, (mset (mset (mset m 46 0 p (m t 0 k)) 7 0 36 (p + 1)) t 0 k (m t 0 k)) 46 0 x = if x = p then m t 0 k else m 46 0 x := by
      intro x
      rw [ms_t (fun g => ht g.symm), ms_t (by decide)]
      simp [mset]
    rw [this]
    by_cases g : kpos t' k' = p
    · rw [if_pos g]
      have e1 := kcel_pos (t := t') (k := k') (by omega)
      have e2 := kcel_pos (t := t) (k := k) (by omega)
      rw [g] at e1
      rw [hp] at e2
      rw [e1] at e2
      have e3 : t' = t := congrArg Prod.fst e2
      have e4 : k' = k := congrArg Prod.snd e2
      rw [e3, e4]
      exact hv
    · rw [if_neg g]
      exact h4 t' k' (by omega)
theorem kI0_row {m0 m : zkM} {p t n : Nat} (h : kI0 m0 p m) (hp : ∀ j, j < n → kpos t j = p + j) (hp2 : p + n ≤ 3400) : kI0 m0 (p + n) (lp (fun j s => pss t j s) n m) := by
  have := lp_inv (fun (j : Nat) (s : zkM) => kI0 m0 (p + j) s) (fun j s => pss t j s) n m h (fun j s hj hs => kI0_s (p := p + j) hs (hp j hj) (by omega))
  exact this
theorem snp_go {m : zkM} : kI0 (mset m 7 0 37 0) 3400 (psA26 m 0) := by
  have h0 : kI0 (mset m 7 0 37 0) 0 (psA0 m 0) := by
    refine ⟨fun t i k ht hn => ?_, ?_, ?_, fun t k hk => absurd hk (by omega)⟩
    · unfold psA0
      simp only [mset]
      rw [if_neg hn]
    · unfold psA0
      simp [mset]
    · simp [mset]
  have h1 : kI0 (mset m 7 0 37 0) 1 (psA1 m 0) := kI0_s (t := 7) (k := 1) h0 rfl (by decide)
  have h2 : kI0 (mset m 7 0 37 0) 2 (psA2 m 0) := kI0_s (t := 7) (k := 2) h1 rfl (by decide)
  have h3 : kI0 (mset m 7 0 37 0) 3 (psA3 m 0) := kI0_s (t := 7) (k := 6) h2 rfl (by decide)
  have h4 : kI0 (mset m 7 0 37 0) 4 (psA4 m 0) := kI0_s (t := 7) (k := 7) h3 rfl (by decide)
  have h5 : kI0 (mset m 7 0 37 0) 5 (psA5 m 0) := kI0_s (t := 7) (k := 8) h4 rfl (by decide)
  have h6 : kI0 (mset m 7 0 37 0) 6 (psA6 m 0) := kI0_s (t := 7) (k := 9) h5 rfl (by decide)
  have h7 : kI0 (mset m 7 0 37 0) 7 (psA7 m 0) := kI0_s (t := 7) (k := 11) h6 rfl (by decide)
  have h8 : kI0 (mset m 7 0 37 0) 8 (psA8 m 0) := kI0_s (t := 7) (k := 19) h7 rfl (by decide)
  have h9 : kI0 (mset m 7 0 37 0) 9 (psA9 m 0) := kI0_s (t := 7) (k := 20) h8 rfl (by decide)
  have h10 : kI0 (mset m 7 0 37 0) 10 (psA10 m 0) := kI0_s (t := 7) (k := 21) h9 rfl (by decide)
  have h11 : kI0 (mset m 7 0 37 0) 11 (psA11 m 0) := kI0_s (t := 7) (k := 22) h10 rfl (by decide)
  have h12 : kI0 (mset m 7 0 37 0) 12 (psA12 m 0) := kI0_s (t := 7) (k := 26) h11 rfl (by decide)
  have h13 : kI0 (mset m 7 0 37 0) 32 (psA13 m 0) := kI0_row (t := 30) (n := 20) h12 (fun j hj => by unfold kpos; simp [hj]) (by decide)
  have h14 : kI0 (mset m 7 0 37 0) 37 (psA14 m 0) := kI0_row (t := 31) (n := 5) h13 (fun j hj => by unfold kpos; simp [hj]) (by decide)
  have h15 : kI0 (mset m 7 0 37 0) 97 (psA15 m 0) := kI0_row (t := 32) (n := 60) h14 (fun j hj => by unfold kpos; simp [hj]) (by decide)
  have h16 : kI0 (mset m 7 0 37 0) 121 (psA16 m 0) := kI0_row (t := 33) (n := 24) h15 (fun j hj => by unfold kpos; simp [hj]) (by decide)
  have h17 : kI0 (mset m 7 0 37 0) 521 (psA17 m 0) := kI0_row (t := 34) (n := 400) h16 (fun j hj => by unfold kpos; simp [hj]) (by decide)
  have h18 : kI0 (mset m 7 0 37 0) 2526 (psA18 m 0) := kI0_row (t := 35) (n := 2005) h17 (fun j hj => by unfold kpos; simp [hj]) (by decide)
  have h19 : kI0 (mset m 7 0 37 0) 2531 (psA19 m 0) := kI0_row (t := 36) (n := 5) h18 (fun j hj => by unfold kpos; simp [hj]) (by decide)
  have h20 : kI0 (mset m 7 0 37 0) 2536 (psA20 m 0) := kI0_row (t := 37) (n := 5) h19 (fun j hj => by unfold kpos; simp [hj]) (by decide)
  have h21 : kI0 (mset m 7 0 37 0) 2541 (psA21 m 0) := kI0_row (t := 38) (n := 5) h20 (fun j hj => by unfold kpos; simp [hj]) (by decide)
  have h22 : kI0 (mset m 7 0 37 0) 2571 (psA22 m 0) := kI0_row (t := 39) (n := 30) h21 (fun j hj => by unfold kpos; simp [hj]) (by decide)
  have h23 : kI0 (mset m 7 0 37 0) 2576 (psA23 m 0) := kI0_row (t := 40) (n := 5) h22 (fun j hj => by unfold kpos; simp [hj]) (by decide)
  have h24 : kI0 (mset m 7 0 37 0) 2588 (psA24 m 0) := kI0_row (t := 41) (n := 12) h23 (fun j hj => by unfold kpos; simp [hj]) (by decide)
  have h25 : kI0 (mset m 7 0 37 0) 2600 (psA25 m 0) := kI0_row (t := 42) (n := 12) h24 (fun j hj => by unfold kpos; simp [hj]) (by decide)
  exact kI0_row (t := 43) (n := 800) h25 (fun j hj => by unfold kpos; simp [hj]) (by decide)

/-- while it comes back -/
def kI1 (m0 : zkM) (p : Nat) (m : zkM) : Prop := (∀ t i k, t ≠ 46 → ¬ (t = 7 ∧ i = 0 ∧ k = 36) → m t i k = if i = 0 ∧ kpos t k < p then m0 46 0 (kpos t k) else m0 t i k) ∧ m 7 0 36 = p ∧ m0 7 0 37 = 1 ∧ m 46 = m0 46
theorem kI1_s {m0 m : zkM} {p t k : Nat} (h : kI1 m0 p m) (hp : kpos t k = p) (hp2 : p < 3400) : kI1 m0 (p + 1) (pss t k m) := by
  obtain ⟨h1, h2, h3, h4⟩ := h
  have ht : t ≠ 46 := by
    intro e
    subst e
    have : kpos 46 k = 10000 := rfl
    omega
  have h36 : ¬ (t = 7 ∧ k = 36) := by
    rintro ⟨rfl, rfl⟩
    have : kpos 7 36 = 10000 := rfl
    omega
  have h37 : m 7 0 37 = 1 := by
    have e : kpos 7 37 = 10000 := rfl
    rw [h1 7 0 37 (by decide) (by decide), e, if_neg (by omega)]; exact h3
  have e : pss t k m = mset (mset m 7 0 36 (p + 1)) t 0 k (m0 46 0 p) := by
    unfold pss ps
    rw [h37, h2, h4]
    simp
  rw [e]
  refine ⟨fun t' i' k' ht' hn => ?_, ?_, h3, ?_⟩
  · simp only [mset]
    by_cases g : t' = t ∧ i' = 0 ∧ k' = k
    · rw [if_pos g, g.1, g.2.1, g.2.2, hp, if_pos ⟨rfl, by omega⟩]
    · rw [if_neg g, if_neg hn, h1 t' i' k' ht' hn]
      by_cases g2 : i' = 0 ∧ kpos t' k' < p
      · rw [if_pos g2, if_pos ⟨g2.1, by omega⟩]
      · rw [if_neg g2, if_neg]
        rintro ⟨g3, g4⟩
        have g5 : kpos t' k' = p := by omega
        have e1 := kcel_pos (t := t') (k := k') (by omega)
        have e2 := kcel_pos (t := t) (k := k) (by omega)
        rw [g5] at e1
        rw [hp, e1] at e2
        exact g ⟨congrArg Prod.fst e2, g3, congrArg Prod.snd e2⟩
  · simp only [mset]
    rw [if_neg (by omega)]
    simp
  · rw [mset_t (fun g => ht g.symm), mset_t (by decide)]
    exact h4
theorem kI1_row {m0 m : zkM} {p t n : Nat} (h : kI1 m0 p m) (hp : ∀ j, j < n → kpos t j = p + j) (hp2 : p + n ≤ 3400) : kI1 m0 (p + n) (lp (fun j s => pss t j s) n m) := by
  have := lp_inv (fun (j : Nat) (s : zkM) => kI1 m0 (p + j) s) (fun j s => pss t j s) n m h (fun j s hj hs => kI1_s (p := p + j) hs (hp j hj) (by omega))
  exact this
theorem rst_go {m : zkM} : kI1 (mset m 7 0 37 1) 3400 (psA26 m 1) := by
  have h0 : kI1 (mset m 7 0 37 1) 0 (psA0 m 1) := by
    refine ⟨fun t i k ht hn => ?_, ?_, ?_, ?_⟩
    · unfold psA0
      rw [if_neg (by omega)]
      simp only [mset]
      rw [if_neg hn]
    · unfold psA0
      simp [mset]
    · simp [mset]
    · rfl
  have h1 : kI1 (mset m 7 0 37 1) 1 (psA1 m 1) := kI1_s (t := 7) (k := 1) h0 rfl (by decide)
  have h2 : kI1 (mset m 7 0 37 1) 2 (psA2 m 1) := kI1_s (t := 7) (k := 2) h1 rfl (by decide)
  have h3 : kI1 (mset m 7 0 37 1) 3 (psA3 m 1) := kI1_s (t := 7) (k := 6) h2 rfl (by decide)
  have h4 : kI1 (mset m 7 0 37 1) 4 (psA4 m 1) := kI1_s (t := 7) (k := 7) h3 rfl (by decide)
  have h5 : kI1 (mset m 7 0 37 1) 5 (psA5 m 1) := kI1_s (t := 7) (k := 8) h4 rfl (by decide)
  have h6 : kI1 (mset m 7 0 37 1) 6 (psA6 m 1) := kI1_s (t := 7) (k := 9) h5 rfl (by decide)
  have h7 : kI1 (mset m 7 0 37 1) 7 (psA7 m 1) := kI1_s (t := 7) (k := 11) h6 rfl (by decide)
  have h8 : kI1 (mset m 7 0 37 1) 8 (psA8 m 1) := kI1_s (t := 7) (k := 19) h7 rfl (by decide)
  have h9 : kI1 (mset m 7 0 37 1) 9 (psA9 m 1) := kI1_s (t := 7) (k := 20) h8 rfl (by decide)
  have h10 : kI1 (mset m 7 0 37 1) 10 (psA10 m 1) := kI1_s (t := 7) (k := 21) h9 rfl (by decide)
  have h11 : kI1 (mset m 7 0 37 1) 11 (psA11 m 1) := kI1_s (t := 7) (k := 22) h10 rfl (by decide)
  have h12 : kI1 (mset m 7 0 37 1) 12 (psA12 m 1) := kI1_s (t := 7) (k := 26) h11 rfl (by decide)
  have h13 : kI1 (mset m 7 0 37 1) 32 (psA13 m 1) := kI1_row (t := 30) (n := 20) h12 (fun j hj => by unfold kpos; simp [hj]) (by decide)
  have h14 : kI1 (mset m 7 0 37 1) 37 (psA14 m 1) := kI1_row (t := 31) (n := 5) h13 (fun j hj => by unfold kpos; simp [hj]) (by decide)
  have h15 : kI1 (mset m 7 0 37 1) 97 (psA15 m 1) := kI1_row (t := 32) (n := 60) h14 (fun j hj => by unfold kpos; simp [hj]) (by decide)
  have h16 : kI1 (mset m 7 0 37 1) 121 (psA16 m 1) := kI1_row (t := 33) (n := 24) h15 (fun j hj => by unfold kpos; simp [hj]) (by decide)
  have h17 : kI1 (mset m 7 0 37 1) 521 (psA17 m 1) := kI1_row (t := 34) (n := 400) h16 (fun j hj => by unfold kpos; simp [hj]) (by decide)
  have h18 : kI1 (mset m 7 0 37 1) 2526 (psA18 m 1) := kI1_row (t := 35) (n := 2005) h17 (fun j hj => by unfold kpos; simp [hj]) (by decide)
  have h19 : kI1 (mset m 7 0 37 1) 2531 (psA19 m 1) := kI1_row (t := 36) (n := 5) h18 (fun j hj => by unfold kpos; simp [hj]) (by decide)
  have h20 : kI1 (mset m 7 0 37 1) 2536 (psA20 m 1) := kI1_row (t := 37) (n := 5) h19 (fun j hj => by unfold kpos; simp [hj]) (by decide)
  have h21 : kI1 (mset m 7 0 37 1) 2541 (psA21 m 1) := kI1_row (t := 38) (n := 5) h20 (fun j hj => by unfold kpos; simp [hj]) (by decide)
  have h22 : kI1 (mset m 7 0 37 1) 2571 (psA22 m 1) := kI1_row (t := 39) (n := 30) h21 (fun j hj => by unfold kpos; simp [hj]) (by decide)
  have h23 : kI1 (mset m 7 0 37 1) 2576 (psA23 m 1) := kI1_row (t := 40) (n := 5) h22 (fun j hj => by unfold kpos; simp [hj]) (by decide)
  have h24 : kI1 (mset m 7 0 37 1) 2588 (psA24 m 1) := kI1_row (t := 41) (n := 12) h23 (fun j hj => by unfold kpos; simp [hj]) (by decide)
  have h25 : kI1 (mset m 7 0 37 1) 2600 (psA25 m 1) := kI1_row (t := 42) (n := 12) h24 (fun j hj => by unfold kpos; simp [hj]) (by decide)
  exact kI1_row (t := 43) (n := 800) h25 (fun j hj => by unfold kpos; simp [hj]) (by decide)
