/-! no two that hold stand in each other's way: the holder; preemptions -/
def exR (a : zkM) : Prop := ∀ i j : Nat, (i : Int) < a 0 0 5 → (j : Int) < a 0 0 5 → i ≠ j → taHd a i ≠ -1 → taHd a j ≠ -1 → beUr a i < a 5 j 4 ∨ beUr a j < a 5 i 4
theorem beUr_c {a a' : zkM} {i : Nat} (h5 : a' 5 i 4 = a 5 i 4) (h17 : a' 17 = a 17) (hd : taHd a' i = taHd a i) : beUr a' i = beUr a i := by
  unfold beUr
  rw [hd, h5, h17]
theorem exR_c {a a' : zkM} (h0 : a' 0 0 5 = a 0 0 5) (h5 : ∀ i, a' 5 i 4 = a 5 i 4) (h17 : a' 17 = a 17) (hd : ∀ i : Nat, (i : Int) < a 0 0 5 → taHd a' i = taHd a i ∨ taHd a' i = -1) (h : exR a) : exR a' := by
  intro i j hi hj hij h1 h2
  rw [h0] at hi hj
  have e1 := (hd i hi).resolve_right h1
  have e2 := (hd j hj).resolve_right h2
  rw [beUr_c (h5 i) h17 e1, beUr_c (h5 j) h17 e2, h5, h5]
  exact h i j hi hj hij (by rw [← e1]; exact h1) (by rw [← e2]; exact h2)
theorem taHd_c {a a' : zkM} {i : Nat} (h1 : a' 5 i 12 = a 5 i 12) (h2 : a' 5 i 13 = a 5 i 13) (h3 : a' 19 = a 19) : taHd a' i = taHd a i := by
  unfold taHd
  rw [h1, h2, h3]
theorem taHd_0 {a : zkM} {i : Nat} (h : a 5 i 13 = 0) : taHd a i = -1 := by
  unfold taHd
  rw [if_neg (by omega)]
theorem rl_hd (a : zkM) (i : Nat) (T : Int) : taHd (taRl a i T) i = taHd a i := by
  have e12 : taRl a i T 5 i 12 = a 5 i 12 ∧ taRl a i T 5 i 13 = a 5 i 13 ∧ taRl a i T 19 = a 19 := by
    unfold taRl joAdd
    split
    · exact ⟨rfl, rfl, rfl⟩
    · split
      · split
        · exact ⟨by simp [mset], by simp [mset], rfl⟩
        · exact ⟨by simp [mset], by simp [mset], rfl⟩
      · exact ⟨by simp [mset], by simp [mset], rfl⟩
  exact taHd_c e12.1 e12.2.1 e12.2.2
theorem joRm_5 (a : zkM) (i : Nat) (p : Int) : joRm a i p 5 = a 5 ∧ joRm a i p 19 = a 19 := by
  unfold joRm
  split
  · refine lp_inv (fun (_ : Nat) (s : zkM) => s 5 = a 5 ∧ s 19 = a 19) _ _ _ ⟨rfl, rfl⟩ (fun j s _ hI => ?_)
    exact ⟨hI.1, hI.2⟩
  · exact ⟨rfl, rfl⟩
theorem ms_hd (a : zkM) (i : Nat) (T po : Int) : taHd (taMs a i T po) i = taHd a i ∨ taHd (taMs a i T po) i = -1 := by
  unfold taMs
  split
  · exact Or.inl rfl
  · split
    · unfold taRj
      split
      · refine Or.inr (taHd_0 ?_)
        rw [mset_t (by decide), (joRm_5 _ _ _).1]
        simp [mset]
      · refine Or.inl (taHd_c ?_ ?_ ?_)
        · rw [mset_t (by decide), (joRm_5 _ _ _).1]; rfl
        · rw [mset_t (by decide), (joRm_5 _ _ _).1]; rfl
        · rw [mset_t (by decide), (joRm_5 _ _ _).2]; rfl
    · split
      · exact Or.inl (taHd_c (by simp [mset]) (by simp [mset]) rfl)
      · exact Or.inl rfl
theorem ru_hd (a : zkM) (i : Nat) (e : Int) : taHd (taRu a i e).2 i = -1 ∨ taHd a i = -1 ∨ taHd (taRu a i e).2 i = taHd a i := by
  unfold taRu
  split
  · exact Or.inr (Or.inr rfl)
  · next h1 =>
    by_cases hu : a 5 i 13 + 1 = a 20 i (a 5 i 12).toNat
    · refine Or.inl (taHd_0 ?_)
      have e1 : taR1 a i = mset (mset (mset a 5 i 13 (a 5 i 13 + 1)) 5 i 12 (a 5 i 12 + 1)) 5 i 13 0 := by
        unfold taR1
        rw [if_pos hu]
      split
      · show taR1 a i 5 i 13 = 0
        rw [e1]; simp [mset]
      · show taFj (taR1 a i) i _ 5 i 13 = 0
        unfold taFj joRmF
        rw [e1]
        split <;> simp [mset]
    · have e2 : taR2 a i = a 5 i 12 := by unfold taR2; rw [if_neg hu]
      rw [e2, if_pos (by omega)]
      show taHd (taR1 a i) i = -1 ∨ taHd a i = -1 ∨ taHd (taR1 a i) i = taHd a i
      have e1 : taR1 a i = mset a 5 i 13 (a 5 i 13 + 1) := by
        unfold taR1
        rw [if_neg hu]
      rw [e1]
      by_cases h0 : 0 < a 5 i 13
      · refine Or.inr (Or.inr ?_)
        unfold taHd
        have g1 : mset a 5 i 13 (a 5 i 13 + 1) 5 i 13 = a 5 i 13 + 1 := ms_s _ _ _ _ _
        have g2 : mset a 5 i 13 (a 5 i 13 + 1) 5 i 12 = a 5 i 12 := by simp [mset]
        rw [g1, g2]
        have g3 : mset a 5 i 13 (a 5 i 13 + 1) 19 = a 19 := rfl
        rw [g3]
        by_cases h6 : a 5 i 12 < 6
        · rw [if_pos ⟨by omega, h6⟩, if_pos ⟨h0, h6⟩]
        · rw [if_neg (fun h => h6 h.2), if_neg (fun h => h6 h.2)]
      · refine Or.inr (Or.inl ?_)
        unfold taHd
        rw [if_neg (fun h => h0 h.1)]
theorem lp_ge {f : Nat → Int → Int} (h : ∀ j s, s ≤ f j s) : ∀ (n : Nat) (s0 : Int), s0 ≤ lp f n s0
  | 0, s0 => Int.le_refl _
  | n + 1, s0 => Int.le_trans (lp_ge h n s0) (h n _)
theorem lp_hit {f : Nat → Int → Int} {v : Int} {k : Nat} (h : ∀ j s, s ≤ f j s) (hk : ∀ s, v ≤ f k s) : ∀ (n : Nat) (s0 : Int), k < n → v ≤ lp f n s0
  | 0, s0, h0 => absurd h0 (by omega)
  | n + 1, s0, hn => by
    by_cases e : k = n
    · subst e; exact hk _
    · exact Int.le_trans (lp_hit h hk n s0 (by omega)) (h n _)
theorem moCe_ge {b : zkM} {i k : Nat} (hi : i < moN b) (hk : k < moS b i) : moPr b i ≤ moCe b (moRe b i k) := by
  have h1 : ∀ (j : Nat) (s : Int), s ≤ moCi b (moRe b i k) j s := by
    intro j s
    unfold moCi
    refine lp_ge (fun j' s' => ?_) _ _
    split <;> omega
  unfold moCe
  refine lp_hit h1 (fun s => ?_) (moN b) 0 hi
  unfold moCi
  refine lp_hit (k := k) (fun j' s' => ?_) (fun s' => ?_) _ _ hk
  · split <;> omega
  · rw [if_pos rfl]; omega
/-- one holder at most -/
theorem ho_one {a b : zkM} (hK : kR a b) (hT : ∀ i, i < moN b → tP a b i) (hx : exR a) {i j : Nat} (hi : i < moN b) (hj : j < moN b) (h1 : taHd a i ≠ -1) (h2 : taHd a i = taHd a j) : i = j := by
  apply Classical.byContradiction
  intro hij
  have hn := kR_n hK
  have hge : ∀ x, x < moN b → taHd a x ≠ -1 → moPr b x ≤ moCe b (taHd a x) := by
    intro x hx h
    have hC := hK.2.1 x hx
    have hP := hT x hx
    unfold taHd at h ⊢
    by_cases g : 0 < a 5 x 13 ∧ a 5 x 12 < 6
    · rw [if_pos g]
      have hq : b 36 0 x ≠ 0 := fun h0 => by have := hP.2.2.1 h0; omega
      have hS := tS_pos hC hP hq
      have := hP.2.1 hS
      have hlt : (a 5 x 12).toNat < moS b x := by have := hP.1; unfold moS; omega
      rw [(hC.1.2.2.2.2.2.2 _ hlt).1]
      exact moCe_ge hx hlt
    · rw [if_neg g] at h
      exact absurd rfl h
  have hur : ∀ x, x < moN b → taHd a x ≠ -1 → moCe b (taHd a x) ≤ beUr a x := by
    intro x hx h
    rw [ur_eq hK hx (hT x hx)]
    unfold moAc
    rw [← hd_eq (hK.2.1 x hx) (hT x hx), if_neg h]
    omega
  have a1 := hge i hi h1
  have a2 := hge j hj (by rw [← h2]; exact h1)
  have a3 := hur i hi h1
  have a4 := hur j hj (by rw [← h2]; exact h1)
  have c1 := (hK.2.1 i hi).1.1
  have c2 := (hK.2.1 j hj).1.1
  have := hx i j (by unfold moN at hi; omega) (by unfold moN at hj; omega) hij h1 (by rw [← h2]; exact h1)
  rw [← h2] at a2 a4
  omega
theorem ho_eq {a b : zkM} (hK : kR a b) (hT : ∀ i, i < moN b → tP a b i) (hx : exR a) {r : Int} (hr : r ≠ -1) : beHo a r = lp (moHf b r) (moN b) (-1) := by
  have hn := kR_n hK
  unfold beHo
  rw [hn.1]
  have hgo : ∀ d i : Nat, i + d = moN b → (∀ j, j < i → taHd a j ≠ r) → beHf a r d i = lp (moHf b r) (moN b) (-1) := by
    intro d
    induction d with
    | zero =>
      intro i hi hj
      unfold beHf
      have := lp_inv (fun (j : Nat) (s : Int) => s = -1) (moHf b r) (moN b) (-1) rfl (fun j s hjn hs => by
        unfold moHf
        rw [← hd_eq (hK.2.1 j hjn) (hT j hjn), if_neg (hj j (by omega))]
        exact hs)
      exact this.symm
    | succ d ih =>
      intro i hi hj
      unfold beHf
      by_cases h : taHd a i = r
      · rw [if_pos h]
        have := lp_inv (fun (j : Nat) (s : Int) => s = if i < j then (i : Int) else -1) (moHf b r) (moN b) (-1) (by rw [if_neg (by omega)]) (fun j s hjn hs => by
          unfold moHf
          rw [← hd_eq (hK.2.1 j hjn) (hT j hjn)]
          by_cases hij : i = j
          · subst hij
            rw [if_pos h, if_pos (by omega)]
          · have hne : taHd a j ≠ r := fun g => hij (ho_one hK hT hx (by omega) hjn (by rw [h]; exact hr) (by rw [h, g]))
            rw [if_neg hne, hs]
            by_cases g : i < j
            · rw [if_pos g, if_pos (by omega)]
            · rw [if_neg g, if_neg (by omega)])
        rw [this, if_pos (by omega)]
      · rw [if_neg h]
        refine ih (i + 1) (by omega) (fun j hji => ?_)
        by_cases e : j = i
        · subst e; exact h
        · exact hj j (by omega)
  exact hgo (moN b) 0 (by omega) (fun j hj => absurd hj (by omega))
