/-! the reference reads -/
def mkF (r : Int × Bool × List Int) : Int × Int := (r.1, if r.2.1 = true then -1 else r.1)
theorem tk_f {m : zkM} {c a f : Int} (hf : f ≠ -1) : tk m c (a, f) = (a, f) := by
  unfold tk
  rw [if_neg (fun g => hf g.1), if_neg hf]
theorem tks_f {m : zkM} {a f : Int} (hf : f ≠ -1) : ∀ cs : List Int, tks m cs (a, f) = (a, f)
  | [] => rfl
  | c :: cs => by
    show tks m cs (tk m c (a, f)) = _
    rw [tk_f hf, tks_f hf cs]
theorem num_f {m : zkM} {a f : Int} (hf : f ≠ -1) : num m (a, f) = (0, a, f) := by
  unfold num
  rw [tk_f hf, if_neg hf]
theorem nmf_x (m : zkM) : ∀ (r : Nat) (a n d : Int), nmf m r a n d = nbX (sgn m) r a n d
  | 0, _, _, _ => rfl
  | r + 1, a, n, d => by
    unfold nbX
    rw [nmf_s, nmf_x m r]
theorem tks_x {m : zkM} : ∀ (cs : List Int) (a : Int), 0 ≤ a → (∀ c ∈ cs, c ≠ 35) → tks m cs (a, -1) = mkF (prX (sgn m) cs a)
  | [], a, _, _ => rfl
  | c :: cs, a, ha, hc => by
    show tks m cs (tk m c (a, -1)) = _
    rw [prX_c, if_neg (hc c List.mem_cons_self)]
    by_cases h : sgn m a = c
    · have e : tk m c (a, -1) = (a + 1, -1) := by
        unfold tk
        rw [if_pos ⟨rfl, h⟩]
      rw [e, if_pos h]
      exact tks_x cs (a + 1) (by omega) (fun c' h' => hc c' (List.mem_cons_of_mem _ h'))
    · have e : tk m c (a, -1) = (a, a) := by
        unfold tk
        rw [if_neg (fun g => h g.2)]
        rfl
      rw [e, if_neg h, tks_f (by omega)]
      rfl
theorem nbX_3 (X : Int → Int) (a : Int) : nbX X 3 a 0 0 = if (48 ≤ X a ∧ X a ≤ 57) ∧ ((0 : Int) = 0 ∨ (0 : Int) < 0) then nbX X 2 (a + 1) (10 * 0 + X a - 48) (0 + 1) else (a, 0, 0) := rfl
theorem getD_l {xs ys : List Int} {j : Nat} (h : j < xs.length) : (xs ++ ys).getD j 0 = xs.getD j 0 := by
  rw [List.getD_eq_getElem?_getD, List.getD_eq_getElem?_getD, List.getElem?_append_left h]
theorem getD_r {xs ys : List Int} {j : Nat} (h : xs.length ≤ j) : (xs ++ ys).getD j 0 = ys.getD (j - xs.length) 0 := by
  rw [List.getD_eq_getElem?_getD, List.getD_eq_getElem?_getD, List.getElem?_append_right h]
theorem num_x {m : zkM} {a : Int} (ha : 0 ≤ a) : num m (a, -1) = ((prX (sgn m) [32, 35] a).2.2.headD 0, mkF (prX (sgn m) [32, 35] a)) := by
  have ht := tks_x (m := m) [32] a ha (by decide)
  have ht' : tk m 32 (a, -1) = mkF (prX (sgn m) [32] a) := ht
  unfold num
  rw [ht']
  have e : prX (sgn m) [32] a = if sgn m a = 32 then (a + 1, true, []) else (a, false, []) := by
    rw [prX_c, if_neg (by decide)]
    rfl
  have e2 : prX (sgn m) [32, 35] a = if sgn m a = 32 then prX (sgn m) [35] (a + 1) else (a, false, []) := by
    rw [prX_c, if_neg (by decide)]
  rw [e, e2]
  by_cases h : sgn m a = 32
  · rw [if_pos h, if_pos h]
    have e3 : mkF ((a + 1, true, []) : Int × Bool × List Int) = (a + 1, -1) := rfl
    rw [e3]
    dsimp only
    rw [if_pos rfl, nmf_x, prX_c, if_pos rfl]
    have hb := nbX_p3 (sgn m) (a + 1)
    by_cases h0 : (nbX (sgn m) 3 (a + 1) 0 0).2.2 = 0
    · rw [if_pos h0, if_pos h0]
      have e4 : (nbX (sgn m) 3 (a + 1) 0 0).1 = a + 1 := by omega
      have e5 : (nbX (sgn m) 3 (a + 1) 0 0).2.1 = 0 := by
        rw [nbX_3] at h0 ⊢
        by_cases g : (48 ≤ sgn m (a + 1) ∧ sgn m (a + 1) ≤ 57) ∧ ((0 : Int) = 0 ∨ (0 : Int) < 0)
        · rw [if_pos g] at h0
          have := nbX_p (sgn m) 2 (a + 1 + 1) (10 * 0 + sgn m (a + 1) - 48) (0 + 1)
          omega
        · rw [if_neg g]
      rw [e4, e5]
      rfl
    · rw [if_neg h0, if_neg h0]
      rfl
  · rw [if_neg h, if_neg h]
    have e3 : mkF ((a, false, []) : Int × Bool × List Int) = (a, a) := rfl
    rw [e3]
    dsimp only
    rw [if_neg (by omega)]
    rfl
def rep : Nat → List Int
  | 0 => []
  | n + 1 => rep n ++ [32, 35]
theorem prX_len1 {X : Int → Int} {a : Int} (h : (prX X [32, 35] a).2.1 = true) : (prX X [32, 35] a).2.2.length = 1 := by
  rw [prX_c, if_neg (by decide)] at *
  by_cases g : X a = 32
  · rw [if_pos g] at *
    rw [prX_c, if_pos rfl] at *
    by_cases g2 : (nbX X 3 (a + 1) 0 0).2.2 = 0
    · rw [if_pos g2] at h
      exact absurd h Bool.false_ne_true
    · rw [if_neg g2]
      rfl
  · rw [if_neg g] at h
    exact absurd h Bool.false_ne_true
theorem rep_len {X : Int → Int} : ∀ (n : Nat) (a : Int), (prX X (rep n) a).2.1 = true → (prX X (rep n) a).2.2.length = n
  | 0, a, _ => rfl
  | n + 1, a, h => by
    unfold rep at *
    rw [prX_app] at *
    by_cases g : (prX X (rep n) a).2.1 = true
    · rw [if_pos g] at *
      simp only [List.length_append]
      rw [rep_len n a g, prX_len1 h]
    · rw [if_neg g] at h
      exact absurd h g
/-- numbers, one behind the other -/
theorem rdn_f {m : zkM} {a f : Int} (hf : f ≠ -1) : ∀ n : Nat, (rdn n m (a, f)).2 = (a, f) ∧ ∀ t, t ≠ 45 → (rdn n m (a, f)).1 t = m t
  | 0 => ⟨rfl, fun _ _ => rfl⟩
  | n + 1 => by
    obtain ⟨h1, h2⟩ := rdn_f hf n
    have e : rdn (n + 1) m (a, f) = rnf n (rdn n m (a, f)) := rfl
    rw [e]
    unfold rnf
    rw [h1, num_f hf]
    exact ⟨rfl, fun t ht => by show mset _ 45 0 n _ t = _; rw [mset_t ht, h2 t ht]⟩
theorem rdn_x {m : zkM} {a : Int} (ha : 0 ≤ a) : ∀ n : Nat, (rdn n m (a, -1)).2 = mkF (prX (sgn m) (rep n) a) ∧ (∀ t, t ≠ 45 → (rdn n m (a, -1)).1 t = m t) ∧ ((prX (sgn m) (rep n) a).2.1 = true → ∀ j, j < n → (rdn n m (a, -1)).1 45 0 j = (prX (sgn m) (rep n) a).2.2.getD j 0)
  | 0 => ⟨rfl, fun _ _ => rfl, fun _ j hj => absurd hj (by omega)⟩
  | n + 1 => by
    obtain ⟨h1, h2, h3⟩ := rdn_x ha n
    have e : rdn (n + 1) m (a, -1) = rnf n (rdn n m (a, -1)) := rfl
    have eS : sgn (rdn n m (a, -1)).1 = sgn m := by
      funext x
      unfold sgn
      rw [h2 7 (by decide), h2 44 (by decide)]
    rw [e]
    unfold rnf rep
    rw [h1, prX_app]
    by_cases g : (prX (sgn m) (rep n) a).2.1 = true
    · have e2 : mkF (prX (sgn m) (rep n) a) = ((prX (sgn m) (rep n) a).1, -1) := by unfold mkF; rw [if_pos g]
      have hge := prX_ge (sgn m) (rep n) a
      rw [e2, num_x (m := (rdn n m (a, -1)).1) (by omega), eS, if_pos g]
      refine ⟨rfl, fun t ht => by show mset _ 45 0 n _ t = _; rw [mset_t ht, h2 t ht], fun hok j hj => ?_⟩
      have hl := rep_len n a g
      have h1' := prX_len1 hok
      show mset (rdn n m (a, -1)).1 45 0 n ((prX (sgn m) [32, 35] (prX (sgn m) (rep n) a).1).2.2.headD 0) 45 0 j = ((prX (sgn m) (rep n) a).2.2 ++ (prX (sgn m) [32, 35] (prX (sgn m) (rep n) a).1).2.2).getD j 0
      by_cases ej : j = n
      · subst ej
        rw [ms_s, getD_r (by omega), hl, Nat.sub_self]
        generalize (prX (sgn m) [32, 35] (prX (sgn m) (rep j) a).1).2.2 = ns
        cases ns <;> rfl
      · rw [ms_k ej, getD_l (by omega)]
        exact h3 g j (by omega)
    · have e2 : mkF (prX (sgn m) (rep n) a) = ((prX (sgn m) (rep n) a).1, (prX (sgn m) (rep n) a).1) := by unfold mkF; rw [if_neg g]
      have hge := prX_ge (sgn m) (rep n) a
      rw [e2, num_f (by omega), if_neg g]
      refine ⟨?_, fun t ht => by show mset _ 45 0 n _ t = _; rw [mset_t ht, h2 t ht], fun hok => absurd hok g⟩
      unfold mkF
      rw [if_neg g]
/-- signs, then numbers -/
theorem sn_x {m : zkM} {cs : List Int} {n : Nat} (hc : ∀ c ∈ cs, c ≠ 35) {a : Int} (ha : 0 ≤ a) : (rdn n m (tks m cs (a, -1))).2 = mkF (prX (sgn m) (cs ++ rep n) a) ∧ (∀ t, t ≠ 45 → (rdn n m (tks m cs (a, -1))).1 t = m t) ∧ ((prX (sgn m) (cs ++ rep n) a).2.1 = true → ∀ j, j < n → (rdn n m (tks m cs (a, -1))).1 45 0 j = (prX (sgn m) (cs ++ rep n) a).2.2.getD j 0) := by
  have hnn : ∀ (cs : List Int) (a : Int), (∀ c ∈ cs, c ≠ 35) → (prX (sgn m) cs a).2.2 = [] := by
    intro cs
    induction cs with
    | nil => intro a _; rfl
    | cons c cs ih =>
      intro a hc
      rw [prX_c, if_neg (hc c List.mem_cons_self)]
      split
      · exact ih _ (fun c' h' => hc c' (List.mem_cons_of_mem _ h'))
      · rfl
  rw [tks_x cs a ha hc, prX_app]
  have hge := prX_ge (sgn m) cs a
  by_cases g : (prX (sgn m) cs a).2.1 = true
  · have e : mkF (prX (sgn m) cs a) = ((prX (sgn m) cs a).1, -1) := by unfold mkF; rw [if_pos g]
    obtain ⟨h1, h2, h3⟩ := rdn_x (m := m) (a := (prX (sgn m) cs a).1) (by omega) n
    rw [e, if_pos g, hnn cs a hc]
    exact ⟨h1, h2, h3⟩
  · have e : mkF (prX (sgn m) cs a) = ((prX (sgn m) cs a).1, (prX (sgn m) cs a).1) := by unfold mkF; rw [if_neg g]
    obtain ⟨h1, h2⟩ := rdn_f (m := m) (a := (prX (sgn m) cs a).1) (f := (prX (sgn m) cs a).1) (by omega) n
    rw [e, if_neg g, h1]
    refine ⟨?_, h2, fun hok => absurd hok g⟩
    unfold mkF
    rw [if_neg g]
