/-! the sporadic server -/
def plS (b : zkM) (n : Nat) : Int := lp (fun k s => s + b 43 0 (2 * k + 1)) n 0
def sV (a b : zkM) (L N : Int) : Prop :=
  (a 4 0 8 = b 7 0 20 ∧ (b 7 0 20 = 0 ∨ b 7 0 20 = 1)) ∧ (a 4 0 2 = b 7 0 26 ∧ 0 ≤ b 7 0 26) ∧
  (∀ k : Nat, (k : Int) < b 7 0 26 → a 11 0 k = b 43 0 (2 * k) ∧ a 12 0 k = b 43 0 (2 * k + 1) ∧ L ≤ b 43 0 (2 * k) ∧ 1 ≤ b 43 0 (2 * k + 1) ∧ b 43 0 (2 * k) < (if b 7 0 20 = 1 then b 7 0 21 else N) + b 7 0 8) ∧
  (∀ k : Nat, (k : Int) + 1 < b 7 0 26 → b 43 0 (2 * k) < b 43 0 (2 * (k + 1))) ∧
  (0 < b 7 0 6 → a 4 0 7 = b 7 0 19 ∧ 0 ≤ b 7 0 19 ∧ b 7 0 19 + plS b (b 7 0 26).toNat + (if b 7 0 20 = 1 then b 7 0 22 else 0) = b 7 0 7) ∧
  (¬ 0 < b 7 0 6 → b 7 0 20 = 0 ∧ b 7 0 26 = 0) ∧
  (b 7 0 20 = 1 → a 4 0 9 = b 7 0 21 ∧ a 4 0 10 = b 7 0 22 ∧ 0 ≤ b 7 0 21 ∧ b 7 0 21 < N ∧ 1 ≤ b 7 0 22) ∧
  (N = 0 → b 7 0 26 = 0) ∧
  ((∀ k, k < 9 → 0 ≤ a 11 0 k ∧ a 11 0 k ≤ 1000) ∧ (∀ k, k < 800 → 0 ≤ b 43 0 k ∧ b 43 0 k ≤ 1000) ∧ (0 ≤ a 4 0 9 ∧ a 4 0 9 ≤ 400) ∧ (0 ≤ a 4 0 7 ∧ a 4 0 7 ≤ 9) ∧ (0 ≤ b 7 0 19 ∧ b 7 0 19 ≤ 9) ∧ (0 ≤ b 7 0 21 ∧ b 7 0 21 ≤ 400) ∧ (0 ≤ b 7 0 22 ∧ b 7 0 22 ≤ 9))
theorem plS_c {b b' : zkM} (h : b' 43 = b 43) (n : Nat) : plS b' n = plS b n := by
  unfold plS
  rw [h]
theorem sV_c {a a' b b' : zkM} {L N : Int} (h4 : a' 4 = a 4) (h11 : a' 11 = a 11) (h12 : a' 12 = a 12) (e7 : b' 7 = b 7) (e43 : b' 43 = b 43) (h : sV a b L N) : sV a' b' L N := by
  unfold sV plS at *
  rw [h4, h11, h12, e7, e43]
  exact h
theorem plS_ge {b : zkM} : ∀ n : Nat, (∀ k : Nat, k < n → 1 ≤ b 43 0 (2 * k + 1)) → (n : Int) ≤ plS b n
  | 0, _ => Int.le_refl 0
  | n + 1, h => by
    have h1 := plS_ge n (fun k hk => h k (by omega))
    have h2 := h n (by omega)
    show ((n + 1 : Nat) : Int) ≤ plS b n + b 43 0 (2 * n + 1)
    push_cast
    omega
/-- at most nine plans, and a place for one more while the server is busy -/
theorem sV_n {a b : zkM} {L N : Int} (hM : moA b) (h : sV a b L N) : b 7 0 26 ≤ 9 ∧ (b 7 0 20 = 1 → b 7 0 26 ≤ 8 ∧ 0 < b 7 0 6) := by
  obtain ⟨h1, h2, h3, h4, h5, h6, h7, h8, h9⟩ := h
  have hb := hM.2.2.2.2.2.2.1
  by_cases hs : 0 < b 7 0 6
  · obtain ⟨g1, g2, g3⟩ := h5 hs
    have g4 := plS_ge (b := b) (b 7 0 26).toNat (fun k hk => (h3 k (by omega)).2.2.2.1)
    by_cases hu : b 7 0 20 = 1
    · rw [if_pos hu] at g3
      have := h7 hu
      omega
    · rw [if_neg hu] at g3
      omega
  · have := h6 hs
    omega
theorem mset_self (m : zkM) (t i k : Nat) : mset m t i k (m t i k) = m := by
  funext t' i' k'
  unfold mset
  split
  · next h => rw [h.1, h.2.1, h.2.2]
  · rfl
theorem mset_self' {m : zkM} {t i k : Nat} {x : Int} (h : x = m t i k) : mset m t i k x = m := by
  rw [h]; exact mset_self m t i k
/-- nothing is replenished -/
theorem rp_no {a b : zkM} {T : Int} (h : sV a b T T) (hc : b 7 0 11 = T) (hn : ∀ k : Nat, (k : Int) < b 7 0 26 → b 43 0 (2 * k) ≠ T) : seRp a T = a ∧ moRepl b = b := by
  obtain ⟨h1, h2, h3, -⟩ := h
  constructor
  · unfold seRp
    have := lp_inv (fun (j : Nat) (s : zkM × Int) => s = (a, (j : Int))) (seRf T) (a 4 0 2).toNat (a, 0) rfl (fun j s hj hs => by
      subst hs
      have g := h3 j (by omega)
      have g2 := hn j (by omega)
      unfold seRf
      rw [if_neg (by show a 11 0 j ≠ T; rw [g.1]; exact g2)]
      show (mset (mset a 11 0 (j : Int).toNat (a 11 0 j)) 12 0 (j : Int).toNat (a 12 0 j), (j : Int) + 1) = (a, ((j + 1 : Nat) : Int))
      rw [Int.toNat_natCast, mset_self, mset_self]
      rfl)
    rw [this]
    exact mset_self' (by show (((a 4 0 2).toNat : Nat) : Int) = a 4 0 2; omega)
  · unfold moRepl
    have := lp_inv (fun (j : Nat) (s : Nat × zkM) => s = (j, b)) moF1 (b 7 0 26).toNat (0, b) rfl (fun j s hj hs => by
      subst hs
      have g := h3 j (by omega)
      have g2 := hn j (by omega)
      unfold moF1
      rw [if_neg (by show ¬ b 43 0 (2 * j) ≤ b 7 0 11; omega)]
      show (j + 1, mset (mset b 43 0 (2 * j) (b 43 0 (2 * j))) 43 0 (2 * j + 1) (mset b 43 0 (2 * j) (b 43 0 (2 * j)) 43 0 (2 * j + 1))) = (j + 1, b)
      rw [mset_self, mset_self])
    rw [this]
    exact mset_self' (by show (((b 7 0 26).toNat : Nat) : Int) = b 7 0 26; omega)
theorem mrow_0 (m : zkM) (t i : Nat) (f : Nat → Int) (h : ∀ k, f k = m t i k) : mrow m t i f = m := by
  funext t' i' k'
  unfold mrow
  split
  · next g => rw [h k', g.1, g.2]
  · rfl
/-- the first plan is due -/
theorem rp_yesB {a b : zkM} {T : Int} (h : sV a b T T) (hc : b 7 0 11 = T) (hp : 0 < b 7 0 26) (h0 : b 43 0 0 = T) : moRepl b = mset (mrow (mset b 7 0 19 (b 7 0 19 + b 43 0 1)) 43 0 (fun x => if x < 2 * ((b 7 0 26).toNat - 1) then b 43 0 (x + 2) else b 43 0 x)) 7 0 26 (b 7 0 26 - 1) := by
  obtain ⟨h1, h2, h3, h4, -⟩ := h
  have hlt : ∀ k : Nat, 1 ≤ k → (k : Int) < b 7 0 26 → T < b 43 0 (2 * k) := by
    intro k hk hkp
    have := mono_q (v := fun k => b 43 0 (2 * k)) (Q := (b 7 0 26).toNat) (fun k hk => h4 k (by omega)) k 0 (by omega)
    simp only [Nat.zero_add, Nat.mul_zero] at this
    omega
  unfold moRepl
  have := lp_inv (fun (j : Nat) (s : Nat × zkM) => s = if j = 0 then (0, b) else (j - 1, mrow (mset b 7 0 19 (b 7 0 19 + b 43 0 1)) 43 0 (fun x => if x < 2 * (j - 1) then b 43 0 (x + 2) else b 43 0 x))) moF1 (b 7 0 26).toNat (0, b) (by rw [if_pos rfl]) (fun j s hj hs => by
    subst hs
    rw [if_neg (show ¬ (j + 1 = 0) by omega)]
    by_cases hj0 : j = 0
    · subst hj0
      rw [if_pos rfl]
      unfold moF1
      rw [if_pos (by show b 43 0 (2 * 0) ≤ b 7 0 11; rw [Nat.mul_zero]; omega)]
      show (0, mset b 7 0 19 (b 7 0 19 + b 43 0 (2 * 0 + 1))) = _
      rw [mrow_0 _ _ _ _ (fun k => by rw [if_neg (by omega)]; rfl)]
    · rw [if_neg hj0]
      generalize hm : mrow (mset b 7 0 19 (b 7 0 19 + b 43 0 1)) 43 0 (fun x => if x < 2 * (j - 1) then b 43 0 (x + 2) else b 43 0 x) = m
      have m43 : ∀ x, m 43 0 x = if x < 2 * (j - 1) then b 43 0 (x + 2) else b 43 0 x := by
        intro x; rw [← hm, mrow_s]
      have m7 : m 7 0 11 = T := by rw [← hm, ← hc]; rfl
      unfold moF1
      have hcond : ¬ m 43 0 (2 * j) ≤ m 7 0 11 := by
        rw [m43, m7, if_neg (by omega)]
        have := hlt j (by omega) (by omega)
        omega
      rw [if_neg hcond]
      show (j - 1 + 1, mset (mset m 43 0 (2 * (j - 1)) (m 43 0 (2 * j))) 43 0 (2 * (j - 1) + 1) ((mset m 43 0 (2 * (j - 1)) (m 43 0 (2 * j))) 43 0 (2 * j + 1))) = _
      have ej : j - 1 + 1 = j + 1 - 1 := by omega
      rw [ej]
      refine Prod.ext rfl ?_
      show mset (mset m 43 0 (2 * (j - 1)) (m 43 0 (2 * j))) 43 0 (2 * (j - 1) + 1) ((mset m 43 0 (2 * (j - 1)) (m 43 0 (2 * j))) 43 0 (2 * j + 1)) = mrow (mset b 7 0 19 (b 7 0 19 + b 43 0 1)) 43 0 (fun x => if x < 2 * (j + 1 - 1) then b 43 0 (x + 2) else b 43 0 x)
      funext t' i' x
      by_cases ht : t' = 43 ∧ i' = 0
      · obtain ⟨rfl, rfl⟩ := ht
        rw [mrow_s]
        have e1 : (mset m 43 0 (2 * (j - 1)) (m 43 0 (2 * j))) 43 0 (2 * j + 1) = b 43 0 (2 * j + 1) := by
          rw [ms_k (by omega), m43, if_neg (by omega)]
        have e2 : m 43 0 (2 * j) = b 43 0 (2 * j) := by rw [m43, if_neg (by omega)]
        rw [e1, e2]
        by_cases x1 : x = 2 * (j - 1) + 1
        · subst x1
          rw [ms_s, if_pos (by omega)]
          have : 2 * (j - 1) + 1 + 2 = 2 * j + 1 := by omega
          rw [this]
        · rw [ms_k x1]
          by_cases x2 : x = 2 * (j - 1)
          · subst x2
            rw [ms_s, if_pos (by omega)]
            have : 2 * (j - 1) + 2 = 2 * j := by omega
            rw [this]
          · rw [ms_k x2, m43]
            by_cases x3 : x < 2 * (j - 1)
            · rw [if_pos x3, if_pos (by omega)]
            · rw [if_neg x3, if_neg (by omega)]
      · have ht' : t' ≠ 43 ∨ i' ≠ 0 := by omega
        rw [ms_f ht', ms_f ht', mrow_f ht', ← hm, mrow_f ht'])
  rw [this, if_neg (by omega)]
  show mset _ 7 0 26 ((((b 7 0 26).toNat - 1 : Nat) : Int)) = _
  have e : ((((b 7 0 26).toNat - 1 : Nat) : Int)) = b 7 0 26 - 1 := by omega
  rw [e]
theorem rp_yesA {a b : zkM} {T : Int} (h : sV a b T T) (hp : 0 < b 7 0 26) (h0 : b 43 0 0 = T) : seRp a T = mset (mrow (mrow (mset a 4 0 7 (a 4 0 7 + a 12 0 0)) 11 0 (fun x => if x < (b 7 0 26).toNat - 1 then a 11 0 (x + 1) else a 11 0 x)) 12 0 (fun x => if x < (b 7 0 26).toNat - 1 then a 12 0 (x + 1) else a 12 0 x)) 4 0 2 (b 7 0 26 - 1) := by
  obtain ⟨h1, h2, h3, h4, -⟩ := h
  have hlt : ∀ k : Nat, 1 ≤ k → (k : Int) < b 7 0 26 → T < a 11 0 k := by
    intro k hk hkp
    have := mono_q (v := fun k => b 43 0 (2 * k)) (Q := (b 7 0 26).toNat) (fun k hk => h4 k (by omega)) k 0 (by omega)
    simp only [Nat.zero_add, Nat.mul_zero] at this
    have := (h3 k hkp).1
    omega
  have h00 : a 11 0 0 = T := by rw [(h3 0 (by omega)).1]; exact h0
  unfold seRp
  rw [h2.1]
  have := lp_inv (fun (j : Nat) (s : zkM × Int) => s = if j = 0 then (a, 0) else (mrow (mrow (mset a 4 0 7 (a 4 0 7 + a 12 0 0)) 11 0 (fun x => if x < j - 1 then a 11 0 (x + 1) else a 11 0 x)) 12 0 (fun x => if x < j - 1 then a 12 0 (x + 1) else a 12 0 x), ((j - 1 : Nat) : Int))) (seRf T) (b 7 0 26).toNat (a, 0) (by rw [if_pos rfl]) (fun j s hj hs => by
    subst hs
    rw [if_neg (show ¬ (j + 1 = 0) by omega)]
    by_cases hj0 : j = 0
    · subst hj0
      rw [if_pos rfl]
      unfold seRf
      rw [if_pos (by exact h00)]
      show (mset a 4 0 7 (a 4 0 7 + a 12 0 0), (0 : Int)) = _
      rw [mrow_0 _ _ _ _ (fun k => by rw [if_neg (by omega)]; rfl)]
      rw [mrow_0 _ _ _ _ (fun k => by rw [if_neg (by omega)]; rfl)]
      rfl
    · rw [if_neg hj0]
      generalize hm : mrow (mrow (mset a 4 0 7 (a 4 0 7 + a 12 0 0)) 11 0 (fun x => if x < j - 1 then a 11 0 (x + 1) else a 11 0 x)) 12 0 (fun x => if x < j - 1 then a 12 0 (x + 1) else a 12 0 x) = m
      have m11 : ∀ x, m 11 0 x = if x < j - 1 then a 11 0 (x + 1) else a 11 0 x := by
        intro x; rw [← hm, mrow_f (Or.inl (by decide)), mrow_s]
      have m12 : ∀ x, m 12 0 x = if x < j - 1 then a 12 0 (x + 1) else a 12 0 x := by
        intro x; rw [← hm, mrow_s]
      unfold seRf
      have hcond : ¬ m 11 0 j = T := by
        rw [m11, if_neg (by omega)]
        have := hlt j (by omega) (by omega)
        omega
      rw [if_neg hcond]
      show (mset (mset m 11 0 (((j - 1 : Nat) : Int)).toNat (m 11 0 j)) 12 0 (((j - 1 : Nat) : Int)).toNat (m 12 0 j), ((j - 1 : Nat) : Int) + 1) = _
      rw [Int.toNat_natCast]
      have ej : ((j - 1 : Nat) : Int) + 1 = ((j + 1 - 1 : Nat) : Int) := by omega
      rw [ej]
      refine Prod.ext ?_ rfl
      show mset (mset m 11 0 (j - 1) (m 11 0 j)) 12 0 (j - 1) (m 12 0 j) = mrow (mrow (mset a 4 0 7 (a 4 0 7 + a 12 0 0)) 11 0 (fun x => if x < j + 1 - 1 then a 11 0 (x + 1) else a 11 0 x)) 12 0 (fun x => if x < j + 1 - 1 then a 12 0 (x + 1) else a 12 0 x)
      have e1 : m 11 0 j = a 11 0 j := by rw [m11, if_neg (by omega)]
      have e2 : m 12 0 j = a 12 0 j := by rw [m12, if_neg (by omega)]
      rw [e1, e2]
      funext t' i' x
      by_cases ht : t' = 12 ∧ i' = 0
      · obtain ⟨rfl, rfl⟩ := ht
        rw [mrow_s]
        by_cases x1 : x = j - 1
        · subst x1
          rw [ms_s, if_pos (by omega)]
          have : j - 1 + 1 = j := by omega
          rw [this]
        · rw [ms_k x1, ms_t (by decide), m12]
          by_cases x3 : x < j - 1
          · rw [if_pos x3, if_pos (by omega)]
          · rw [if_neg x3, if_neg (by omega)]
      · have ht' : t' ≠ 12 ∨ i' ≠ 0 := by omega
        rw [ms_f ht', mrow_f ht']
        by_cases hu : t' = 11 ∧ i' = 0
        · obtain ⟨rfl, rfl⟩ := hu
          rw [mrow_s]
          by_cases x1 : x = j - 1
          · subst x1
            rw [ms_s, if_pos (by omega)]
            have : j - 1 + 1 = j := by omega
            rw [this]
          · rw [ms_k x1, m11]
            by_cases x3 : x < j - 1
            · rw [if_pos x3, if_pos (by omega)]
            · rw [if_neg x3, if_neg (by omega)]
        · have hu' : t' ≠ 11 ∨ i' ≠ 0 := by omega
          rw [ms_f hu', mrow_f hu', ← hm, mrow_f ht', mrow_f hu'])
  rw [this, if_neg (by omega)]
  show mset _ 4 0 2 ((((b 7 0 26).toNat - 1 : Nat) : Int)) = _
  have e : ((((b 7 0 26).toNat - 1 : Nat) : Int)) = b 7 0 26 - 1 := by omega
  rw [e]
