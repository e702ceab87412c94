/-! a missed deadline keeps the relation -/
theorem lp_shift (t n c : Nat) (m : zkM) : ∀ N : Nat, lp (fun j s => mset s t n (c + j) (s t n (c + j + 1))) N m = mrow m t n (fun x => if c ≤ x ∧ x < c + N then m t n (x + 1) else m t n x)
  | 0 => by
    show m = _
    funext t' n' x
    simp only [mrow]
    by_cases h : t' = t ∧ n' = n
    · rw [if_pos h, if_neg (by omega), h.1, h.2]
    · rw [if_neg h]
  | N + 1 => by
    show mset (lp _ N m) t n (c + N) ((lp _ N m) t n (c + N + 1)) = _
    rw [lp_shift t n c m N]
    funext t' n' x
    simp only [mset, mrow]
    by_cases h : t' = t ∧ n' = n
    · obtain ⟨rfl, rfl⟩ := h
      simp only [true_and, and_self, if_true]
      by_cases hx : x = c + N
      · rw [if_pos hx, if_neg (by omega), if_pos (by omega), hx]
      · rw [if_neg hx]
        by_cases g : c ≤ x ∧ x < c + N
        · rw [if_pos g, if_pos (by omega)]
        · rw [if_neg g, if_neg (by omega)]
    · rw [if_neg (fun g => h ⟨g.1, g.2.1⟩), if_neg h, if_neg h]
theorem joRm_e {m : zkM} {n p : Nat} (h : (p : Int) < m 1 n 2 - m 1 n 1) (h0 : 0 ≤ m 1 n 1) : joRm m n p = mrow (mset m 1 n 2 (m 1 n 2 - 1)) 21 n (fun x => if (m 1 n 1).toNat + p ≤ x ∧ x < (m 1 n 2).toNat - 1 then m 21 n (x + 1) else m 21 n x) := by
  unfold joRm
  rw [if_pos (by omega)]
  have e := lp_shift 21 n (m 1 n 1 + p).toNat (mset m 1 n 2 (m 1 n 2 - 1)) (m 1 n 2 - 1 - m 1 n 1 - p).toNat
  have e1 : (m 1 n 1 + p).toNat = (m 1 n 1).toNat + p := by omega
  have e2 : (m 1 n 1).toNat + p + (m 1 n 2 - 1 - m 1 n 1 - p).toNat = (m 1 n 2).toNat - 1 := by omega
  rw [e1] at e ⊢
  rw [e2] at e
  exact e
theorem moTJ2_e (m : zkM) (t ix : Nat) (h : (ix : Int) < m 36 0 t) : moTJ2 m t ix = mrow (mset m 36 0 t (m 36 0 t - 1)) 35 0 (fun x => if 401 * t + ix ≤ x ∧ x < 401 * t + ((m 36 0 t).toNat - 1) then m 35 0 (x + 1) else m 35 0 x) := by
  unfold moTJ2
  have e := lp_shift 35 0 (401 * t + ix) (mset m 36 0 t (m 36 0 t - 1)) ((m 36 0 t - 1).toNat - ix)
  have e2 : 401 * t + ix + ((m 36 0 t - 1).toNat - ix) = 401 * t + ((m 36 0 t).toNat - 1) := by omega
  rw [e2] at e
  refine Eq.trans ?_ e
  refine lp_cong2 rfl (fun j s _ => ?_) _
  unfold moF3
  rw [Nat.add_assoc (401 * t) ix j]
theorem mono_q {v : Nat → Int} {Q : Nat} (h : ∀ k, k + 1 < Q → v k < v (k + 1)) : ∀ (d k : Nat), k + d < Q → v k + d ≤ v (k + d)
  | 0, k, _ => by simp
  | d + 1, k, hk => by
    have h1 := mono_q h d k (by omega)
    have h2 := h (k + d) (by omega)
    have e : k + (d + 1) = k + d + 1 := by omega
    rw [e]
    push_cast
    omega
theorem joPf_spec {m : zkM} {n : Nat} {x : Int} {Q : Nat} (h : ∀ k, k + 1 < Q → m 21 n ((m 1 n 1).toNat + k) < m 21 n ((m 1 n 1).toNat + (k + 1))) : ∀ r, r ≤ Q → (joPf m n x r = -1 ∧ ∀ k, k < r → m 21 n ((m 1 n 1).toNat + k) ≠ x) ∨ ∃ p : Nat, p < r ∧ joPf m n x r = p ∧ m 21 n ((m 1 n 1).toNat + p) = x
  | 0, _ => Or.inl ⟨rfl, fun k hk => absurd hk (by omega)⟩
  | r + 1, hr => by
    have hmono := mono_q (v := fun k => m 21 n ((m 1 n 1).toNat + k)) h
    unfold joPf
    by_cases h1 : x ≤ m 21 n ((m 1 n 1).toNat + r)
    · rw [if_pos h1]
      by_cases h2 : m 21 n ((m 1 n 1).toNat + r) = x
      · rw [if_pos h2]
        exact Or.inr ⟨r, by omega, rfl, h2⟩
      · rw [if_neg h2]
        rcases joPf_spec h r (by omega) with ⟨g1, g2⟩ | ⟨p, g1, g2, g3⟩
        · refine Or.inl ⟨g1, fun k hk => ?_⟩
          by_cases hkr : k = r
          · subst hkr; exact h2
          · exact g2 k (by omega)
        · exact Or.inr ⟨p, by omega, g2, g3⟩
    · rw [if_neg h1]
      refine Or.inl ⟨rfl, fun k hk => ?_⟩
      have h3 := hmono (r - k) k (by omega)
      have e : k + (r - k) = r := by omega
      simp only [e] at h3
      omega
/-- what the reference's search of missed jobs does where at most one is missed -/
theorem moF5_no {b : zkM} {i : Nat} (h : ∀ k : Nat, k < (b 36 0 i).toNat → b 35 0 (401 * i + k) + b 30 0 (4 * i + 2) ≠ b 7 0 11) : moF5 i b = b := by
  unfold moF5
  refine lp_inv (fun (_ : Nat) (s : zkM) => s = b) _ _ _ rfl (fun j s hj hI => ?_)
  subst hI
  unfold moF4 moMf
  rw [if_neg (h _ (by omega))]
theorem moF5_at {b : zkM} {i p : Nat} (hp : p < (b 36 0 i).toNat) (h1 : b 35 0 (401 * i + p) + b 30 0 (4 * i + 2) = b 7 0 11) (h : ∀ k : Nat, k < (b 36 0 i).toNat → k ≠ p → b 35 0 (401 * i + k) + b 30 0 (4 * i + 2) ≠ b 7 0 11) (h2 : ∀ k, k < p → moMf i p b 35 0 (401 * i + k) = b 35 0 (401 * i + k)) (h3 : moMf i p b 30 = b 30) (h4 : moMf i p b 7 0 11 = b 7 0 11) : moF5 i b = moMf i p b := by
  unfold moF5
  have hx := lp_inv (fun (j : Nat) (s : zkM) => s = if j ≤ (b 36 0 i).toNat - 1 - p then b else moMf i p b) (moF4 i (b 36 0 i).toNat) (b 36 0 i).toNat b (by rw [if_pos (by omega)]) (fun j s hj hI => by
    subst hI
    unfold moF4
    by_cases g1 : j ≤ (b 36 0 i).toNat - 1 - p
    · rw [if_pos g1]
      by_cases g2 : j = (b 36 0 i).toNat - 1 - p
      · have e : (b 36 0 i).toNat - 1 - j = p := by omega
        rw [e, if_neg (by omega)]
      · rw [if_pos (by omega)]
        conv => lhs; unfold moMf
        rw [if_neg (h _ (by omega) (by omega))]
    · rw [if_neg g1, if_neg (by omega)]
      generalize hg : moMf i p b = s at *
      unfold moMf
      rw [h3, h4, h2 _ (by omega), if_neg (h _ (by omega) (by omega))])
  rw [if_neg (by omega)] at hx
  exact hx
