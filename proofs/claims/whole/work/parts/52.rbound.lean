/-! class and reference: the bound -/
theorem lp_mono {f g : Nat → Int → Int} {n : Nat} (h : ∀ j s s', j < n → s ≤ s' → f j s ≤ g j s') {s0 : Int} : lp f n s0 ≤ lp g n s0 := by
  induction n with
  | zero => exact Int.le_refl s0
  | succ n ih => exact h n _ _ (Nat.lt_succ_self n) (ih (fun j s s' hj hs => h j s s' (Nat.lt_succ_of_lt hj) hs))
theorem moQ_m {a a' b : Int} (h : a ≤ a') (hb : 1 ≤ b) : moQ a b ≤ moQ a' b := Int.ediv_le_ediv (by omega) (by omega)
theorem moWk_m {m : zkM} (hM : moA m) {i : Nat} (hi : i < moN m) {r r' : Int} (h : r ≤ r') : moWk m i r ≤ moWk m i r' := by
  have hn := moA_n hM
  have hp := moA_p hM (i := i) (by omega)
  obtain ⟨-, -, -, -, -, g6, g7, g8, g9⟩ := id hM
  have h1 : lp (moWf m i r) (moN m) (moBl m i + moDe m i) ≤ lp (moWf m i r') (moN m) (moBl m i + moDe m i) := by
    refine lp_mono (fun o s s' ho hs => ?_)
    have h2 := moA_e1 hM ho
    have h3 := moDe_b hM (i := o) (by omega)
    have h4 := Int.mul_le_mul_of_nonneg_left (moQ_m h h2) h3.1
    unfold moWf
    split <;> omega
  unfold moWk
  split
  · have h5 := Int.mul_le_mul_of_nonneg_left (moQ_m (b := m 7 0 8) h (by omega)) g7.1
    omega
  · omega
theorem bdf_skip {m : zkM} {i : Nat} : ∀ (d : Nat) (r : Int), (∀ x, r ≤ x → x < r + d → moWk m i x ≠ x) → moBdf m i (1001 - r).toNat r = moBdf m i (1001 - (r + d)).toNat (r + d)
  | 0, r, _ => by rw [show r + ((0 : Nat) : Int) = r by omega]
  | d + 1, r, h => by
    have h1 := bdf_skip d (r + 1) (fun x hx hy => h x (by omega) (by omega))
    rw [show r + 1 + (d : Int) = r + ((d + 1 : Nat) : Int) by omega] at h1
    rw [← h1]
    by_cases hr : r ≤ 1000
    · rw [show (1001 - r).toNat = (1001 - (r + 1)).toNat + 1 by omega]
      show (if moWk m i r = r then r else moBdf m i (1001 - (r + 1)).toNat (r + 1)) = _
      rw [if_neg (h r (by omega) (by omega))]
    · rw [show (1001 - r).toNat = 0 by omega, show (1001 - (r + 1)).toNat = 0 by omega]
      rfl
theorem rl_bdf {m : zkM} (hR : rlC m) (hA : anA m) (hM : moA m) {i : Nat} (hi : i < moN m) : ∀ (k : Nat) (r : Int), 1 ≤ r → 1001 ≤ r + k → (r ≤ 1000 → r ≤ moWk m i r) → anBdf m i k r = moBdf m i (1001 - r).toNat r
  | 0, r, _, h2, _ => by
    rw [show (1001 - r).toNat = 0 by omega]
    rfl
  | k + 1, r, h1, h2, h3 => by
    rw [anBdf_s, rl_wk hR hA hM hi]
    by_cases hr : 1000 < r
    · rw [if_pos hr, show (1001 - r).toNat = 0 by omega]
      rfl
    · rw [if_neg hr]
      have h4 := h3 (by omega)
      by_cases he : moWk m i r = r
      · rw [if_pos he, show (1001 - r).toNat = (1000 - r).toNat + 1 by omega]
        show r = (if moWk m i r = r then r else moBdf m i (1000 - r).toNat (r + 1))
        rw [if_pos he]
      · rw [if_neg he, rl_bdf hR hA hM hi k (moWk m i r) (by omega) (by omega) (fun _ => moWk_m hM hi h4)]
        have hs := bdf_skip (m := m) (i := i) (moWk m i r - r).toNat r (fun x hx hy => by
          by_cases hx2 : x = r
          · rw [hx2]; exact he
          · have := moWk_m hM hi hx
            omega)
        rw [hs, show r + (((moWk m i r - r).toNat : Nat) : Int) = moWk m i r by omega]
theorem rl_bd {m : zkM} (hR : rlC m) (hA : anA m) (hM : moA m) {i : Nat} (hi : i < moN m) (hL : 1 ≤ anLe m i) : anBd m i = moBd m i := by
  have hn := moA_n hM
  have hb := anBl_b hA i
  have hd := (hA.2.1 i (by omega)).1.2.2.2.2
  have eL : anLe m i = anBl m i + m 5 i 9 := rfl
  have hge : ∀ x, 0 ≤ x → x ≤ 1000 → anLe m i ≤ moWk m i x := fun x h0 h1 => by
    have h2 := rl_wk hR hA hM hi x
    have h3 := anWk_b hA i (u := x) ⟨h0, h1⟩
    omega
  unfold anBd moBd
  rw [rl_bdf hR hA hM hi 1000 (anLe m i) hL (by omega) (fun h => hge _ (by omega) h)]
  have hs := bdf_skip (m := m) (i := i) (anLe m i - 1).toNat 1 (fun x hx hy => by
    have := hge x (by omega) (by omega)
    omega)
  rw [show (1 : Int) + (((anLe m i - 1).toNat : Nat) : Int) = anLe m i by omega] at hs
  exact hs.symm
