/-! class and reference: the configuration's relation, and what follows of the analysis -/
def rlC (m : zkM) : Prop :=
  m 0 0 5 = m 7 0 2 ∧
  (∀ i : Nat, i < moN m → m 5 i 4 = moPr m i ∧ m 5 i 5 = moPe m i ∧ m 5 i 6 = m 30 0 (4 * i + 2) ∧ m 5 i 7 = m 30 0 (4 * i + 3) ∧ m 5 i 8 = m 31 0 i ∧ m 5 i 9 = moDe m i ∧ ∀ k : Nat, k < moS m i → m 19 i k = moRe m i k ∧ m 20 i k = moLe m i k) ∧
  (∀ r : Nat, r < 4 → m 17 0 r = moCe m (r : Int)) ∧
  (m 4 0 3 = if 0 < m 7 0 6 then 1 else 0) ∧ (0 < m 7 0 6 → m 4 0 4 = m 7 0 6 ∧ m 4 0 5 = m 7 0 7 ∧ m 4 0 6 = m 7 0 8) ∧ m 0 0 6 = m 7 0 1 ∧ m 0 0 7 = m 7 0 11
theorem lp_cong {σ : Type} {f g : Nat → σ → σ} {n : Nat} (h : ∀ j s, j < n → f j s = g j s) (s0 : σ) : lp f n s0 = lp g n s0 := by
  induction n with
  | zero => rfl
  | succ n ih =>
    show f n (lp f n s0) = g n (lp g n s0)
    rw [ih (fun j s hj => h j s (Nat.lt_succ_of_lt hj)), h n _ (Nat.lt_succ_self n)]
theorem lp_cong2 {σ : Type} {f g : Nat → σ → σ} {n n' : Nat} (hn : n = n') (h : ∀ j s, j < n → f j s = g j s) (s0 : σ) : lp f n s0 = lp g n' s0 := by
  subst hn
  exact lp_cong h s0
/-- a running greatest, from any start -/
theorem lp_max {c : Nat → Prop} [DecidablePred c] {v : Nat → Int} : ∀ (n : Nat) (s : Int), 0 ≤ s → (∀ k, k < n → True) → lp (fun k (x : Int) => if c k then max x (v k) else x) n s = max s (lp (fun k (x : Int) => if c k then max x (v k) else x) n 0)
  | 0, s, hs, _ => by
    show s = max s 0
    omega
  | n + 1, s, hs, _ => by
    show (if c n then max (lp _ n s) (v n) else lp _ n s) = max s (if c n then max (lp _ n 0) (v n) else lp _ n 0)
    rw [lp_max n s hs (fun _ _ => trivial)]
    split <;> omega
theorem rl_bb {m : zkM} (hR : rlC m) (hA : anA m) (hM : moA m) {o : Nat} (ho : o < moN m) (i : Nat) : ∀ p : Int, p = moPr m i → anBb m o p = lp (fun k s => moBf m i o k s) (moS m o) 0 := by
  intro p hp
  obtain ⟨r1, r2, r3, -⟩ := hR
  obtain ⟨q1, q2, q3, q4, q5, q6, q7⟩ := r2 o ho
  have ho5 : o < 5 := by
    have := hM.1
    unfold moN at ho
    omega
  have h8 := (hA.2.1 o ho5).1
  unfold anBb
  refine lp_cong2 (by unfold moS; rw [q5]) (fun k s hk => ?_) 0
  have hk2 : k < moS m o := by unfold moS; rw [← q5]; exact hk
  obtain ⟨e1, e2⟩ := q7 k hk2
  have hb := (hA.2.1 o ho5).2 k (by omega)
  unfold anBf moBf
  rw [← e1, ← e2, ← hp]
  by_cases hz : m 19 o k = -1
  · rw [if_neg (fun h => h.1 hz), if_neg (fun h => h.1 hz)]
  · have e3 := r3 (m 19 o k).toNat (by omega)
    have e4 : (((m 19 o k).toNat : Nat) : Int) = m 19 o k := by omega
    rw [e4] at e3
    rw [e3]
theorem rl_bl {m : zkM} (hR : rlC m) (hA : anA m) (hM : moA m) {i : Nat} (hi : i < moN m) : anBl m i = moBl m i := by
  have hi5 := (hR.2.1 i hi).1
  unfold anBl moBl
  have hgo : ∀ n : Nat, n ≤ moN m → lp (anBo m i) n 0 = lp (fun o s => moBi m i o s) n 0 ∧ 0 ≤ lp (anBo m i) n 0 := by
    intro n
    induction n with
    | zero => intro _; exact ⟨rfl, Int.le_refl 0⟩
    | succ n ih =>
      intro hn
      obtain ⟨h1, h2⟩ := ih (by omega)
      have hpo := (hR.2.1 n (by omega)).1
      have hb := rl_bb hR hA hM (o := n) (by omega) i (m 5 i 4) hi5
      have hn5 : n < 5 := by
        have := hM.1
        unfold moN at hn
        omega
      have hbb := anBb_b hA hn5 (m 5 i 4)
      show anBo m i n (lp (anBo m i) n 0) = moBi m i n (lp (fun o s => moBi m i o s) n 0) ∧ 0 ≤ anBo m i n (lp (anBo m i) n 0)
      rw [← h1]
      generalize lp (anBo m i) n 0 = s at h2
      unfold anBo moBi
      rw [hpo, hi5] at *
      by_cases hc : moPr m n < moPr m i
      · rw [if_pos hc, if_pos hc]
        refine ⟨?_, by omega⟩
        rw [hb]
        exact (lp_max (c := fun k => moRe m n k ≠ -1 ∧ moPr m i ≤ moCe m (moRe m n k)) (v := fun k => moLe m n k - 1) (moS m n) s h2 (fun _ _ => trivial)).symm
      · rw [if_neg hc, if_neg hc]
        exact ⟨rfl, h2⟩
  have e0 : (m 0 0 5).toNat = moN m := by unfold moN; rw [hR.1]
  rw [e0]
  exact (hgo (moN m) (Nat.le_refl _)).1
