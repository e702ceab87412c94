/-! class and reference: priorities taken, schedulability -/
theorem rl_tkf {m : zkM} (hR : rlC m) (p : Int) : ∀ (r i : Nat), i + r = moN m → moTk m p = (lp (fun k s => s || decide (moPr m k = p)) i false || beTf m p r i)
  | 0, i, h => by
    show lp _ (moN m) false = _
    rw [show i = moN m by omega]
    show _ = (_ || false)
    rw [Bool.or_false]
  | r + 1, i, h => by
    rw [rl_tkf hR p r (i + 1) (by omega), beTf_s]
    show ((lp _ i false || decide (moPr m i = p)) || beTf m p r (i + 1)) = _
    have e := (hR.2.1 i (by omega)).1
    rw [e]
    by_cases hc : moPr m i = p
    · rw [if_pos hc, decide_eq_true hc, Bool.or_true]
      rfl
    · rw [if_neg hc, decide_eq_false hc, Bool.or_false]
theorem rl_tk {m : zkM} (hR : rlC m) (p : Int) : beTk m p = moTk m p := by
  have e0 : (m 0 0 5).toNat = moN m := by unfold moN; rw [hR.1]
  unfold beTk
  rw [e0, rl_tkf hR p (moN m) 0 (by omega)]
  rfl
theorem rl_mdf {m : zkM} (hR : rlC m) (hA : anA m) (hM : moA m) (hD : ∀ i, i < moN m → 1 ≤ m 30 0 (4 * i + 2)) (hS : ∀ i, i < moN m → 0 < m 31 0 i → 1 ≤ anLe m i) : ∀ (r i : Nat), i + r = moN m → moSch m = (lp (moSf m) i true && anMf m r i)
  | 0, i, h => by
    show lp _ (moN m) true = _
    rw [show i = moN m by omega]
    show _ = (_ && true)
    rw [Bool.and_true]
  | r + 1, i, h => by
    rw [rl_mdf hR hA hM hD hS r (i + 1) (by omega), anMf_s]
    show (moSf m i (lp (moSf m) i true) && anMf m r (i + 1)) = _
    obtain ⟨-, -, e6, -, e8, -⟩ := hR.2.1 i (by omega)
    have hn := moA_n hM
    have h8 := (hA.2.1 i (by omega)).1.2.2.2.1
    have hd := hD i (by omega)
    unfold moSf
    rw [e8, e6]
    by_cases hz : m 31 0 i = 0
    · rw [if_pos hz, if_neg (by omega), decide_eq_true (show (1 : Int) ≠ -1 by omega), decide_eq_true hd]
      rw [Bool.and_true, Bool.and_true]
    · rw [if_neg hz]
      have hb := rl_bd hR hA hM (i := i) (by omega) (hS i (by omega) (by omega))
      have h9 := moBd_b m i
      rw [hb]
      by_cases hc : 1 ≤ moBd m i ∧ moBd m i ≤ m 30 0 (4 * i + 2)
      · rw [if_neg (fun h => h.2 hc), decide_eq_true (show moBd m i ≠ -1 by omega), decide_eq_true hc.2]
        rw [Bool.and_true, Bool.and_true]
      · rw [if_pos ⟨by omega, hc⟩]
        by_cases hx : moBd m i = -1
        · rw [decide_eq_false (fun h => h hx), Bool.false_and, Bool.and_false]
          rfl
        · rw [decide_eq_false (show ¬ moBd m i ≤ m 30 0 (4 * i + 2) by omega), Bool.and_false, Bool.and_false]
          rfl
theorem rl_md {m : zkM} (hR : rlC m) (hA : anA m) (hM : moA m) (hD : ∀ i, i < moN m → 1 ≤ m 30 0 (4 * i + 2)) (hS : ∀ i, i < moN m → 0 < m 31 0 i → 1 ≤ anLe m i) : anMd m = moSch m := by
  have e0 : (m 0 0 5).toNat = moN m := by unfold moN; rw [hR.1]
  unfold anMd
  rw [e0, rl_mdf hR hA hM hD hS (moN m) 0 (by omega)]
  rfl
