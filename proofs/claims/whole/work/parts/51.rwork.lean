/-! class and reference: work, releases, witness -/
theorem lp_add {g : Nat → Int} : ∀ (n : Nat) (s : Int), lp (fun k (x : Int) => x + g k) n s = s + lp (fun k (x : Int) => x + g k) n 0
  | 0, s => by
    show s = s + 0
    omega
  | n + 1, s => by
    show lp _ n s + g n = s + (lp _ n 0 + g n)
    rw [lp_add n s]
    omega
theorem rl_wl {m : zkM} (hR : rlC m) (hM : moA m) {i : Nat} (hi : i < moN m) (u : Int) : anWl m i u = lp (moWf m i u) (moN m) 0 := by
  unfold anWl
  refine lp_cong2 (by unfold moN; rw [hR.1]) (fun o s ho => ?_) 0
  have ho2 : o < moN m := by unfold moN; rw [← hR.1]; exact ho
  obtain ⟨p1, -⟩ := hR.2.1 i hi
  obtain ⟨q1, q2, -, -, -, q6, -⟩ := hR.2.1 o ho2
  have h1 := moA_e1 hM ho2
  unfold anWf moWf
  rw [p1, q1, q2, q6]
  by_cases hc : moPr m i < moPr m o
  · rw [if_pos hc, if_pos hc]
    unfold anQ
    rw [if_neg (by omega)]
  · rw [if_neg hc, if_neg hc]
    omega
theorem rl_wk {m : zkM} (hR : rlC m) (hA : anA m) (hM : moA m) {i : Nat} (hi : i < moN m) (u : Int) : anLe m i + anWk m i u = moWk m i u := by
  have hb := rl_bl hR hA hM hi
  have hw := rl_wl hR hM hi u
  obtain ⟨p1, -, -, -, -, p6, -⟩ := hR.2.1 i hi
  obtain ⟨-, -, -, h3, h4, -⟩ := hR
  have hp : 0 ≤ moPr m i := by
    have hn := moA_n hM
    have := moA_p hM (i := i) (by omega)
    omega
  obtain ⟨-, -, -, -, -, g6, g7, g8, g9⟩ := id hM
  unfold anLe anWk moWk
  have ha : lp (moWf m i u) (moN m) (moBl m i + moDe m i) = moBl m i + moDe m i + lp (moWf m i u) (moN m) 0 := lp_add (g := fun o => if moPr m i < moPr m o then moDe m o * moQ u (moPe m o) else 0) (moN m) _
  rw [ha, hb, p6, hw, p1]
  by_cases hs : 0 < m 7 0 6
  · obtain ⟨s1, s2, s3⟩ := h4 hs
    rw [if_pos hs] at h3
    rw [s1, s2, s3]
    by_cases hc : moPr m i < m 7 0 6
    · rw [if_pos ⟨h3, hc⟩, if_pos hc]
      unfold anQ
      rw [if_neg (by omega)]
      omega
    · rw [if_neg (fun h => hc h.2), if_neg hc]
      omega
  · rw [if_neg hs] at h3
    rw [if_neg (by omega), if_neg (by omega)]
    omega
theorem rl_cm {m : zkM} (hR : rlC m) (hM : moA m) {i : Nat} (hi : i < moN m) (t : Int) : anCm m i t = moCm m i t := by
  have hw : anCl m i t = lp (moCf m i t) (moN m) 0 := by
    unfold anCl
    refine lp_cong2 (by unfold moN; rw [hR.1]) (fun o s ho => ?_) 0
    have ho2 : o < moN m := by unfold moN; rw [← hR.1]; exact ho
    obtain ⟨p1, -⟩ := hR.2.1 i hi
    obtain ⟨q1, q2, -, -, -, q6, -⟩ := hR.2.1 o ho2
    have h1 := moA_e1 hM ho2
    unfold anCf moCf
    rw [p1, q1, q2, q6]
    by_cases hc : moPr m i < moPr m o ∧ t % moPe m o = 0
    · rw [if_pos ⟨hc.1, by omega, hc.2⟩, if_pos hc]
    · rw [if_neg (fun h => hc ⟨h.1, h.2.2⟩), if_neg hc]
      omega
  obtain ⟨p1, -⟩ := hR.2.1 i hi
  obtain ⟨-, -, -, h3, h4, -⟩ := hR
  have hp : 0 ≤ moPr m i := by
    have hn := moA_n hM
    have := moA_p hM (i := i) (by omega)
    omega
  obtain ⟨-, -, -, -, -, g6, g7, g8, g9⟩ := id hM
  unfold anCm moCm
  rw [hw, p1]
  by_cases hs : 0 < m 7 0 6
  · obtain ⟨s1, s2, s3⟩ := h4 hs
    rw [if_pos hs] at h3
    rw [s1, s2, s3]
    by_cases hc : moPr m i < m 7 0 6 ∧ t % m 7 0 8 = 0
    · rw [if_pos ⟨⟨h3, hc.1⟩, by omega, hc.2⟩, if_pos hc]
    · rw [if_neg (fun h => hc ⟨h.1.2, h.2.2⟩), if_neg hc]
      omega
  · rw [if_neg hs] at h3
    rw [if_neg (fun h => by omega), if_neg (fun h => by omega)]
    omega
theorem rl_wtf {m : zkM} (hR : rlC m) (hA : anA m) (hM : moA m) {i : Nat} (hi : i < moN m) : ∀ (k : Nat) (t o w : Int), anWtf m i k t o w = moWtf m i k t o w
  | 0, _, _, _ => rfl
  | k + 1, t, o, w => by
    have e1 : anWo m i t o = moWo m i t o := by unfold anWo moWo; rw [rl_bl hR hA hM hi, rl_cm hR hM hi]
    have e2 : anWw m i t o w = moWw m i t o w := by unfold anWw moWw; rw [rl_bl hR hA hM hi, rl_cm hR hM hi]
    unfold anWtf moWtf
    rw [e1, e2, rl_wtf hR hA hM hi k]
theorem rl_wt {m : zkM} (hR : rlC m) (hA : anA m) (hM : moA m) {i : Nat} (hi : i < moN m) : anWt m i = moWt m i := by
  unfold anWt moWt
  rw [rl_wtf hR hA hM hi, (hR.2.1 i hi).2.2.2.2.2.1]
