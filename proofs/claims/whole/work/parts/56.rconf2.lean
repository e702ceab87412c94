/-! class and reference: the answers of setServer and request -/
theorem rl_srv {m : zkM} (hR : rlC m) (p b pe : Int) : agC (bePv m p b pe).1 (b2i (moSetS m p b pe).1, (moSetS m p b pe).2) 0 1 2 3 := by
  have e7 := hR.2.2.2.2.2.2
  by_cases hc : (1 ≤ p ∧ p ≤ 9) ∧ (1 ≤ b ∧ b ≤ 9) ∧ (1 ≤ pe ∧ pe ≤ 60)
  · by_cases h2 : m 7 0 11 ≠ 0
    · have eA : (bePv m p b pe).1 = -3 := by unfold bePv; rw [if_neg (fun h => h hc), if_pos (by omega)]
      have eB : (moSetS m p b pe).2 7 0 0 = 2 := by unfold moSetS; rw [if_neg (by omega), if_pos h2]; rfl
      exact Or.inr (Or.inr (Or.inl ⟨eA, eB⟩))
    · by_cases h3 : moTk m p = true
      · have eA : (bePv m p b pe).1 = -4 := by unfold bePv; rw [if_neg (fun h => h hc), if_neg (by omega), rl_tk hR p, if_pos ((b2i_1 _).mpr h3)]
        have eB : (moSetS m p b pe).2 7 0 0 = 3 := by unfold moSetS; rw [if_neg (by omega), if_neg h2, if_pos h3]; rfl
        exact Or.inr (Or.inr (Or.inr (Or.inl ⟨eA, eB⟩)))
      · have eB : (moSetS m p b pe).2 7 0 0 = 0 ∧ (moSetS m p b pe).1 = decide (0 < m 7 0 6) := by unfold moSetS; rw [if_neg (by omega), if_neg h2, if_neg h3]; exact ⟨rfl, rfl⟩
        have eA : (bePv m p b pe).1 = b2i (decide (0 < m 7 0 6)) := by
          unfold bePv
          rw [if_neg (fun h => h hc), if_neg (by omega), rl_tk hR p, if_neg (fun h => h3 ((b2i_1 _).mp h))]
          by_cases hs : 0 < m 7 0 6
          · rw [if_neg (by rw [rl_sv hR hs]; omega), decide_eq_true hs]; rfl
          · have h4 := hR.2.2.2.1
            rw [if_neg hs] at h4
            rw [if_pos h4, decide_eq_false hs]; rfl
        refine Or.inr (Or.inr (Or.inr (Or.inr ⟨?_, ?_, eB.1⟩)))
        · rw [eA]; cases decide (0 < m 7 0 6) <;> simp [b2i]
        · rw [eA]
          show _ = b2i (moSetS m p b pe).1
          rw [eB.2]
  · have eA : (bePv m p b pe).1 = -2 := by unfold bePv; rw [if_pos hc]
    have eB : (moSetS m p b pe).2 7 0 0 = 1 := by unfold moSetS; rw [if_pos (by omega)]; rfl
    exact Or.inr (Or.inl ⟨eA, eB⟩)
theorem rl_req {m : zkM} (hR : rlC m) (h9 : m 3 0 4 = m 7 0 9) (hq : 0 ≤ m 7 0 9 ∧ m 7 0 9 ≤ 12) (t le : Int) : agC (bePq m t le).1 (moReq m t le) 0 1 2 0 := by
  have e7 := hR.2.2.2.2.2.2
  by_cases hc : (0 ≤ t ∧ t ≤ 300) ∧ (1 ≤ le ∧ le ≤ 9) ∧ m 0 0 7 ≤ t
  · by_cases h2 : m 7 0 9 = 12
    · have eA : (bePq m t le).1 = -3 := by unfold bePq; rw [if_neg (fun h => h hc), if_pos (by omega)]
      have eB : (moReq m t le).2 7 0 0 = 2 := by unfold moReq; rw [if_neg (by omega), if_pos h2]; rfl
      exact Or.inr (Or.inr (Or.inl ⟨eA, eB⟩))
    · have eA : (bePq m t le).1 = m 3 0 4 + 1 - 1 := by unfold bePq; rw [if_neg (fun h => h hc), if_neg (by omega)]; unfold rqAdd; rw [if_neg (by omega)]
      have eB : (moReq m t le).2 7 0 0 = 0 ∧ (moReq m t le).1 = m 7 0 9 + 1 - 1 := by unfold moReq; rw [if_neg (by omega), if_neg h2]; exact ⟨rfl, rfl⟩
      exact Or.inr (Or.inr (Or.inr (Or.inr ⟨by omega, by omega, eB.1⟩)))
  · have eA : (bePq m t le).1 = -2 := by unfold bePq; rw [if_pos hc]
    have eB : (moReq m t le).2 7 0 0 = 1 := by unfold moReq; rw [if_pos (by omega)]; rfl
    exact Or.inr (Or.inl ⟨eA, eB⟩)
