/-! class and reference: the answers of the configuring operations -/
/-- a refusal's number and the reference's word of it, or one answer -/
def agC (a : Int) (x : Int × zkM) (c1 c2 c3 c4 : Int) : Prop := (a = -1 ∧ x.2 7 0 0 = c1) ∨ (a = -2 ∧ x.2 7 0 0 = c2) ∨ (a = -3 ∧ x.2 7 0 0 = c3) ∨ (a = -4 ∧ x.2 7 0 0 = c4) ∨ (0 ≤ a ∧ a = x.1 ∧ x.2 7 0 0 = 0)
theorem b2i_1 (b : Bool) : b2i b = 1 ↔ b = true := by cases b <;> simp [b2i]
theorem rl_svp {m : zkM} (hR : rlC m) (hM : moA m) {p : Int} (hp : 1 ≤ p) : (m 4 0 3 = 1 ∧ m 4 0 4 = p) ↔ m 7 0 6 = p := by
  have h6 := hM.2.2.2.2.2.1
  by_cases hs : 0 < m 7 0 6
  · obtain ⟨s1, -⟩ := hR.2.2.2.2.1 hs
    have := rl_sv hR hs
    omega
  · have := rl_sn hR hs
    omega
theorem rl_put {m : zkM} (hR : rlC m) (hM : moA m) (p pe dl o : Int) : agC (bePt m p pe dl o).1 (moAddTask m p pe dl o) 0 1 2 3 := by
  have hn := hM.1
  have e1 := hR.1
  have e7 := hR.2.2.2.2.2.2
  by_cases hc : (1 ≤ p ∧ p ≤ 9) ∧ (1 ≤ pe ∧ pe ≤ 60) ∧ (1 ≤ dl ∧ dl ≤ pe) ∧ (0 ≤ o ∧ o ≤ 60)
  · by_cases h2 : m 7 0 11 ≠ 0 ∨ m 7 0 2 = 5
    · have eA : (bePt m p pe dl o).1 = -3 := by unfold bePt; rw [if_neg (fun h => h hc), if_pos (by omega)]
      have eB : (moAddTask m p pe dl o).2 7 0 0 = 2 := by unfold moAddTask; rw [if_neg (by omega), if_pos h2]; rfl
      exact Or.inr (Or.inr (Or.inl ⟨eA, eB⟩))
    · by_cases h3 : moTk m p = true ∨ m 7 0 6 = p
      · have eA : (bePt m p pe dl o).1 = -4 := by unfold bePt; rw [if_neg (fun h => h hc), if_neg (by omega), rl_tk hR p, if_pos (h3.imp (b2i_1 _).mpr (rl_svp hR hM hc.1.1).mpr)]
        have eB : (moAddTask m p pe dl o).2 7 0 0 = 3 := by unfold moAddTask; rw [if_neg (by omega), if_neg h2, if_pos h3]; rfl
        exact Or.inr (Or.inr (Or.inr (Or.inl ⟨eA, eB⟩)))
      · have eA : (bePt m p pe dl o).1 = m 0 0 5 + 1 - 1 := by unfold bePt; rw [if_neg (fun h => h hc), if_neg (by omega), rl_tk hR p, if_neg (fun h => h3 (h.imp (b2i_1 _).mp (rl_svp hR hM hc.1.1).mp))]
        have eB : (moAddTask m p pe dl o).2 7 0 0 = 0 ∧ (moAddTask m p pe dl o).1 = m 7 0 2 + 1 - 1 := by unfold moAddTask; rw [if_neg (by omega), if_neg h2, if_neg h3]; exact ⟨rfl, rfl⟩
        exact Or.inr (Or.inr (Or.inr (Or.inr ⟨by omega, by omega, eB.1⟩)))
  · have eA : (bePt m p pe dl o).1 = -2 := by unfold bePt; rw [if_pos hc]
    have eB : (moAddTask m p pe dl o).2 7 0 0 = 1 := by unfold moAddTask; rw [if_pos (by omega)]; rfl
    exact Or.inr (Or.inl ⟨eA, eB⟩)
theorem rl_seg {m : zkM} (hR : rlC m) (hM : moA m) (x r le : Int) : agC (bePg m x r le).1 (moAddSeg m x r le) 1 2 3 0 := by
  have hn := hM.1
  have e1 := hR.1
  have e7 := hR.2.2.2.2.2.2
  by_cases h0 : 0 ≤ x ∧ x ≤ m 7 0 2 - 1
  · have e8 := (hR.2.1 x.toNat (by unfold moN; omega)).2.2.2.2.1
    have hs := hM.2.1 x.toNat (by omega)
    by_cases hc : (-1 ≤ r ∧ r ≤ 3) ∧ (1 ≤ le ∧ le ≤ 9)
    · by_cases h2 : m 7 0 11 ≠ 0 ∨ m 31 0 x.toNat = 6
      · have eA : (bePg m x r le).1 = -3 := by unfold bePg; rw [if_neg (by omega), if_neg (fun h => h hc), if_pos (by omega)]
        have eB : (moAddSeg m x r le).2 7 0 0 = 3 := by unfold moAddSeg; rw [if_neg (fun h => h h0), if_neg (by omega), if_pos h2]; rfl
        exact Or.inr (Or.inr (Or.inl ⟨eA, eB⟩))
      · have eA : (bePg m x r le).1 = m 5 x.toNat 8 + 1 := by
          unfold bePg
          rw [if_neg (by omega), if_neg (fun h => h hc), if_neg (by omega)]
          split <;> rfl
        have eB : (moAddSeg m x r le).2 7 0 0 = 0 ∧ (moAddSeg m x r le).1 = m 31 0 x.toNat + 1 := by unfold moAddSeg; rw [if_neg (fun h => h h0), if_neg (by omega), if_neg h2]; exact ⟨rfl, rfl⟩
        exact Or.inr (Or.inr (Or.inr (Or.inr ⟨by omega, by omega, eB.1⟩)))
    · have eA : (bePg m x r le).1 = -2 := by unfold bePg; rw [if_neg (by omega), if_pos hc]
      have eB : (moAddSeg m x r le).2 7 0 0 = 2 := by unfold moAddSeg; rw [if_neg (fun h => h h0), if_pos (by omega)]; rfl
      exact Or.inr (Or.inl ⟨eA, eB⟩)
  · have eA : (bePg m x r le).1 = -1 := by unfold bePg; rw [if_pos (by omega)]
    have eB : (moAddSeg m x r le).2 7 0 0 = 1 := by unfold moAddSeg; rw [if_pos h0]; rfl
    exact Or.inl ⟨eA, eB⟩
theorem rl_pol {m : zkM} (hR : rlC m) (h0 : 0 ≤ m 7 0 1) (p : Int) : agC (bePp m p).1 (moSetP m p) 0 1 0 0 := by
  have e6 := hR.2.2.2.2.2.1
  unfold bePp moSetP
  by_cases h : 0 ≤ p ∧ p ≤ 2
  · rw [if_neg (fun g => g h), if_neg (fun g => g h)]
    exact Or.inr (Or.inr (Or.inr (Or.inr ⟨by dsimp only; omega, e6, rfl⟩)))
  · rw [if_pos h, if_pos h]
    exact Or.inr (Or.inl ⟨rfl, rfl⟩)
