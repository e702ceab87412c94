/-! the answers of the configuring calls, over two memories -/
theorem ag_put {a b : zkM} {T : Int} (h : sR a b T) (p pe dl o : Int) : ((bePt a p pe dl o).1 = -2 ∧ (moAddTask b p pe dl o).2 7 0 0 = 1) ∨ ((bePt a p pe dl o).1 = -3 ∧ (moAddTask b p pe dl o).2 7 0 0 = 2) ∨ ((bePt a p pe dl o).1 = -4 ∧ (moAddTask b p pe dl o).2 7 0 0 = 3) ∨ ((0 ≤ (bePt a p pe dl o).1 ∧ (bePt a p pe dl o).1 ≤ 12) ∧ (bePt a p pe dl o).1 = (moAddTask b p pe dl o).1 ∧ (moAddTask b p pe dl o).2 7 0 0 = 0) := by
  obtain ⟨⟨hK, hR, hB, hS, hQ, hN, hX, hO⟩, ha, hb, hT⟩ := id h
  have hn := kR_n hK
  have htk : (b2i (beTk a p) = 1 ∨ (a 4 0 3 = 1 ∧ a 4 0 4 = p)) ↔ (moTk b p = true ∨ (0 < b 7 0 6 ∧ b 7 0 6 = p)) := by
    rw [tk_eq hK, b2i_1]
    have k4 := hK.2.2.2.1
    by_cases h6 : 0 < b 7 0 6
    · have := k4.2 h6
      rw [if_pos h6] at k4
      rw [k4.1, this.1]
      constructor
      · rintro (g | g)
        · exact Or.inl g
        · exact Or.inr ⟨h6, g.2⟩
      · rintro (g | g)
        · exact Or.inl g
        · exact Or.inr ⟨rfl, g.2⟩
    · rw [if_neg h6] at k4
      rw [k4.1]
      constructor
      · rintro (g | g)
        · exact Or.inl g
        · exact absurd g.1 (by decide)
      · rintro (g | g)
        · exact Or.inl g
        · exact absurd g.1 h6
  by_cases h1 : (1 ≤ p ∧ p ≤ 9) ∧ (1 ≤ pe ∧ pe ≤ 60) ∧ (1 ≤ dl ∧ dl ≤ pe) ∧ (0 ≤ o ∧ o ≤ 60)
  · by_cases h2 : T = 0 ∧ b 7 0 2 < 5
    · by_cases h3 : moTk b p = true ∨ b 7 0 6 = p
      · have eA : (bePt a p pe dl o).1 = -4 := by
          unfold bePt
          rw [ha, if_neg (fun g => g h1), if_neg (by omega), if_pos (htk.mpr (h3.imp id (fun g => ⟨by omega, g⟩)))]
        have eB : (moAddTask b p pe dl o).2 = mset (mset b 7 0 0 0) 7 0 0 3 := by
          unfold moAddTask
          rw [hb, if_neg (by omega), if_neg (by omega), if_pos h3]
        rw [eA, eB, ms_s]
        exact Or.inr (Or.inr (Or.inl ⟨rfl, rfl⟩))
      · have eA : (bePt a p pe dl o).1 = a 0 0 5 + 1 - 1 := by
          unfold bePt
          rw [ha, if_neg (fun g => g h1), if_neg (by omega), if_neg (fun g => h3 ((htk.mp g).imp id (fun g => g.2)))]
        have eB : moAddTask b p pe dl o = (b 7 0 2 + 1 - 1, mset (mset (mset (mset (mset (mset (mset b 7 0 0 0) 30 0 (4 * moN b) p) 30 0 (4 * moN b + 1) pe) 30 0 (4 * moN b + 2) dl) 30 0 (4 * moN b + 3) o) 31 0 (moN b) 0) 7 0 2 (b 7 0 2 + 1)) := by
          unfold moAddTask
          rw [hb, if_neg (by omega), if_neg (by omega), if_neg h3]
        rw [eA, eB]
        refine Or.inr (Or.inr (Or.inr ⟨by omega, by dsimp only; omega, ?_⟩))
        simp [mset]
    · have eA : (bePt a p pe dl o).1 = -3 := by
        unfold bePt
        rw [ha, if_neg (fun g => g h1), if_pos (by omega)]
      have eB : (moAddTask b p pe dl o).2 = mset (mset b 7 0 0 0) 7 0 0 2 := by
        unfold moAddTask
        rw [hb, if_neg (by omega), if_pos (by omega)]
      rw [eA, eB, ms_s]
      exact Or.inr (Or.inl ⟨rfl, rfl⟩)
  · have eA : (bePt a p pe dl o).1 = -2 := by
      unfold bePt
      rw [ha, if_pos h1]
    have eB : (moAddTask b p pe dl o).2 = mset (mset b 7 0 0 0) 7 0 0 1 := by
      unfold moAddTask
      rw [hb, if_pos (by omega)]
    rw [eA, eB, ms_s]
    exact Or.inl ⟨rfl, rfl⟩
theorem ag_seg {a b : zkM} {T : Int} (h : sR a b T) (x r le : Int) : ((bePg a x r le).1 = -1 ∧ (moAddSeg b x r le).2 7 0 0 = 1) ∨ ((bePg a x r le).1 = -2 ∧ (moAddSeg b x r le).2 7 0 0 = 2) ∨ ((bePg a x r le).1 = -3 ∧ (moAddSeg b x r le).2 7 0 0 = 3) ∨ ((0 ≤ (bePg a x r le).1 ∧ (bePg a x r le).1 ≤ 12) ∧ (bePg a x r le).1 = (moAddSeg b x r le).1 ∧ (moAddSeg b x r le).2 7 0 0 = 0) := by
  obtain ⟨⟨hK, hR, hB, hS, hQ, hN, hX, hO⟩, ha, hb, hT⟩ := id h
  have hn := kR_n hK
  by_cases h0 : 0 ≤ x ∧ x ≤ b 7 0 2 - 1
  · have hxn : x.toNat < moN b := by unfold moN; omega
    have hCx := hK.2.1 x.toNat hxn
    have c8 := hCx.1.2.2.2.2.1
    have hm := hCx.2.1
    by_cases h1 : (-1 ≤ r ∧ r ≤ 3) ∧ (1 ≤ le ∧ le ≤ 9)
    · by_cases h2 : T = 0 ∧ b 31 0 x.toNat < 6
      · have eA : (bePg a x r le).1 = a 5 x.toNat 8 + 1 := by
          unfold bePg
          rw [ha, if_neg (by rw [hn.2.2.2.2]; omega), if_neg (by omega), if_neg (by omega)]
          split <;> rfl
        have eB : moAddSeg b x r le = (b 31 0 x.toNat + 1, mset (mset (mset (mset b 7 0 0 0) 32 0 (2 * (6 * x.toNat + moS b x.toNat)) r) 32 0 (2 * (6 * x.toNat + moS b x.toNat) + 1) le) 31 0 x.toNat (b 31 0 x.toNat + 1)) := by
          unfold moAddSeg
          rw [hb, if_neg (by omega), if_neg (by omega), if_neg (by omega)]
        rw [eA, eB]
        refine Or.inr (Or.inr (Or.inr ⟨by omega, by dsimp only; omega, ?_⟩))
        simp [mset]
      · have eA : (bePg a x r le).1 = -3 := by
          unfold bePg
          rw [ha, if_neg (by rw [hn.2.2.2.2]; omega), if_neg (by omega), if_pos (by omega)]
        have eB : (moAddSeg b x r le).2 = mset b 7 0 0 3 := by
          unfold moAddSeg
          rw [hb, if_neg (by omega), if_neg (by omega), if_pos (by omega)]
        rw [eA, eB, ms_s]
        exact Or.inr (Or.inr (Or.inl ⟨rfl, rfl⟩))
    · have eA : (bePg a x r le).1 = -2 := by
        unfold bePg
        rw [if_neg (by rw [hn.2.2.2.2]; omega), if_pos (by omega)]
      have eB : (moAddSeg b x r le).2 = mset b 7 0 0 2 := by
        unfold moAddSeg
        rw [if_neg (by omega), if_pos (by omega)]
      rw [eA, eB, ms_s]
      exact Or.inr (Or.inl ⟨rfl, rfl⟩)
  · have eA : (bePg a x r le).1 = -1 := by
      unfold bePg
      rw [if_pos (by rw [hn.2.2.2.2]; omega)]
    have eB : (moAddSeg b x r le).2 = mset b 7 0 0 1 := by
      unfold moAddSeg
      rw [if_pos h0]
    rw [eA, eB, ms_s]
    exact Or.inl ⟨rfl, rfl⟩
theorem ag_srv {a b : zkM} {T : Int} (h : sR a b T) (p bu pe : Int) : ((bePv a p bu pe).1 = -2 ∧ (moSetS b p bu pe).2 7 0 0 = 1) ∨ ((bePv a p bu pe).1 = -3 ∧ (moSetS b p bu pe).2 7 0 0 = 2) ∨ ((bePv a p bu pe).1 = -4 ∧ (moSetS b p bu pe).2 7 0 0 = 3) ∨ (((bePv a p bu pe).1 = 0 ∨ (bePv a p bu pe).1 = 1) ∧ (bePv a p bu pe).1 = b2i (moSetS b p bu pe).1 ∧ (moSetS b p bu pe).2 7 0 0 = 0) := by
  obtain ⟨⟨hK, hR, hB, hS, hQ, hN, hX, hO⟩, ha, hb, hT⟩ := id h
  have htk : b2i (beTk a p) = 1 ↔ moTk b p = true := by rw [tk_eq hK, b2i_1]
  by_cases h1 : (1 ≤ p ∧ p ≤ 9) ∧ (1 ≤ bu ∧ bu ≤ 9) ∧ (1 ≤ pe ∧ pe ≤ 60)
  · by_cases h2 : T = 0
    · by_cases h3 : moTk b p = true
      · have eA : (bePv a p bu pe).1 = -4 := by
          unfold bePv
          rw [ha, if_neg (fun g => g h1), if_neg (fun g => g h2), if_pos (htk.mpr h3)]
        have eB : (moSetS b p bu pe).2 = mset b 7 0 0 3 := by
          unfold moSetS
          rw [hb, if_neg (by omega), if_neg (fun g => g h2), if_pos h3]
        rw [eA, eB, ms_s]
        exact Or.inr (Or.inr (Or.inl ⟨rfl, rfl⟩))
      · have eA : (bePv a p bu pe).1 = if a 4 0 3 = 0 then 0 else 1 := by
          unfold bePv
          rw [ha, if_neg (fun g => g h1), if_neg (fun g => g h2), if_neg (fun g => h3 (htk.mp g))]
          split <;> rfl
        have eB : moSetS b p bu pe = (decide (0 < b 7 0 6), mset (mset (mset (mset (mset b 7 0 0 0) 7 0 6 p) 7 0 7 bu) 7 0 8 pe) 7 0 19 bu) := by
          unfold moSetS
          rw [hb, if_neg (by omega), if_neg (fun g => g h2), if_neg h3]
        rw [eA, eB]
        refine Or.inr (Or.inr (Or.inr ⟨by split <;> simp, ?_, by simp [mset]⟩))
        have k4 := hK.2.2.2.1.1
        rw [k4]
        by_cases h6 : 0 < b 7 0 6
        · simp [h6, b2i]
        · simp [h6, b2i]
    · have eA : (bePv a p bu pe).1 = -3 := by
        unfold bePv
        rw [ha, if_neg (fun g => g h1), if_pos h2]
      have eB : (moSetS b p bu pe).2 = mset b 7 0 0 2 := by
        unfold moSetS
        rw [hb, if_neg (by omega), if_pos h2]
      rw [eA, eB, ms_s]
      exact Or.inr (Or.inl ⟨rfl, rfl⟩)
  · have eA : (bePv a p bu pe).1 = -2 := by
      unfold bePv
      rw [ha, if_pos h1]
    have eB : (moSetS b p bu pe).2 = mset b 7 0 0 1 := by
      unfold moSetS
      rw [hb, if_pos (by omega)]
    rw [eA, eB, ms_s]
    exact Or.inl ⟨rfl, rfl⟩
theorem ag_req {a b : zkM} {T : Int} (h : sR a b T) (t le : Int) : ((bePq a t le).1 = -2 ∧ (moReq b t le).2 7 0 0 = 1) ∨ ((bePq a t le).1 = -3 ∧ (moReq b t le).2 7 0 0 = 2) ∨ ((0 ≤ (bePq a t le).1 ∧ (bePq a t le).1 ≤ 12) ∧ (bePq a t le).1 = (moReq b t le).1 ∧ (moReq b t le).2 7 0 0 = 0) := by
  obtain ⟨⟨hK, hR, hB, hS, hQ, hN, hX, hO⟩, ha, hb, hT⟩ := id h
  have q1 := hQ.1
  by_cases h1 : (0 ≤ t ∧ t ≤ 300) ∧ (1 ≤ le ∧ le ≤ 9) ∧ T ≤ t
  · by_cases h2 : b 7 0 9 = 12
    · have eA : (bePq a t le).1 = -3 := by
        unfold bePq
        rw [ha, if_neg (fun g => g h1), if_pos (by omega)]
      have eB : (moReq b t le).2 = mset (mset b 7 0 0 0) 7 0 0 2 := by
        unfold moReq
        rw [hb, if_neg (by omega), if_pos h2]
      rw [eA, eB, ms_s]
      exact Or.inr (Or.inl ⟨rfl, rfl⟩)
    · have eA : (bePq a t le).1 = a 3 0 4 + 1 - 1 := by
        unfold bePq rqAdd
        rw [ha, if_neg (fun g => g h1), if_neg (by omega), if_neg (by omega)]
      have eB : moReq b t le = (b 7 0 9 + 1 - 1, mset (mset (mset (mset (mset (mset b 7 0 0 0) 33 0 (2 * (b 7 0 9).toNat) t) 33 0 (2 * (b 7 0 9).toNat + 1) le) 41 0 (b 7 0 9).toNat le) 42 0 (b 7 0 9).toNat (-1)) 7 0 9 (b 7 0 9 + 1)) := by
        unfold moReq
        rw [hb, if_neg (by omega), if_neg h2]
      rw [eA, eB]
      refine Or.inr (Or.inr ⟨by omega, by dsimp only; omega, ?_⟩)
      simp [mset]
  · have eA : (bePq a t le).1 = -2 := by
      unfold bePq
      rw [ha, if_pos h1]
    have eB : (moReq b t le).2 = mset (mset b 7 0 0 0) 7 0 0 1 := by
      unfold moReq
      rw [hb, if_pos (by omega)]
    rw [eA, eB, ms_s]
    exact Or.inl ⟨rfl, rfl⟩
theorem ag_pol {a b : zkM} {T : Int} (h : sR a b T) (p : Int) : ((bePp a p).1 = -2 ∧ (moSetP b p).2 7 0 0 = 1) ∨ ((0 ≤ (bePp a p).1 ∧ (bePp a p).1 ≤ 12) ∧ (bePp a p).1 = (moSetP b p).1 ∧ (moSetP b p).2 7 0 0 = 0) := by
  have k1 := h.1.1.1
  unfold bePp moSetP
  by_cases hp : 0 ≤ p ∧ p ≤ 2
  · rw [if_neg (fun g => g hp), if_neg (fun g => g hp)]
    refine Or.inr ⟨by dsimp only; omega, by dsimp only; omega, ?_⟩
    simp [mset]
  · rw [if_pos hp, if_pos hp]
    exact Or.inl ⟨rfl, ms_s (mset b 7 0 0 0) 7 0 0 1⟩
/-! configure -/
def rR (a b : zkM) : Prop := (a 2 0 2 = b 7 0 28 ∧ 0 ≤ b 7 0 28 ∧ b 7 0 28 ≤ 60) ∧ (∀ k, k < 60 → a 23 0 k = b 44 0 k ∧ 0 ≤ b 44 0 k ∧ b 44 0 k ≤ 65535) ∧ (a 6 0 4 = b 7 0 32 ∧ -1 ≤ b 7 0 32 ∧ b 7 0 32 ≤ 60) ∧ (0 ≤ a 2 0 3 ∧ a 2 0 3 ≤ 4) ∧ (0 ≤ a 2 0 4 ∧ a 2 0 4 ≤ 60) ∧ (∀ k, k < 4 → inR (a 24 0 k)) ∧ (∀ k, k < 4 → -1 ≤ b 45 0 k ∧ b 45 0 k ≤ 999)
theorem X_eq {a b : zkM} (h : rR a b) : sgn (moCm1 b) = XC a := by
  funext x
  have e1 : moCm1 b 7 0 29 = b 7 0 28 := by unfold moCm1; simp [mset]
  have e2 : moCm1 b 44 = b 44 := rfl
  unfold sgn XC
  rw [e1, e2, h.1.1]
  by_cases hx : x < b 7 0 28
  · rw [if_pos hx, if_pos hx, (h.2.1 x.toNat (by have := h.1; omega)).1]
  · rw [if_neg hx, if_neg hx]
theorem XC_hi {a b : zkM} (x : Int) (hx : a 2 0 2 ≤ x) : XC a x = -1 := by
  unfold XC
  rw [if_neg (by omega)]
