/-! the memory at the start -/
def mem0 : zkM := fun t i k => if t = 6 ∧ k = 4 then -1 else if t = 7 ∧ k = 32 then -1 else 0
theorem m0_z {t : Nat} (h6 : t ≠ 6) (h7 : t ≠ 7) (i k : Nat) : mem0 t i k = 0 := by
  unfold mem0
  rw [if_neg (fun h => h6 h.1), if_neg (fun h => h7 h.1)]
theorem m0_7 {k : Nat} (h : k ≠ 32) (i : Nat) : mem0 7 i k = 0 := by
  unfold mem0
  rw [if_neg (by omega), if_neg (by omega)]
theorem m0_6 {k : Nat} (h : k ≠ 4) (i : Nat) : mem0 6 i k = 0 := by
  unfold mem0
  rw [if_neg (by omega), if_neg (by omega)]
theorem m0_N : moN mem0 = 0 := by
  unfold moN
  rw [m0_7 (by decide)]
  rfl
theorem m0_anA : anA mem0 := by
  unfold anA
  simp only [m0_z (show (0 : Nat) ≠ 6 by decide) (show (0 : Nat) ≠ 7 by decide), m0_z (show (5 : Nat) ≠ 6 by decide) (show (5 : Nat) ≠ 7 by decide), m0_z (show (19 : Nat) ≠ 6 by decide) (show (19 : Nat) ≠ 7 by decide), m0_z (show (20 : Nat) ≠ 6 by decide) (show (20 : Nat) ≠ 7 by decide), m0_z (show (17 : Nat) ≠ 6 by decide) (show (17 : Nat) ≠ 7 by decide), m0_z (show (4 : Nat) ≠ 6 by decide) (show (4 : Nat) ≠ 7 by decide)]
  refine ⟨by first | trivial | omega | simp, fun i hi => ⟨by first | trivial | omega | simp, fun k hk => by first | trivial | omega | simp⟩, fun k hk => by first | trivial | omega | simp, by first | trivial | omega | simp, by first | trivial | omega | simp, by first | trivial | omega | simp, by first | trivial | omega | simp⟩
theorem m0_moA : moA mem0 := by
  unfold moA moRe moLe
  simp only [m0_z (show (31 : Nat) ≠ 6 by decide) (show (31 : Nat) ≠ 7 by decide), m0_z (show (30 : Nat) ≠ 6 by decide) (show (30 : Nat) ≠ 7 by decide), m0_z (show (32 : Nat) ≠ 6 by decide) (show (32 : Nat) ≠ 7 by decide), m0_7 (show 2 ≠ 32 by decide), m0_7 (show 6 ≠ 32 by decide), m0_7 (show 7 ≠ 32 by decide), m0_7 (show 8 ≠ 32 by decide)]
  refine ⟨by first | trivial | omega | simp, fun i hi => by first | trivial | omega | simp, fun i hi => by first | trivial | omega | simp, fun i hi => by first | trivial | omega | simp, fun i k hi hk => by first | trivial | omega | simp, by first | trivial | omega | simp, by first | trivial | omega | simp, by first | trivial | omega | simp, by first | trivial | omega | simp⟩
theorem m0_kR : kR mem0 mem0 := by
  refine ⟨?_, fun i hi => ?_, fun r hr => ?_, ?_, m0_anA, m0_moA⟩
  · rw [m0_z (show (0 : Nat) ≠ 6 by decide) (by decide), m0_z (show (0 : Nat) ≠ 6 by decide) (by decide), m0_7 (by decide), m0_7 (by decide)]
    omega
  · rw [m0_N] at hi
    omega
  · rw [m0_z (show (17 : Nat) ≠ 6 by decide) (by decide)]
    unfold moCe
    rw [m0_N]
    rfl
  · rw [m0_z (show (4 : Nat) ≠ 6 by decide) (by decide), m0_7 (show 6 ≠ 32 by decide)]
    refine ⟨by rw [if_neg (by first | trivial | omega | simp)], fun h => by first | trivial | omega | simp⟩
theorem m0_sR : sR mem0 mem0 0 := by
  refine ⟨⟨m0_kR, fun i hi => ?_, fun i hi => ?_, ?_, ?_, ?_, ?_, fun i _ hi => ?_⟩, m0_z (by decide) (by decide) _ _, m0_7 (by decide) _, by decide, by decide⟩
  · rw [m0_N] at hi
    omega
  · unfold tB
    simp only [m0_z (show (21 : Nat) ≠ 6 by decide) (show (21 : Nat) ≠ 7 by decide), m0_z (show (35 : Nat) ≠ 6 by decide) (show (35 : Nat) ≠ 7 by decide), m0_z (show (1 : Nat) ≠ 6 by decide) (show (1 : Nat) ≠ 7 by decide), m0_z (show (5 : Nat) ≠ 6 by decide) (show (5 : Nat) ≠ 7 by decide), m0_z (show (36 : Nat) ≠ 6 by decide) (show (36 : Nat) ≠ 7 by decide), m0_z (show (37 : Nat) ≠ 6 by decide) (show (37 : Nat) ≠ 7 by decide), m0_z (show (38 : Nat) ≠ 6 by decide) (show (38 : Nat) ≠ 7 by decide)]
    refine ⟨fun k hk => by first | trivial | omega | simp, fun k hk => by first | trivial | omega | simp, by first | trivial | omega | simp, by first | trivial | omega | simp, by first | trivial | omega | simp, by first | trivial | omega | simp, by first | trivial | omega | simp, by first | trivial | omega | simp⟩
  · unfold sV
    simp only [m0_z (show (4 : Nat) ≠ 6 by decide) (show (4 : Nat) ≠ 7 by decide), m0_z (show (11 : Nat) ≠ 6 by decide) (show (11 : Nat) ≠ 7 by decide), m0_z (show (12 : Nat) ≠ 6 by decide) (show (12 : Nat) ≠ 7 by decide), m0_z (show (43 : Nat) ≠ 6 by decide) (show (43 : Nat) ≠ 7 by decide), m0_7 (show 20 ≠ 32 by decide), m0_7 (show 26 ≠ 32 by decide), m0_7 (show 21 ≠ 32 by decide), m0_7 (show 8 ≠ 32 by decide), m0_7 (show 6 ≠ 32 by decide), m0_7 (show 19 ≠ 32 by decide), m0_7 (show 22 ≠ 32 by decide), m0_7 (show 7 ≠ 32 by decide)]
    refine ⟨by first | trivial | omega | simp, by first | trivial | omega | simp, fun k hk => by first | trivial | omega | simp, fun k hk => by first | trivial | omega | simp, fun h => by first | trivial | omega | simp, by first | trivial | omega | simp, by first | trivial | omega | simp, by first | trivial | omega | simp, fun k hk => by first | trivial | omega | simp, fun k hk => by first | trivial | omega | simp, by first | trivial | omega | simp, by first | trivial | omega | simp, by first | trivial | omega | simp, by first | trivial | omega | simp, by first | trivial | omega | simp⟩
  · unfold qR
    simp only [m0_z (show (3 : Nat) ≠ 6 by decide) (show (3 : Nat) ≠ 7 by decide), m0_z (show (13 : Nat) ≠ 6 by decide) (show (13 : Nat) ≠ 7 by decide), m0_z (show (14 : Nat) ≠ 6 by decide) (show (14 : Nat) ≠ 7 by decide), m0_z (show (15 : Nat) ≠ 6 by decide) (show (15 : Nat) ≠ 7 by decide), m0_z (show (16 : Nat) ≠ 6 by decide) (show (16 : Nat) ≠ 7 by decide), m0_z (show (33 : Nat) ≠ 6 by decide) (show (33 : Nat) ≠ 7 by decide), m0_z (show (41 : Nat) ≠ 6 by decide) (show (41 : Nat) ≠ 7 by decide), m0_z (show (42 : Nat) ≠ 6 by decide) (show (42 : Nat) ≠ 7 by decide), m0_7 (show 9 ≠ 32 by decide)]
    refine ⟨by first | trivial | omega | simp, fun k hk => by first | trivial | omega | simp, fun k hk => by first | trivial | omega | simp, fun k hk => by first | trivial | omega | simp⟩
  · unfold nR
    simp only [m0_z (show (18 : Nat) ≠ 6 by decide) (show (18 : Nat) ≠ 7 by decide), m0_z (show (34 : Nat) ≠ 6 by decide) (show (34 : Nat) ≠ 7 by decide)]
    refine ⟨fun k hk => trivial, fun k hk => by first | trivial | omega | simp, fun k hk => by first | trivial | omega | simp⟩
  · intro i j hi
    rw [m0_z (show (0 : Nat) ≠ 6 by decide) (by decide)] at hi
    omega
  · unfold tO inR
    simp only [m0_z (show (36 : Nat) ≠ 6 by decide) (show (36 : Nat) ≠ 7 by decide), m0_z (show (37 : Nat) ≠ 6 by decide) (show (37 : Nat) ≠ 7 by decide), m0_z (show (38 : Nat) ≠ 6 by decide) (show (38 : Nat) ≠ 7 by decide), m0_z (show (40 : Nat) ≠ 6 by decide) (show (40 : Nat) ≠ 7 by decide), m0_z (show (39 : Nat) ≠ 6 by decide) (show (39 : Nat) ≠ 7 by decide), m0_z (show (5 : Nat) ≠ 6 by decide) (show (5 : Nat) ≠ 7 by decide), m0_z (show (22 : Nat) ≠ 6 by decide) (show (22 : Nat) ≠ 7 by decide)]
    refine ⟨by first | trivial | omega | simp, fun k hk => trivial, by first | trivial | omega | simp, by first | trivial | omega | simp⟩
theorem m0_inv : zInv mem0 := by
  refine ⟨⟨0, m0_sR⟩, ?_, ?_, ?_, ?_, ?_⟩
  · unfold rR inR
    have e4 : mem0 6 0 4 = -1 := rfl
    have e32 : mem0 7 0 32 = -1 := rfl
    simp only [m0_z (show (2 : Nat) ≠ 6 by decide) (show (2 : Nat) ≠ 7 by decide), m0_z (show (23 : Nat) ≠ 6 by decide) (show (23 : Nat) ≠ 7 by decide), m0_z (show (24 : Nat) ≠ 6 by decide) (show (24 : Nat) ≠ 7 by decide), m0_z (show (44 : Nat) ≠ 6 by decide) (show (44 : Nat) ≠ 7 by decide), m0_z (show (45 : Nat) ≠ 6 by decide) (show (45 : Nat) ≠ 7 by decide), m0_7 (show 28 ≠ 32 by decide), e4, e32]
    refine ⟨by first | trivial | omega | simp, fun k hk => by first | trivial | omega | simp, by first | trivial | omega | simp, by first | trivial | omega | simp, by first | trivial | omega | simp, fun k hk => by first | trivial | omega | simp, fun k hk => by first | trivial | omega | simp⟩
  · rw [m0_6 (by decide), m0_7 (by decide)]
    omega
  · rw [m0_6 (by decide)]
    intro h
    omega
  · simp only [m0_z (show (5 : Nat) ≠ 6 by decide) (show (5 : Nat) ≠ 7 by decide), m0_z (show (4 : Nat) ≠ 6 by decide) (show (4 : Nat) ≠ 7 by decide)]
    refine ⟨fun i hi => by first | trivial | omega | simp, by first | trivial | omega | simp, by first | trivial | omega | simp⟩
  · rw [m0_7 (by decide)]
    exact ⟨by decide, by decide⟩
