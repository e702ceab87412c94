/-! class and reference: loads -/
theorem rl_n {m : zkM} (hR : rlC m) : (m 0 0 5).toNat = moN m := by unfold moN; rw [hR.1]
theorem rl_sh {m : zkM} (hR : rlC m) (hM : moA m) {k : Nat} (hk : k < moN m) : anSh (m 5 k 9) (m 5 k 5) = dDiv (moDe m k) (moPe m k) := by
  obtain ⟨-, q2, -, -, -, q6, -⟩ := hR.2.1 k hk
  have := moA_e1 hM hk
  unfold anSh
  rw [q2, q6, if_neg (by omega)]
theorem rl_sv {m : zkM} (hR : rlC m) (hs : 0 < m 7 0 6) : m 4 0 3 = 1 := by
  have := hR.2.2.2.1
  rw [if_pos hs] at this
  exact this
theorem rl_sn {m : zkM} (hR : rlC m) (hs : ¬ 0 < m 7 0 6) : ¬ m 4 0 3 = 1 := by
  have := hR.2.2.2.1
  rw [if_neg hs] at this
  omega
theorem rl_shs {m : zkM} (hR : rlC m) (hM : moA m) (hs : 0 < m 7 0 6) : anSh (m 4 0 5) (m 4 0 6) = dDiv (m 7 0 7) (m 7 0 8) := by
  obtain ⟨s1, s2, s3⟩ := hR.2.2.2.2.1 hs
  obtain ⟨-, -, -, -, -, g6, g7, g8, g9⟩ := hM
  have := g9 hs
  unfold anSh
  rw [s2, s3, if_neg (by omega)]
theorem rl_anLf {m : zkM} (hR : rlC m) (hM : moA m) {k : Nat} (hk : k < moN m) (s : UInt64) : anLf m k s = moLf m k s := by
  unfold anLf moLf
  rw [rl_sh hR hM hk]
theorem rl_anLflp {m : zkM} (hR : rlC m) (hM : moA m) {n : Nat} (hn : n ≤ moN m) : lp (anLf m) n FP.dconst0 = lp (moLf m) n FP.dconst0 := lp_cong (fun j s hj => rl_anLf hR hM (by omega) s) _
theorem rl_anL0 {m : zkM} (hR : rlC m) (hM : moA m) : anL0 m = moL0 m := by
  unfold anL0 moL0
  rw [rl_n hR]
  exact rl_anLflp hR hM (Nat.le_refl _)
theorem rl_anLd {m : zkM} (hR : rlC m) (hM : moA m) : anLd m = moLoad m := by
  unfold anLd moLoad
  rw [rl_anL0 hR hM]
  by_cases hs : 0 < m 7 0 6
  · rw [if_pos (rl_sv hR hs), if_pos hs, rl_shs hR hM hs]
  · rw [if_neg (rl_sn hR hs), if_neg hs]
theorem rl_anLok {m : zkM} (hR : rlC m) (hM : moA m) (h : moLok m) : anLok m := by
  obtain ⟨h1, h2⟩ := h
  refine ⟨fun j hj => ?_, fun hs => ?_⟩
  · rw [rl_n hR] at hj
    have h3 := h1 j hj
    have e := rl_sh hR hM hj
    refine ⟨fun _ => ?_, ?_⟩
    · rw [(hR.2.1 j hj).2.2.2.2.2.1, (hR.2.1 j hj).2.1]; exact h3.1
    · rw [rl_anLf hR hM hj, rl_anLflp hR hM (by omega)]; exact h3.2
  · have hs2 : 0 < m 7 0 6 := Decidable.by_contra (fun hc => rl_sn hR hc hs)
    have h3 := h2 hs2
    have e := rl_shs hR hM hs2
    obtain ⟨s1, s2, s3⟩ := hR.2.2.2.2.1 hs2
    refine ⟨fun _ => ?_, ?_⟩
    · rw [s2, s3]; exact h3.1
    · rw [e, rl_anL0 hR hM]; exact h3.2
theorem rl_anHf {m : zkM} (hR : rlC m) (hM : moA m) {k : Nat} (hk : k < moN m) (s : UInt64) : anHf m k s = moHfy m k s := by
  unfold anHf moHfy
  rw [rl_sh hR hM hk]
theorem rl_anHflp {m : zkM} (hR : rlC m) (hM : moA m) {n : Nat} (hn : n ≤ moN m) : lp (anHf m) n FP.dconst1 = lp (moHfy m) n FP.dconst1 := lp_cong (fun j s hj => rl_anHf hR hM (by omega) s) _
theorem rl_anH0 {m : zkM} (hR : rlC m) (hM : moA m) : anH0 m = moH0 m := by
  unfold anH0 moH0
  rw [rl_n hR]
  exact rl_anHflp hR hM (Nat.le_refl _)
theorem rl_anHy {m : zkM} (hR : rlC m) (hM : moA m) : anHy m = moHyp m := by
  unfold anHy moHyp
  rw [rl_anH0 hR hM]
  by_cases hs : 0 < m 7 0 6
  · rw [if_pos (rl_sv hR hs), if_pos hs, rl_shs hR hM hs]
  · rw [if_neg (rl_sn hR hs), if_neg hs]
theorem rl_anHok {m : zkM} (hR : rlC m) (hM : moA m) (h : moHok m) : anHok m := by
  obtain ⟨h1, h2⟩ := h
  refine ⟨fun j hj => ?_, fun hs => ?_⟩
  · rw [rl_n hR] at hj
    have h3 := h1 j hj
    have e := rl_sh hR hM hj
    refine ⟨fun _ => ?_, ?_⟩
    · rw [(hR.2.1 j hj).2.2.2.2.2.1, (hR.2.1 j hj).2.1]; exact h3.1
    · rw [e, rl_anHf hR hM hj, rl_anHflp hR hM (by omega)]; exact h3.2
  · have hs2 : 0 < m 7 0 6 := Decidable.by_contra (fun hc => rl_sn hR hc hs)
    have h3 := h2 hs2
    have e := rl_shs hR hM hs2
    obtain ⟨s1, s2, s3⟩ := hR.2.2.2.2.1 hs2
    refine ⟨fun _ => ?_, ?_⟩
    · rw [s2, s3]; exact h3.1
    · rw [e, rl_anH0 hR hM]; exact h3.2
