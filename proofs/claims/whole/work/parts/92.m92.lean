/-! restore, run, append, and the calls that are compared at once -/
theorem st_rstg {m g : zkM} {T : Int} (hg : gO (beCp m 0 1) g) (h : sR (kpt m) (kpt m) T) (h34 : m 7 0 34 ≠ 0) : sR (moRst g).2 (moRst g).2 T ∧ sR (kpt (moRst g).2) (kpt (moRst g).2) T ∧ beCp m 0 1 0 0 7 = T ∧ (moRst g).1 = T ∧ (moRst g).2 7 0 0 = 0 ∧ (∀ t i k, ¬ LM t i → t ≠ 46 → (moRst g).2 t i k = g t i k) ∧ (∀ k, 28 ≤ k → k ≠ 36 → k ≠ 37 → (moRst g).2 7 0 k = m 7 0 k) ∧ (∀ t k, t = 44 ∨ t = 45 → (moRst g).2 t 0 k = m t 0 k) := by
  obtain ⟨c1, c2, c3⟩ := beCp_at (m := m) (A := 0) (B := 1) (Or.inl ⟨rfl, rfl⟩)
  have k0 := rst_go (m := mset g 7 0 0 0)
  have cg : ∀ t i k, t ≠ 50 → t ≠ 51 → g t i k = beCp m 0 1 t i k := hg
  have e34 : g 7 0 34 = m 7 0 34 := (cg 7 0 34 (by decide) (by decide)).trans (c3 7 0 34 (by omega))
  have eb : moRst g = (psA26 (mset g 7 0 0 0) 1 7 0 11, psA26 (mset g 7 0 0 0) 1) := by
    unfold moRst
    rw [if_neg (by rw [e34]; exact h34)]
  rw [eb]
  simp only
  generalize psA26 (mset g 7 0 0 0) 1 = mb at *
  obtain ⟨k1, k2, k3, k4⟩ := k0
  have hcl0 : ∀ t i k, ¬ LM t i → t ≠ 46 → mb t i k = g t i k := by
    intro t i k hn h46
    rw [k1 t i k h46 (by omega)]
    rw [if_neg]
    · simp only [mset]
      rw [if_neg (by omega), if_neg (by omega)]
    · rintro ⟨rfl, gg⟩
      have := kpos_t gg
      omega
  have hcl : ∀ t i k, ¬ LM t i → t ≠ 46 → t ≠ 50 → t ≠ 51 → mb t i k = beCp m 0 1 t i k := fun t i k h1 h2 h3 h4 => (hcl0 t i k h1 h2).trans (cg t i k h3 h4)
  have h46 : ∀ x, mb 46 0 x = m 46 0 x := by
    intro x
    rw [k4, ms_t (by decide), ms_t (by decide), cg 46 0 x (by decide) (by decide)]
    exact c3 46 0 x (by omega)
  have hmk : ∀ t k, kpos t k < 3400 → mb t 0 k = m 46 0 (kpos t k) := by
    intro t k hk
    have hh := kpos_t hk
    have n36 : ¬ (t = 7 ∧ (0 : Nat) = 0 ∧ k = 36) := by
      rintro ⟨rfl, -, rfl⟩
      exact absurd hk (by decide)
    rw [k1 t 0 k (by omega) n36, if_pos ⟨rfl, hk⟩, ms_t (by decide), ms_t (by decide), cg 46 0 _ (by decide) (by decide)]
    exact c3 46 0 _ (by omega)
  have L1 : lw (kpt m) mb := by
    intro t i k hL hk
    rw [kpt_c hL hk, hcl t i k (by omega) (by omega) (by omega) (by omega)]
    by_cases hT : tgT t
    · rw [if_pos hT]
      have := c2 t i k hT (by omega) hk
      rw [Nat.mul_one, Nat.mul_zero, Nat.zero_add] at this
      rw [Nat.add_comm i 5]
      exact this
    · rw [if_neg hT]
      have hi0 : i = 0 := by omega
      rw [hi0]
      exact c1 t k (by omega) hk
  have X1 : lx (kpt m) mb := by
    intro t k hk
    rw [kpt_m hk, hmk t k hk]
  have S1 : sR mb mb T := sR_lw L1 X1 h
  have L2 : lw (kpt m) (kpt mb) := by
    intro t i k hL hk
    rw [kpt_c hL hk, kpt_c hL hk]
    by_cases hT : tgT t
    · rw [if_pos hT, if_pos hT, hcl t _ k (by omega) (by omega) (by omega) (by omega)]
      exact c3 t _ k (by omega)
    · rw [if_neg hT, if_neg hT, hcl t _ k (by omega) (by omega) (by omega) (by omega)]
      exact c3 t 1 k (by omega)
  have X2 : lx (kpt m) (kpt mb) := by
    intro t k hk
    rw [kpt_m hk, kpt_m hk, h46]
  refine ⟨S1, sR_lw L2 X2 h, ?_, ?_, ?_, hcl0, ?_, ?_⟩
  · rw [← hcl 0 0 7 (by omega) (by decide) (by decide) (by decide)]; exact S1.2.1
  · exact S1.2.2.1
  · rw [k1 7 0 0 (by decide) (by decide), if_neg (by decide), ms_k (by decide), ms_s]
  · intro k h28 n36 n37
    have hk : ¬ kpos 7 k < 3400 := by
      intro gg
      have := kcel_pos gg
      have h2 : (kcel (kpos 7 k)).2 ≤ 26 := by
        have hlt : kpos 7 k < 12 := by
          unfold kpos at gg ⊢
          simp only at gg ⊢
          split at gg <;> first | decide | omega
        unfold kcel
        rw [if_pos hlt]
        have : kpos 7 k = 0 ∨ kpos 7 k = 1 ∨ kpos 7 k = 2 ∨ kpos 7 k = 3 ∨ kpos 7 k = 4 ∨ kpos 7 k = 5 ∨ kpos 7 k = 6 ∨ kpos 7 k = 7 ∨ kpos 7 k = 8 ∨ kpos 7 k = 9 ∨ kpos 7 k = 10 ∨ kpos 7 k = 11 := by omega
        rcases this with e | e | e | e | e | e | e | e | e | e | e | e <;> rw [e] <;> decide
      rw [this] at h2
      omega
    rw [k1 7 0 k (by decide) (by omega), if_neg (fun g => hk g.2), ms_k n37, ms_k (by omega), cg 7 0 k (by decide) (by decide)]
    exact c3 7 0 k (by omega)
  · intro t k ht
    have hk : ¬ kpos t k < 3400 := by
      intro gg
      have := kpos_t gg
      omega
    rw [k1 t 0 k (by omega) (by omega), if_neg (fun g => hk g.2), ms_t (by omega), ms_t (by omega), cg t 0 k (by omega) (by omega)]
    exact c3 t 0 k (by omega)

/-! the word of the call stays through a unit -/
theorem z0_m {m : zkM} {t i k : Nat} {x : Int} (h : t ≠ 7 ∨ k ≠ 0) : mset m t i k x 7 0 0 = m 7 0 0 := by
  unfold mset
  rw [if_neg (by omega)]
theorem z0_unit (b : zkM) : (moUnit b).2 7 0 0 = b 7 0 0 := by
  have h1 : moRepl b 7 0 0 = b 7 0 0 := by
    unfold moRepl
    rw [z0_m (by omega)]
    refine lp_inv (fun _ (s : Nat × zkM) => s.2 7 0 0 = b 7 0 0) moF1 _ (0, b) rfl (fun j s _ hs => ?_)
    unfold moF1
    split
    · dsimp only
      rw [z0_m (by omega)]; exact hs
    · dsimp only
      rw [z0_m (by omega), z0_m (by omega)]; exact hs
  have h2 : ∀ c, moRel c 7 0 0 = c 7 0 0 := by
    intro c
    unfold moRel
    refine lp_inv (fun _ (s : zkM) => s 7 0 0 = c 7 0 0) moF2 _ c rfl (fun j s _ hs => ?_)
    unfold moF2
    split
    · split
      · rw [z0_m (by omega), z0_m (by omega)]; exact hs
      · rw [z0_m (by omega), z0_m (by omega)]; exact hs
    · exact hs
  have hTJ : ∀ (c : zkM) (t ix : Nat), moTJ c t ix 7 0 0 = c 7 0 0 := by
    intro c t ix
    unfold moTJ moTJ2
    rw [z0_m (by omega)]
    refine lp_inv (fun _ (s : zkM) => s 7 0 0 = c 7 0 0) (moF3 t ix) _ _ (z0_m (by omega)) (fun j s _ hs => ?_)
    unfold moF3
    rw [z0_m (by omega)]; exact hs
  have h3 : ∀ c, moMeet c 7 0 0 = c 7 0 0 := by
    intro c
    unfold moMeet
    refine lp_inv (fun _ (s : zkM) => s 7 0 0 = c 7 0 0) moF5 _ c rfl (fun j s _ hs => ?_)
    rw [← hs]
    unfold moF5
    refine lp_inv (fun _ (s' : zkM) => s' 7 0 0 = s 7 0 0) (moF4 j _) _ s rfl (fun j' s' _ hs' => ?_)
    rw [← hs']
    unfold moF4 moMf
    split
    · split
      · unfold moM2 moM1
        rw [hTJ, z0_m (by omega), z0_m (by omega), z0_m (by omega)]
      · unfold moM1
        rw [z0_m (by omega), z0_m (by omega)]
    · rfl
  have h4 : moS4 b 7 0 0 = b 7 0 0 := by
    unfold moS4
    rw [z0_m (by omega)]
    have : ∀ c x, moPre c x 7 0 0 = c 7 0 0 := by
      intro c x
      unfold moPre
      split
      · rw [z0_m (by omega)]
      · rfl
    rw [this]
    unfold moS3
    rw [h3, h2, h1]
  have h5 : (moS5 b).2 7 0 0 = b 7 0 0 := by
    unfold moS5
    split
    · rw [← h4]
      unfold moServe moV3 moV2 moV1
      dsimp only
      rw [z0_m (by omega), z0_m (by omega), z0_m (by omega), z0_m (by omega)]
      split
      · rw [z0_m (by omega), z0_m (by omega), z0_m (by omega)]
      · rfl
    · split
      · exact h4
      · rw [← h4]
        unfold moRJ
        split
        · unfold moJ1
          dsimp only
          rw [z0_m (by omega)]
        · show moTJ _ _ _ 7 0 0 = _
          rw [hTJ]
          unfold moJ4 moJ3 moJ2 moJ1
          rw [z0_m (by omega), z0_m (by omega), z0_m (by omega), z0_m (by omega)]
  have h6 : moS6 b 7 0 0 = b 7 0 0 := by
    unfold moS6
    rw [z0_m (by omega)]
    exact h5
  show moEB (moS6 b) 7 0 0 = _
  unfold moEB
  split
  · rw [z0_m (by omega), z0_m (by omega), z0_m (by omega), z0_m (by omega)]; exact h6
  · exact h6
theorem z0_units (b : zkM) : ∀ j : Nat, (lp moUf1 j (0, b)).2 7 0 0 = b 7 0 0
  | 0 => rfl
  | j + 1 => by
    show (moUnit (lp moUf1 j (0, b)).2).2 7 0 0 = _
    rw [z0_unit, z0_units b j]
theorem op_run {m : zkM} (hI : zInv m) (u : Int) : ∃ (g : zkM) (c : Int), ((∃ v : Int, (caRun m u).1 = Sum.inl (some (vi v)) ∧ inR v ∧ c = 0 ∧ g = mset (caRun m u).2 50 0 0 v) ∨ ((caRun m u).1 = Sum.inr xIA ∧ c = 1 ∧ g = (caRun m u).2) ∨ ((caRun m u).1 = Sum.inr xIS ∧ c = 2 ∧ g = (caRun m u).2)) ∧ opC m g (moRun g u).2 (moRun g u).1 c ∧ (1 ≤ u ∧ u ≤ 100 → m 0 0 7 + u ≤ 400 → ∀ j : Nat, (j : Int) < u → beOk (lp beMs j (0, m)).2) ∧ (1 ≤ u ∧ u ≤ 100 → ¬ 400 < g 7 0 11 + u → ∀ j, j < u.toNat → moOk (lp moUf1 j (0, mset g 7 0 0 0)).2) := by
  obtain ⟨T, hT⟩ := hI.1
  have hn := aq_n hT
  have h7 := hT.2
  have hc := cf_run (a := m) (by omega) u
  have hpre : ∀ g, lm m g → (1 ≤ u ∧ u ≤ 100 → ¬ 400 < g 7 0 11 + u → ∀ j, j < u.toNat → moOk (lp moUf1 j (0, mset g 7 0 0 0)).2) := by
    intro g hg h1 h2 j hj
    have hs := sR_thr (x := 0) (sR_lv (lv_r m) hg hT)
    have := st_units hs u.toNat (by rw [hg.1 11 (by decide) (by decide)] at h2; omega)
    exact (this.2.2 j hj).2
  have hpreA : 1 ≤ u ∧ u ≤ 100 → m 0 0 7 + u ≤ 400 → ∀ j : Nat, (j : Int) < u → beOk (lp beMs j (0, m)).2 := by
    intro h1 h2 j hj
    have := st_units hT u.toNat (by omega)
    exact (this.2.2 j (by omega)).1
  by_cases k0 : 1 ≤ u ∧ u ≤ 100
  · by_cases k1 : m 0 0 7 + u ≤ 400
    · have eA : caRun m u = (Sum.inl (some (vi (beMks m u).1)), (beMks m u).2) := by
        unfold caRun
        rw [if_neg (fun h => h k0), if_neg (by omega)]
      have ef : (caRun m u).2 = (lp beMs u.toNat (0, m)).2 := by rw [eA]; rfl
      have hg := gO_50 (caRun m u).2 (beMks m u).1
      have hlm := fr_g hc hg
      generalize hge : mset (caRun m u).2 50 0 0 (beMks m u).1 = g at *
      have hs := sR_thr (x := 0) (sR_lv (lv_r m) hlm hT)
      obtain ⟨⟨u1, u2⟩, u3, -⟩ := st_units hs u.toNat (by omega)
      have eB : moRun g u = lp moUf1 u.toNat (0, mset g 7 0 0 0) := by
        unfold moRun
        rw [if_neg (fun h => h k0), if_neg (by rw [hlm.1 11 (by decide) (by decide)]; omega)]
      have ev : (beMks m u).1 = (lp beMs u.toNat (0, m)).1 := rfl
      have g50 : g 50 0 0 = (beMks m u).1 := by rw [← hge, ms_s]
      refine ⟨g, 0, Or.inl ⟨(beMks m u).1, by rw [eA], by rw [ev]; unfold inR; omega, rfl, hge.symm⟩, opC_of hI hT hc hg (mf_moRun g u) ⟨T + u.toNat, by rw [ef, eB]; exact u3⟩ (by rw [eB, z0_units, ms_s]) (by omega) (fun _ => ⟨by rw [g50, eB, ev]; exact u1, by rw [eB, ← u1]; unfold inR; omega⟩), hpreA, hpre g hlm⟩
    · have eA : caRun m u = (Sum.inr xIS, m) := by
        unfold caRun
        rw [if_neg (fun h => h k0), if_pos (by omega)]
      have eB : (moRun m u).2 = mset (mset m 7 0 0 0) 7 0 0 2 := by
        unfold moRun
        rw [if_neg (fun h => h k0), if_pos (by omega)]
      rw [eA]
      refine ⟨m, 2, Or.inr (Or.inr ⟨rfl, rfl, rfl⟩), ?_, hpreA, hpre m (lm_r m)⟩
      rw [eB]
      exact opC_q hI hT (gO_r m) (qf_2 m 0 2) (by simp [mset]) (by omega) (fun h => absurd h (by decide))
  · have eA : caRun m u = (Sum.inr xIA, m) := by
      unfold caRun
      rw [if_pos k0]
    have eB : (moRun m u).2 = mset (mset m 7 0 0 0) 7 0 0 1 := by
      unfold moRun
      rw [if_pos k0]
    rw [eA]
    refine ⟨m, 1, Or.inr (Or.inl ⟨rfl, rfl, rfl⟩), ?_, hpreA, hpre m (lm_r m)⟩
    rw [eB]
    exact opC_q hI hT (gO_r m) (qf_2 m 0 1) (by simp [mset]) (by omega) (fun h => absurd h (by decide))
/-! the calls that are compared at once -/
theorem op_clear {m : zkM} (hI : zInv m) : (beRm m).1 = (moClear (beRm m).2).1 ∧ inR (beRm m).1 ∧ zInv (moClear (beRm m).2).2 := by
  obtain ⟨T, hT⟩ := hI.1
  have hn := aq_n hT
  have hc := cf_beRm (a := m) (by omega)
  have h1 := sR_lv (lv_r m) (fr_g hc (gO_r _)) hT
  obtain ⟨s1, s2⟩ := st_clear h1
  refine ⟨s1, by show inR (m 0 0 5); unfold inR; omega, zInv_fin hI hc (gO_r _) (mf_moClear _) ⟨0, s2⟩ ?_⟩
  have : (moClear (beRm m).2).2 7 0 0 = 0 := by
    rw [show (moClear (beRm m).2).2 = moRs (mset (mset (mset (mset (mset (mset (beRm m).2 7 0 0 0) 7 0 1 0) 7 0 2 0) 7 0 6 0) 7 0 7 0) 7 0 9 0) from rfl, (moRs_at _).2.1 0]
    simp [mset]
  rw [this]; decide
theorem op_rewind {m : zkM} (hI : zInv m) : (beSt m).1 = (moRew (beSt m).2).1 ∧ inR (beSt m).1 ∧ zInv (moRew (beSt m).2).2 := by
  obtain ⟨T, hT⟩ := hI.1
  have hn := aq_n hT
  have h7 := hT.2
  have hc := cf_beSt (a := m) (by omega)
  have hl := fr_g hc (gO_r _)
  have h1 := sR_lv (lv_r m) hl hT
  refine ⟨?_, by show inR (m 0 0 7); unfold inR; omega, zInv_fin hI hc (gO_r _) (mf_t (mf_m (mf_r _) (by omega)) (mf_moRs _)) ⟨0, st_rew (sR_thr h1)⟩ ?_⟩
  · show m 0 0 7 = (beSt m).2 7 0 11
    rw [hl.1 11 (by decide) (by decide)]; omega
  · have : (moRew (beSt m).2).2 7 0 0 = 0 := by
      rw [show (moRew (beSt m).2).2 = moRs (mset (beSt m).2 7 0 0 0) from rfl, (moRs_at _).2.1 0]
      simp [mset]
    rw [this]; decide
theorem op_thr {m : zkM} (hI : zInv m) : zInv (mset m 7 0 0 0) := by
  obtain ⟨T, hT⟩ := hI.1
  exact zInv_fin hI (cf_r m) (gO_r m) (mf_m (mf_r m) (by omega)) ⟨T, sR_thr hT⟩ (by rw [ms_s]; decide)
theorem op_count {m : zkM} (hI : zInv m) : m 0 0 5 = m 7 0 2 ∧ inR (m 0 0 5) := by
  obtain ⟨T, hT⟩ := hI.1
  have := aq_n hT
  unfold inR; omega
theorem op_clock {m : zkM} (hI : zInv m) : m 0 0 7 = m 7 0 11 ∧ inR (m 0 0 7) := by
  obtain ⟨T, hT⟩ := hI.1
  have := hT.2
  unfold inR; omega
theorem op_sched {m : zkM} (hI : zInv m) : anMd m = moSch m := by
  obtain ⟨T, hT⟩ := hI.1
  exact aq_sch hT
theorem op_snap {m : zkM} (hI : zInv m) : (caSnp m).1 = (moSnp (caSnp m).2).1 ∧ inR (caSnp m).1 ∧ zInv (moSnp (caSnp m).2).2 := by
  obtain ⟨⟨T, hT⟩, hr, hk, hkp, hb, -⟩ := hI
  obtain ⟨s1, s2, s3, s4, s5, s6, s7, s8, s9⟩ := st_snap hT
  have h7 := hT.2
  obtain ⟨c1, c2, c3⟩ := beCp_at (m := m) (A := 1) (B := 0) (Or.inr ⟨rfl, rfl⟩)
  have ea : (caSnp m).2 = mset (beCp m 1 0) 6 0 3 1 := rfl
  have e : ∀ t i k, ¬ LM t i → t ≠ 46 → ¬ tgS t → ¬ tgT t → ¬ (t = 6 ∧ i = 0 ∧ k = 3) → (moSnp (caSnp m).2).2 t i k = m t i k := by
    intro t i k h1 h2 h3 h4 h5
    rw [s7 t i k h1 h2, ea]
    simp only [mset]
    rw [if_neg h5, c3 t i k (by omega)]
  refine ⟨by rw [s3, s4], by rw [s3]; unfold inR; omega, ⟨T, s1⟩, ?_, ⟨by rw [s5, s6], Or.inr s5⟩, fun _ => ⟨T, s2⟩, ⟨fun i hi => ?_, ?_, ?_⟩, ?_⟩
  · obtain ⟨r1, r2, r3, r4, r5, r6, r7⟩ := hr
    unfold rR
    rw [e 2 0 2 (by omega) (by decide) (by omega) (by omega) (by omega), s8 28 (by decide) (by decide) (by decide) (by decide), e 6 0 4 (by omega) (by decide) (by omega) (by omega) (by omega), s8 32 (by decide) (by decide) (by decide) (by decide), e 2 0 3 (by omega) (by decide) (by omega) (by omega) (by omega), e 2 0 4 (by omega) (by decide) (by omega) (by omega) (by omega)]
    refine ⟨r1, fun k hk => ?_, r3, r4, r5, fun k hk => ?_, fun k hk => ?_⟩
    · rw [e 23 0 k (by omega) (by decide) (by omega) (by omega) (by omega), s9 44 k (by decide) (by decide)]; exact r2 k hk
    · rw [e 24 0 k (by omega) (by decide) (by omega) (by omega) (by omega)]; exact r6 k hk
    · rw [s9 45 k (by decide) (by decide)]; exact r7 k hk
  · rw [s7 5 _ 11 (by omega) (by decide), ea, ms_t (by decide)]
    have := c2 5 i 11 (by omega) hi (by omega)
    rw [this]
    have hi0 : 5 * 0 + i = i := by omega
    rw [hi0]
    by_cases hin : i < moN m
    · have := (hT.1.2.1 i hin).2.2.2.1
      omega
    · exact (hT.1.2.2.2.2.2.2.2 i (by omega) hi).2.2.1
  · rw [s7 4 1 3 (by omega) (by decide), ea, ms_t (by decide), c1 4 3 (by omega) (by omega)]
    exact hT.1.1.2.2.2.2.1.2.2.2.1
  · rw [s7 4 1 8 (by omega) (by decide), ea, ms_t (by decide), c1 4 8 (by omega) (by omega)]
    have := hT.1.2.2.2.1.1
    omega
  · have : (moSnp (caSnp m).2).2 7 0 0 = 0 := by
      have k0 := snp_go (m := mset (mset (caSnp m).2 7 0 0 0) 7 0 34 1)
      have := k0.1 7 0 0 (by decide) (by decide)
      rw [show (moSnp (caSnp m).2).2 = psA26 (mset (mset (caSnp m).2 7 0 0 0) 7 0 34 1) 0 from rfl, this]
      simp [mset]
    rw [this]; decide
theorem op_restore {m : zkM} (hI : zInv m) : ∃ (g : zkM) (c : Int), ((∃ v : Int, (caRst m).1 = Sum.inl (some (vi v)) ∧ inR v ∧ c = 0 ∧ g = mset (caRst m).2 50 0 0 v) ∨ ((caRst m).1 = Sum.inr xIS ∧ c = 1 ∧ g = (caRst m).2)) ∧ ((moRst g).2 7 0 0 = c ∧ inR c) ∧ (c = 0 → (moRst g).2 50 0 0 = (moRst g).1 ∧ inR (moRst g).1) ∧ zInv (moRst g).2 ∧ (g 7 0 34 = 0 ∨ g 7 0 34 = 1) := by
  obtain ⟨⟨T, hT⟩, hr, hk, hkp, hb, -⟩ := id hI
  by_cases k0 : m 6 0 3 = 0
  · have eA : caRst m = (Sum.inr xIS, m) := by unfold caRst; rw [if_pos k0]
    have eB : (moRst m).2 = mset (mset m 7 0 0 0) 7 0 0 1 := by unfold moRst; rw [if_pos (by omega)]
    rw [eA]
    refine ⟨m, 1, Or.inr ⟨rfl, rfl, rfl⟩, ⟨by rw [eB, ms_s], by decide⟩, fun h => absurd h (by decide), ?_, by omega⟩
    rw [eB]
    exact (opC_q (ans := 0) (c := 1) hI hT (gO_r m) (qf_2 m 0 1) (by simp [mset]) (by omega) (fun h => absurd h (by decide))).2.2.1
  · have h3 : m 6 0 3 = 1 := by omega
    obtain ⟨T', hT'⟩ := hkp h3
    obtain ⟨c1, c2, c3⟩ := beCp_at (m := m) (A := 0) (B := 1) (Or.inl ⟨rfl, rfl⟩)
    have eA : caRst m = (Sum.inl (some (vi (beCp m 0 1 0 0 7))), beCp m 0 1) := by unfold caRst; rw [if_neg k0]
    have hg := gO_50 (beCp m 0 1) (beCp m 0 1 0 0 7)
    obtain ⟨s1, s2, s3, s4, s5, s6, s7, s8⟩ := st_rstg hg hT' (by omega)
    have h7 := s1.2.2.2
    rw [eA]
    have e50 : (moRst (mset (beCp m 0 1) 50 0 0 (beCp m 0 1 0 0 7))).2 50 0 0 = T' := by rw [s6 50 0 0 (by omega) (by decide), ms_s, s3]
    have e : ∀ t i k, ¬ LM t i → t ≠ 46 → t ≠ 50 → t ≠ 51 → (¬ tgS t ∧ ¬ tgT t) ∨ (tgS t ∧ i ≠ 0) ∨ (tgT t ∧ 5 ≤ i) → (moRst (mset (beCp m 0 1) 50 0 0 (beCp m 0 1 0 0 7))).2 t i k = m t i k := by
      intro t i k h1 h2 h3 h4 h5
      rw [s6 t i k h1 h2, ms_t h3]
      exact c3 t i k (by omega)
    refine ⟨_, 0, Or.inl ⟨beCp m 0 1 0 0 7, rfl, by rw [s3]; unfold inR; omega, rfl, rfl⟩, ⟨s5, by decide⟩, fun _ => ⟨by rw [e50, s4], by rw [s4]; unfold inR; omega⟩, ⟨⟨T', s1⟩, ?_, ?_, fun _ => ⟨T', s2⟩, ⟨fun i hi => ?_, ?_, ?_⟩, by rw [s5]; decide⟩, ?_⟩
    · obtain ⟨r1, r2, r3, r4, r5, r6, r7⟩ := hr
      unfold rR
      rw [e 2 0 2 (by omega) (by decide) (by decide) (by decide) (by omega), s7 28 (by decide) (by decide) (by decide), e 6 0 4 (by omega) (by decide) (by decide) (by decide) (by omega), s7 32 (by decide) (by decide) (by decide), e 2 0 3 (by omega) (by decide) (by decide) (by decide) (by omega), e 2 0 4 (by omega) (by decide) (by decide) (by decide) (by omega)]
      refine ⟨r1, fun k hk => ?_, r3, r4, r5, fun k hk => ?_, fun k hk => ?_⟩
      · rw [e 23 0 k (by omega) (by decide) (by decide) (by decide) (by omega), s8 44 k (by omega)]; exact r2 k hk
      · rw [e 24 0 k (by omega) (by decide) (by decide) (by decide) (by omega)]; exact r6 k hk
      · rw [s8 45 k (by omega)]; exact r7 k hk
    · rw [e 6 0 3 (by omega) (by decide) (by decide) (by decide) (by omega), s7 34 (by decide) (by decide) (by decide)]; exact hk
    · rw [e 5 _ 11 (by omega) (by decide) (by decide) (by decide) (by omega)]; exact hb.1 i hi
    · rw [e 4 1 3 (by omega) (by decide) (by decide) (by decide) (by omega)]; exact hb.2.1
    · rw [e 4 1 8 (by omega) (by decide) (by decide) (by decide) (by omega)]; exact hb.2.2
    · rw [ms_t (by decide)]
      dsimp only
      rw [c3 7 0 34 (by omega)]; omega
theorem op_append {m : zkM} (hI : zInv m) {x : Int} (hx : 0 ≤ x ∧ x < 65536) : ∃ (g : zkM) (c : Int), ((∃ v : Int, (caApp m x).1 = Sum.inl (some (vi v)) ∧ inR v ∧ c = 0 ∧ g = mset (caApp m x).2 50 0 0 v) ∨ ((caApp m x).1 = Sum.inr xIA ∧ c = 1 ∧ g = (caApp m x).2) ∨ ((caApp m x).1 = Sum.inr xIS ∧ c = 2 ∧ g = (caApp m x).2)) ∧ ((moApp g x).2 7 0 0 = c ∧ inR c) ∧ (c = 0 → (moApp g x).2 50 0 0 = (moApp g x).1 ∧ inR (moApp g x).1) ∧ zInv (moApp g x).2 ∧ (0 ≤ g 7 0 28 ∧ g 7 0 28 ≤ 60) := by
  obtain ⟨⟨T, hT⟩, hr, hk, hkp, hb, -⟩ := id hI
  obtain ⟨r1, r2, r3, r4, r5, r6, r7⟩ := id hr
  by_cases k0 : 32 ≤ x ∧ x ≤ 126
  · by_cases k1 : 60 ≤ m 2 0 2
    · have eA : caApp m x = (Sum.inr xIS, m) := by unfold caApp; rw [if_neg (fun h => h k0), if_pos k1]
      have eB : (moApp m x).2 = mset (mset m 7 0 0 0) 7 0 0 2 := by unfold moApp; rw [if_neg (fun h => h k0), if_pos (by omega)]
      rw [eA]
      have := opC_q (ans := 0) (c := 2) hI hT (gO_r m) (qf_2 m 0 2) (by simp [mset]) (by omega) (fun h => absurd h (by decide))
      refine ⟨m, 2, Or.inr (Or.inr ⟨rfl, rfl, rfl⟩), ⟨by rw [eB, ms_s], by decide⟩, fun h => absurd h (by decide), by rw [eB]; exact this.2.2.1, r1.2⟩
    · have eP : rdPut m x = (m 2 0 2 + 1, mset (mset m 23 0 (m 2 0 2).toNat x) 2 0 2 (m 2 0 2 + 1)) := by unfold rdPut; rw [if_neg k1]
      have eA : caApp m x = (Sum.inl (some (vi (m 2 0 2 + 1))), mset (mset m 23 0 (m 2 0 2).toNat x) 2 0 2 (m 2 0 2 + 1)) := by unfold caApp; rw [if_neg (fun h => h k0), if_neg k1, eP]
      rw [eA]
      refine ⟨_, 0, Or.inl ⟨m 2 0 2 + 1, rfl, by unfold inR; omega, rfl, rfl⟩, ?_⟩
      generalize hg : mset (mset (mset m 23 0 (m 2 0 2).toNat x) 2 0 2 (m 2 0 2 + 1)) 50 0 0 (m 2 0 2 + 1) = g
      have g28 : g 7 0 28 = m 7 0 28 := by rw [← hg]; rfl
      have g50 : g 50 0 0 = m 2 0 2 + 1 := by rw [← hg, ms_s]
      have eB : moApp g x = (m 7 0 28 + 1, mset (mset (mset g 7 0 0 0) 44 0 (m 7 0 28).toNat x) 7 0 28 (m 7 0 28 + 1)) := by
        unfold moApp
        rw [g28, if_neg (fun h => h k0), if_neg (by omega)]
      rw [eB]
      have e : ∀ t i k, ¬ (t = 7 ∧ i = 0 ∧ (k = 0 ∨ k = 28)) → ¬ (t = 44 ∧ i = 0) → ¬ (t = 23 ∧ i = 0) → ¬ (t = 2 ∧ i = 0 ∧ k = 2) → t ≠ 50 → (mset (mset (mset g 7 0 0 0) 44 0 (m 7 0 28).toNat x) 7 0 28 (m 7 0 28 + 1)) t i k = m t i k := by
        intro t i k h1 h2 h3 h4 h5
        rw [← hg]
        simp only [mset]
        rw [if_neg (by omega), if_neg (by omega), if_neg (by omega), if_neg (by omega), if_neg (by omega), if_neg (by omega)]
      generalize hm2 : mset (mset (mset g 7 0 0 0) 44 0 (m 7 0 28).toNat x) 7 0 28 (m 7 0 28 + 1) = m2 at *
      have v70 : m2 7 0 0 = 0 := by rw [← hm2]; simp [mset]
      have v728 : m2 7 0 28 = m 7 0 28 + 1 := by rw [← hm2, ms_s]
      have v22 : m2 2 0 2 = m 2 0 2 + 1 := by rw [← hm2, ← hg]; simp [mset]
      have v23 : ∀ k, m2 23 0 k = if k = (m 2 0 2).toNat then x else m 23 0 k := by intro k; rw [← hm2, ← hg]; simp [mset]
      have v44 : ∀ k, m2 44 0 k = if k = (m 7 0 28).toNat then x else m 44 0 k := by intro k; rw [← hm2, ← hg]; simp [mset]
      have v50 : m2 50 0 0 = m 2 0 2 + 1 := by rw [← hm2, ms_t (by decide), ms_t (by decide), ms_t (by decide), g50]
      dsimp only
      refine ⟨⟨v70, by decide⟩, fun _ => ⟨by omega, by unfold inR; omega⟩, ?_, by omega⟩
      refine ⟨⟨T, sR_lv ⟨fun t ht => ?_, fun t i ht hi => ?_⟩ ⟨fun k h0 h28 => ?_, fun t h1 h2 => ?_⟩ hT⟩, ?_, ?_, ?_, ?_, by rw [v70]; decide⟩
      · funext k; exact e t 0 k (by omega) (by omega) (by omega) (by omega) (by omega)
      · funext k; exact e t i k (by omega) (by omega) (by omega) (by omega) (by omega)
      · exact e 7 0 k (by omega) (by omega) (by omega) (by omega) (by decide)
      · funext k; exact e t 0 k (by omega) (by omega) (by omega) (by omega) (by omega)
      · refine ⟨by omega, fun k hk => ?_, ?_, ?_, ?_, fun k hk => ?_, fun k hk => ?_⟩
        · rw [v23, v44, r1.1]
          have := r2 k hk
          split
          · omega
          · exact this
        · rw [e 6 0 4 (by omega) (by omega) (by omega) (by omega) (by decide), e 7 0 32 (by omega) (by omega) (by omega) (by omega) (by decide)]; exact r3
        · rw [e 2 0 3 (by omega) (by omega) (by omega) (by omega) (by decide)]; exact r4
        · rw [e 2 0 4 (by omega) (by omega) (by omega) (by omega) (by decide)]; exact r5
        · rw [e 24 0 k (by omega) (by omega) (by omega) (by omega) (by decide)]; exact r6 k hk
        · rw [e 45 0 k (by omega) (by omega) (by omega) (by omega) (by decide)]; exact r7 k hk
      · rw [e 6 0 3 (by omega) (by omega) (by omega) (by omega) (by decide), e 7 0 34 (by omega) (by omega) (by omega) (by omega) (by decide)]; exact hk
      · rw [e 6 0 3 (by omega) (by omega) (by omega) (by omega) (by decide)]
        intro h1
        obtain ⟨T', hT'⟩ := hkp h1
        refine ⟨T', sR_lw (fun t i k hL hkc => ?_) (fun t k hk => ?_) hT'⟩
        · rw [kpt_c hL hkc, kpt_c hL hkc]
          by_cases hTt : tgT t
          · rw [if_pos hTt, if_pos hTt, e t _ k (by omega) (by omega) (by omega) (by omega) (by omega)]
          · rw [if_neg hTt, if_neg hTt, e t _ k (by omega) (by omega) (by omega) (by omega) (by omega)]
        · rw [kpt_m hk, kpt_m hk, e 46 0 _ (by omega) (by omega) (by omega) (by omega) (by decide)]
      · rw [e 4 1 3 (by omega) (by omega) (by omega) (by omega) (by decide), e 4 1 8 (by omega) (by omega) (by omega) (by omega) (by decide)]
        exact ⟨fun i hi => by rw [e 5 _ 11 (by omega) (by omega) (by omega) (by omega) (by decide)]; exact hb.1 i hi, hb.2⟩
  · have eA : caApp m x = (Sum.inr xIA, m) := by unfold caApp; rw [if_pos k0]
    have eB : (moApp m x).2 = mset (mset m 7 0 0 0) 7 0 0 1 := by unfold moApp; rw [if_pos k0]
    rw [eA]
    have := opC_q (ans := 0) (c := 1) hI hT (gO_r m) (qf_2 m 0 1) (by simp [mset]) (by omega) (fun h => absurd h (by decide))
    refine ⟨m, 1, Or.inr (Or.inl ⟨rfl, rfl, rfl⟩), ⟨by rw [eB, ms_s], by decide⟩, fun h => absurd h (by decide), by rw [eB]; exact this.2.2.1, r1.2⟩
