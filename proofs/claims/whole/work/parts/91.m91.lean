/-! the other calls -/
theorem op_errorPosition {m : zkM} (hI : zInv m) : ∃ (g : zkM) (c : Int), ((∃ v : Int, caErr m = Sum.inl (some (vi v)) ∧ inR v ∧ c = 0 ∧ g = mset m 50 0 0 v) ∨ (caErr m = Sum.inr zkNE ∧ c = 1 ∧ g = m)) ∧ opC m g (moErr g).2 (moErr g).1 c := by
  obtain ⟨T, hT⟩ := hI.1
  have hn := aq_n hT
  by_cases k0 : m 6 0 4 = -1
  · have eA : caErr m = Sum.inr zkNE := by
      unfold caErr
      rw [if_pos k0]
    have eB : (moErr m) = (0, mset (mset m 7 0 0 0) 7 0 0 1) := by
      unfold moErr
      rw [if_pos (by have := hI.2.1.2.2.1; omega)]
    exact ⟨m, 1, Or.inr (⟨eA, rfl, rfl⟩), by rw [eB]; exact opC_q hI hT (gO_r m) (qf_2 m 0 1) (by simp [mset]) (by omega) (fun h => absurd h (by decide))⟩
  ·
    have hr := hI.2.1.2.2.1
    obtain ⟨V, hV⟩ : ∃ V, V = m 6 0 4 := ⟨_, rfl⟩
    have eA : caErr m = Sum.inl (some (vi V)) := by unfold caErr; rw [if_neg k0, hV]
    have hb : inR V := by unfold inR; omega
    have eB : ∀ g, gO m g → moErr g = (V, mset g 7 0 0 0) := fun g hg => by
      have e := hg 7 0 32 (by decide) (by decide)
      unfold moErr
      rw [e, if_neg (by omega)]
      rw [hV, hr.1]
    exact ⟨mset m 50 0 0 V, 0, Or.inl ⟨V, eA, hb, rfl, rfl⟩, by rw [eB _ (gO_50 m V)]; exact opC_q hI hT (gO_50 m V) (qf_1 _ _) (by simp [mset]) (by omega) (fun _ => ⟨by rw [ms_s], hb⟩)⟩
theorem op_task {m : zkM} (hI : zInv m) (x w : Int) : ∃ (g : zkM) (c : Int), ((∃ v : Int, caTask m x w = Sum.inl (some (vi v)) ∧ inR v ∧ c = 0 ∧ g = mset m 50 0 0 v) ∨ (caTask m x w = Sum.inr xIO ∧ c = 1 ∧ g = m) ∨ (caTask m x w = Sum.inr xIA ∧ c = 2 ∧ g = m)) ∧ opC m g (moTask g x w).2 (moTask g x w).1 c := by
  obtain ⟨T, hT⟩ := hI.1
  have hn := aq_n hT
  by_cases k0 : ¬ (0 ≤ x ∧ x ≤ m 0 0 5 - 1)
  · have eA : caTask m x w = Sum.inr xIO := by
      unfold caTask
      rw [if_pos k0]
    have eB : (moTask m x w) = (0, mset m 7 0 0 1) := by
      unfold moTask
      rw [if_pos (by omega)]
    exact ⟨m, 1, Or.inr (Or.inl (⟨eA, rfl, rfl⟩)), by rw [eB]; exact opC_q hI hT (gO_r m) (qf_1 m 1) (by simp [mset]) (by omega) (fun h => absurd h (by decide))⟩
  ·
    by_cases k1 : ¬ (0 ≤ w ∧ w ≤ 5)
    · have eA : caTask m x w = Sum.inr xIA := by
        unfold caTask
        rw [if_neg k0, if_pos k1]
      have eB : (moTask m x w) = (0, mset m 7 0 0 2) := by
        unfold moTask
        rw [if_neg (by omega), if_pos k1]
      exact ⟨m, 2, Or.inr (Or.inr (⟨eA, rfl, rfl⟩)), by rw [eB]; exact opC_q hI hT (gO_r m) (qf_1 m 2) (by simp [mset]) (by omega) (fun h => absurd h (by decide))⟩
    ·
      have hi : x.toNat < moN m := by unfold moN; omega
      have hl : ∀ g, gO m g → lm m g := fun g hg => fr_g (cf_r m) hg
      have hC := hT.1.1.2.1 x.toNat hi
      have hA := (hT.1.1.2.2.2.2.1.2.1 x.toNat (by omega)).1
      obtain ⟨V, hV⟩ : ∃ V, V = taPr m x.toNat w := ⟨_, rfl⟩
      have eA : caTask m x w = Sum.inl (some (vi V)) := by unfold caTask; rw [if_neg k0, if_neg k1, hV]
      have hb : inR V := by
        rw [hV]
        unfold taPr inR
        have d := hC.2.1
        have d7 := hC.1.2.2.2.1
        (repeat' split) <;> omega
      have eB : ∀ g, gO m g → moTask g x w = (V, mset g 7 0 0 0) := fun g hg => by
        have l := hl g hg
        have e2 := l.1 2 (by decide) (by decide)
        unfold moTask
        rw [e2, if_neg (by omega), if_neg k1, moDe_lm l]
        rw [l.2 30 (by decide) (by decide), l.2 31 (by decide) (by decide), hV]
        unfold taPr
        have d1 := hC.1
        unfold moPr moPe at d1
        have hw : w = 0 ∨ w = 1 ∨ w = 2 ∨ w = 3 ∨ w = 4 ∨ w = 5 := by omega
        rcases hw with e | e | e | e | e | e <;> subst e
        · rw [if_pos (by decide), if_pos rfl, d1.1]; rfl
        · rw [if_pos (by decide), if_neg (by decide), if_pos rfl, d1.2.1]; rfl
        · rw [if_pos (by decide), if_neg (by decide), if_neg (by decide), if_pos rfl, d1.2.2.1]; rfl
        · rw [if_pos (by decide), if_neg (by decide), if_neg (by decide), if_neg (by decide), if_pos rfl, d1.2.2.2.1]; rfl
        · rw [if_neg (by decide), if_pos rfl, if_neg (by decide), if_neg (by decide), if_neg (by decide), if_neg (by decide), if_pos rfl, d1.2.2.2.2.1]
        · rw [if_neg (by decide), if_neg (by decide), if_neg (by decide), if_neg (by decide), if_neg (by decide), if_neg (by decide), if_neg (by decide), d1.2.2.2.2.2.1]
      exact ⟨mset m 50 0 0 V, 0, Or.inl ⟨V, eA, hb, rfl, rfl⟩, by rw [eB _ (gO_50 m V)]; exact opC_q hI hT (gO_50 m V) (qf_1 _ _) (by simp [mset]) (by omega) (fun _ => ⟨by rw [ms_s], hb⟩)⟩
theorem op_ceiling {m : zkM} (hI : zInv m) (x : Int) : ∃ (g : zkM) (c : Int), ((∃ v : Int, caCei m x = Sum.inl (some (vi v)) ∧ inR v ∧ c = 0 ∧ g = mset m 50 0 0 v) ∨ (caCei m x = Sum.inr xIO ∧ c = 1 ∧ g = m)) ∧ opC m g (moCeil g x).2 (moCeil g x).1 c := by
  obtain ⟨T, hT⟩ := hI.1
  have hn := aq_n hT
  by_cases k0 : ¬ (0 ≤ x ∧ x ≤ 3)
  · have eA : caCei m x = Sum.inr xIO := by
      unfold caCei
      rw [if_neg k0]
    have eB : (moCeil m x) = (0, mset (mset m 7 0 0 0) 7 0 0 1) := by
      unfold moCeil
      rw [if_neg k0]
    exact ⟨m, 1, Or.inr (⟨eA, rfl, rfl⟩), by rw [eB]; exact opC_q hI hT (gO_r m) (qf_2 m 0 1) (by simp [mset]) (by omega) (fun h => absurd h (by decide))⟩
  ·
    have hl : ∀ g, gO m g → lm m g := fun g hg => fr_g (cf_r m) hg
    have k0 : 0 ≤ x ∧ x ≤ 3 := by omega
    have hA := hT.1.1.2.2.2.2.1.2.2.1 x.toNat (by omega)
    obtain ⟨V, hV⟩ : ∃ V, V = m 17 0 x.toNat := ⟨_, rfl⟩
    have eA : caCei m x = Sum.inl (some (vi V)) := by unfold caCei; rw [if_pos k0, hV]
    have hb : inR V := by unfold inR; omega
    have eB : ∀ g, gO m g → moCeil g x = (V, mset g 7 0 0 0) := fun g hg => by
      unfold moCeil
      rw [if_pos k0, moCe_lm (hl g hg), hV, hT.1.1.2.2.1 x.toNat (by omega)]
      have e : ((x.toNat : Nat) : Int) = x := by omega
      rw [e]
    exact ⟨mset m 50 0 0 V, 0, Or.inl ⟨V, eA, hb, rfl, rfl⟩, by rw [eB _ (gO_50 m V)]; exact opC_q hI hT (gO_50 m V) (qf_1 _ _) (by simp [mset]) (by omega) (fun _ => ⟨by rw [ms_s], hb⟩)⟩
theorem op_blocking {m : zkM} (hI : zInv m) (x : Int) : ∃ (g : zkM) (c : Int), ((∃ v : Int, caBlk m x = Sum.inl (some (vi v)) ∧ inR v ∧ c = 0 ∧ g = mset m 50 0 0 v) ∨ (caBlk m x = Sum.inr xIO ∧ c = 1 ∧ g = m)) ∧ opC m g (moBlk g x).2 (moBlk g x).1 c := by
  obtain ⟨T, hT⟩ := hI.1
  have hn := aq_n hT
  by_cases k0 : ¬ (0 ≤ x ∧ x ≤ m 0 0 5 - 1)
  · have eA : caBlk m x = Sum.inr xIO := by
      unfold caBlk
      rw [if_pos k0]
    have eB : (moBlk m x) = (0, mset (mset m 7 0 0 0) 7 0 0 1) := by
      unfold moBlk
      rw [if_neg (by omega)]
    exact ⟨m, 1, Or.inr (⟨eA, rfl, rfl⟩), by rw [eB]; exact opC_q hI hT (gO_r m) (qf_2 m 0 1) (by simp [mset]) (by omega) (fun h => absurd h (by decide))⟩
  ·
    have hi : x.toNat < moN m := by unfold moN; omega
    have hl : ∀ g, gO m g → lm m g := fun g hg => fr_g (cf_r m) hg
    have hA := hT.1.1.2.2.2.2.1
    obtain ⟨V, hV⟩ : ∃ V, V = anBl m x.toNat := ⟨_, rfl⟩
    have eA : caBlk m x = Sum.inl (some (vi V)) := by unfold caBlk; rw [if_neg k0, hV]
    have hb : inR V := by
      have := anBl_b hA x.toNat
      rw [hV]; unfold inR; omega
    have eB : ∀ g, gO m g → moBlk g x = (V, mset g 7 0 0 0) := fun g hg => by
      have l := hl g hg
      unfold moBlk
      rw [l.1 2 (by decide) (by decide), if_pos (by omega), moBl_lm l, hV, rl_bl (aq_rlC hT) hA hT.1.1.2.2.2.2.2 hi]
    exact ⟨mset m 50 0 0 V, 0, Or.inl ⟨V, eA, hb, rfl, rfl⟩, by rw [eB _ (gO_50 m V)]; exact opC_q hI hT (gO_50 m V) (qf_1 _ _) (by simp [mset]) (by omega) (fun _ => ⟨by rw [ms_s], hb⟩)⟩
theorem op_bound {m : zkM} (hI : zInv m) (x : Int) : ∃ (g : zkM) (c : Int), ((∃ v : Int, caBnd m x = Sum.inl (some (vi v)) ∧ inR v ∧ c = 0 ∧ g = mset m 50 0 0 v) ∨ (caBnd m x = Sum.inr xIO ∧ c = 1 ∧ g = m) ∨ (caBnd m x = Sum.inr xIS ∧ c = 2 ∧ g = m) ∨ (caBnd m x = Sum.inr zkNE ∧ c = 3 ∧ g = m)) ∧ opC m g (moBnd g x).2 (moBnd g x).1 c := by
  obtain ⟨T, hT⟩ := hI.1
  have hn := aq_n hT
  by_cases k0 : ¬ (0 ≤ x ∧ x ≤ m 0 0 5 - 1)
  · have eA : caBnd m x = Sum.inr xIO := by
      unfold caBnd
      rw [if_pos k0]
    have eB : (moBnd m x) = (0, mset m 7 0 0 1) := by
      unfold moBnd
      rw [if_pos (by omega)]
    exact ⟨m, 1, Or.inr (Or.inl (⟨eA, rfl, rfl⟩)), by rw [eB]; exact opC_q hI hT (gO_r m) (qf_1 m 1) (by simp [mset]) (by omega) (fun h => absurd h (by decide))⟩
  ·
    by_cases k1 : m 5 x.toNat 8 = 0
    · have eA : caBnd m x = Sum.inr xIS := by
        unfold caBnd
        rw [if_neg k0, if_pos k1]
      have eB : (moBnd m x) = (0, mset m 7 0 0 2) := by
        have hi : x.toNat < moN m := by unfold moN; omega
        have hC := hT.1.1.2.1 x.toNat hi
        unfold moBnd
        rw [if_neg (by omega), if_pos (by rw [← hC.1.2.2.2.2.1]; exact k1)]
      exact ⟨m, 2, Or.inr (Or.inr (Or.inl (⟨eA, rfl, rfl⟩))), by rw [eB]; exact opC_q hI hT (gO_r m) (qf_1 m 2) (by simp [mset]) (by omega) (fun h => absurd h (by decide))⟩
    ·
      by_cases k2 : anBd m x.toNat = -1
      · have eA : caBnd m x = Sum.inr zkNE := by
          unfold caBnd caFd
          rw [if_neg k0, if_neg k1, if_pos k2]
        have eB : (moBnd m x) = (0, mset (mset m 7 0 0 0) 7 0 0 3) := by
          have hi : x.toNat < moN m := by unfold moN; omega
          have hC := hT.1.1.2.1 x.toNat hi
          have h8 := hC.1.2.2.2.2.1
          unfold moBnd
          rw [if_neg (by omega), if_neg (by omega), if_pos (by rw [← aq_bd hT hi (by have := hC.2.1; omega)]; exact k2)]
        exact ⟨m, 3, Or.inr (Or.inr (Or.inr (⟨eA, rfl, rfl⟩))), by rw [eB]; exact opC_q hI hT (gO_r m) (qf_2 m 0 3) (by simp [mset]) (by omega) (fun h => absurd h (by decide))⟩
      ·
        have hi : x.toNat < moN m := by unfold moN; omega
        have hl : ∀ g, gO m g → lm m g := fun g hg => fr_g (cf_r m) hg
        have hC := hT.1.1.2.1 x.toNat hi
        have h8 := hC.1.2.2.2.2.1
        obtain ⟨V, hV⟩ : ∃ V, V = anBd m x.toNat := ⟨_, rfl⟩
        have eA : caBnd m x = Sum.inl (some (vi V)) := by unfold caBnd caFd; rw [if_neg k0, if_neg k1, if_neg k2, hV]
        have hb : inR V := by
          have hb2 := anBd_b hT.1.1.2.2.2.2.1 (n := x.toNat) (by omega)
          rw [hV]; unfold inR; omega
        have eB : ∀ g, gO m g → moBnd g x = (V, mset g 7 0 0 0) := fun g hg => by
          have l := hl g hg
          have e31 : g 31 0 x.toNat = m 31 0 x.toNat := by rw [l.2 31 (by decide) (by decide)]
          unfold moBnd
          rw [l.1 2 (by decide) (by decide), e31, if_neg (by omega), if_neg (by omega), moBd_lm l, ← aq_bd hT hi (by have := hC.2.1; omega), if_neg k2, hV]
        exact ⟨mset m 50 0 0 V, 0, Or.inl ⟨V, eA, hb, rfl, rfl⟩, by rw [eB _ (gO_50 m V)]; exact opC_q hI hT (gO_50 m V) (qf_1 _ _) (by simp [mset]) (by omega) (fun _ => ⟨by rw [ms_s], hb⟩)⟩
theorem op_witness {m : zkM} (hI : zInv m) (x : Int) : ∃ (g : zkM) (c : Int), ((∃ v : Int, caWit m x = Sum.inl (some (vi v)) ∧ inR v ∧ c = 0 ∧ g = mset m 50 0 0 v) ∨ (caWit m x = Sum.inr xIO ∧ c = 1 ∧ g = m) ∨ (caWit m x = Sum.inr xIS ∧ c = 2 ∧ g = m) ∨ (caWit m x = Sum.inr zkNE ∧ c = 3 ∧ g = m)) ∧ opC m g (moWit g x).2 (moWit g x).1 c := by
  obtain ⟨T, hT⟩ := hI.1
  have hn := aq_n hT
  by_cases k0 : ¬ (0 ≤ x ∧ x ≤ m 0 0 5 - 1)
  · have eA : caWit m x = Sum.inr xIO := by
      unfold caWit
      rw [if_pos k0]
    have eB : (moWit m x) = (0, mset m 7 0 0 1) := by
      unfold moWit
      rw [if_pos (by omega)]
    exact ⟨m, 1, Or.inr (Or.inl (⟨eA, rfl, rfl⟩)), by rw [eB]; exact opC_q hI hT (gO_r m) (qf_1 m 1) (by simp [mset]) (by omega) (fun h => absurd h (by decide))⟩
  ·
    by_cases k1 : m 5 x.toNat 8 = 0
    · have eA : caWit m x = Sum.inr xIS := by
        unfold caWit
        rw [if_neg k0, if_pos k1]
      have eB : (moWit m x) = (0, mset m 7 0 0 2) := by
        have hi : x.toNat < moN m := by unfold moN; omega
        have hC := hT.1.1.2.1 x.toNat hi
        unfold moWit
        rw [if_neg (by omega), if_pos (by rw [← hC.1.2.2.2.2.1]; exact k1)]
      exact ⟨m, 2, Or.inr (Or.inr (Or.inl (⟨eA, rfl, rfl⟩))), by rw [eB]; exact opC_q hI hT (gO_r m) (qf_1 m 2) (by simp [mset]) (by omega) (fun h => absurd h (by decide))⟩
    ·
      by_cases k2 : anWt m x.toNat = -1
      · have eA : caWit m x = Sum.inr zkNE := by
          unfold caWit caFd
          rw [if_neg k0, if_neg k1, if_pos k2]
        have eB : (moWit m x) = (0, mset (mset m 7 0 0 0) 7 0 0 3) := by
          have hi : x.toNat < moN m := by unfold moN; omega
          have hC := hT.1.1.2.1 x.toNat hi
          have h8 := hC.1.2.2.2.2.1
          unfold moWit
          rw [if_neg (by omega), if_neg (by omega), if_pos (by rw [← rl_wt (aq_rlC hT) hT.1.1.2.2.2.2.1 hT.1.1.2.2.2.2.2 hi]; exact k2)]
        exact ⟨m, 3, Or.inr (Or.inr (Or.inr (⟨eA, rfl, rfl⟩))), by rw [eB]; exact opC_q hI hT (gO_r m) (qf_2 m 0 3) (by simp [mset]) (by omega) (fun h => absurd h (by decide))⟩
      ·
        have hi : x.toNat < moN m := by unfold moN; omega
        have hl : ∀ g, gO m g → lm m g := fun g hg => fr_g (cf_r m) hg
        have hC := hT.1.1.2.1 x.toNat hi
        have h8 := hC.1.2.2.2.2.1
        obtain ⟨V, hV⟩ : ∃ V, V = anWt m x.toNat := ⟨_, rfl⟩
        have eA : caWit m x = Sum.inl (some (vi V)) := by unfold caWit caFd; rw [if_neg k0, if_neg k1, if_neg k2, hV]
        have hb : inR V := by
          have hb2 := anWtf_b (m := m) (i := x.toNat) 1000 0 0 (m 5 x.toNat 9) (by omega) (by omega); have hb2 : -1 ≤ anWt m x.toNat ∧ anWt m x.toNat ≤ 1000 := hb2
          rw [hV]; unfold inR; omega
        have eB : ∀ g, gO m g → moWit g x = (V, mset g 7 0 0 0) := fun g hg => by
          have l := hl g hg
          have e31 : g 31 0 x.toNat = m 31 0 x.toNat := by rw [l.2 31 (by decide) (by decide)]
          unfold moWit
          rw [l.1 2 (by decide) (by decide), e31, if_neg (by omega), if_neg (by omega), moWt_lm l, ← rl_wt (aq_rlC hT) hT.1.1.2.2.2.2.1 hT.1.1.2.2.2.2.2 hi, if_neg k2, hV]
        exact ⟨mset m 50 0 0 V, 0, Or.inl ⟨V, eA, hb, rfl, rfl⟩, by rw [eB _ (gO_50 m V)]; exact opC_q hI hT (gO_50 m V) (qf_1 _ _) (by simp [mset]) (by omega) (fun _ => ⟨by rw [ms_s], hb⟩)⟩
theorem op_ranAt {m : zkM} (hI : zInv m) (x : Int) : ∃ (g : zkM) (c : Int), ((∃ v : Int, caRan m x = Sum.inl (some (vi v)) ∧ inR v ∧ c = 0 ∧ g = mset m 50 0 0 v) ∨ (caRan m x = Sum.inr xIO ∧ c = 1 ∧ g = m)) ∧ opC m g (moRan g x).2 (moRan g x).1 c := by
  obtain ⟨T, hT⟩ := hI.1
  have hn := aq_n hT
  by_cases k0 : ¬ (0 ≤ x ∧ x ≤ m 0 0 7 - 1)
  · have eA : caRan m x = Sum.inr xIO := by
      unfold caRan
      rw [if_neg k0]
    have eB : (moRan m x) = (0, mset (mset m 7 0 0 0) 7 0 0 1) := by
      unfold moRan
      rw [if_neg (by rw [hT.2.2.1, ← hT.2.1]; exact k0)]
    exact ⟨m, 1, Or.inr (⟨eA, rfl, rfl⟩), by rw [eB]; exact opC_q hI hT (gO_r m) (qf_2 m 0 1) (by simp [mset]) (by omega) (fun h => absurd h (by decide))⟩
  ·
    have hl : ∀ g, gO m g → lm m g := fun g hg => fr_g (cf_r m) hg
    have k0 : 0 ≤ x ∧ x ≤ m 0 0 7 - 1 := by omega
    have hNn := hT.1.2.2.2.2.2.1
    have h7 := hT.2
    have hB := hNn.2.1 x.toNat (by omega)
    obtain ⟨V, hV⟩ : ∃ V, V = m 18 0 x.toNat := ⟨_, rfl⟩
    have eA : caRan m x = Sum.inl (some (vi V)) := by unfold caRan; rw [if_pos k0, hV]
    have hb : inR V := by unfold inR; omega
    have eB : ∀ g, gO m g → moRan g x = (V, mset g 7 0 0 0) := fun g hg => by
      have l := hl g hg
      unfold moRan
      rw [l.1 11 (by decide) (by decide), l.2 34 (by decide) (by decide), if_pos (by omega), hV, hNn.1 x.toNat (by omega)]
    exact ⟨mset m 50 0 0 V, 0, Or.inl ⟨V, eA, hb, rfl, rfl⟩, by rw [eB _ (gO_50 m V)]; exact opC_q hI hT (gO_50 m V) (qf_1 _ _) (by simp [mset]) (by omega) (fun _ => ⟨by rw [ms_s], hb⟩)⟩
theorem op_pending {m : zkM} (hI : zInv m) (x : Int) : ∃ (g : zkM) (c : Int), ((∃ v : Int, caPnd m x = Sum.inl (some (vi v)) ∧ inR v ∧ c = 0 ∧ g = mset m 50 0 0 v) ∨ (caPnd m x = Sum.inr xIO ∧ c = 1 ∧ g = m)) ∧ opC m g (moPnd g x).2 (moPnd g x).1 c := by
  obtain ⟨T, hT⟩ := hI.1
  have hn := aq_n hT
  by_cases k0 : ¬ (0 ≤ x ∧ x ≤ m 0 0 5 - 1)
  · have eA : caPnd m x = Sum.inr xIO := by
      unfold caPnd
      rw [if_pos k0]
    have eB : (moPnd m x) = (0, mset (mset m 7 0 0 0) 7 0 0 1) := by
      unfold moPnd
      rw [if_neg (by omega)]
    exact ⟨m, 1, Or.inr (⟨eA, rfl, rfl⟩), by rw [eB]; exact opC_q hI hT (gO_r m) (qf_2 m 0 1) (by simp [mset]) (by omega) (fun h => absurd h (by decide))⟩
  ·
    have hi : x.toNat < moN m := by unfold moN; omega
    have hl : ∀ g, gO m g → lm m g := fun g hg => fr_g (cf_r m) hg
    have hR := hT.1.2.1 x.toNat hi
    have hB := hT.1.2.2.1 x.toNat (by omega)
    obtain ⟨V, hV⟩ : ∃ V, V = m 1 x.toNat 2 - m 1 x.toNat 1 := ⟨_, rfl⟩
    have eA : caPnd m x = Sum.inl (some (vi V)) := by unfold caPnd; rw [if_neg k0, hV]
    have hb : inR V := by
      have := hB.2.2.1
      rw [hV]; unfold inR; omega
    have eB : ∀ g, gO m g → moPnd g x = (V, mset g 7 0 0 0) := fun g hg => by
      have l := hl g hg
      unfold moPnd
      rw [l.1 2 (by decide) (by decide), l.2 36 (by decide) (by decide), if_pos (by omega), hV]
      have := hR.1.1
      have e : m 36 0 x.toNat = m 1 x.toNat 2 - m 1 x.toNat 1 := by omega
      rw [e]
    exact ⟨mset m 50 0 0 V, 0, Or.inl ⟨V, eA, hb, rfl, rfl⟩, by rw [eB _ (gO_50 m V)]; exact opC_q hI hT (gO_50 m V) (qf_1 _ _) (by simp [mset]) (by omega) (fun _ => ⟨by rw [ms_s], hb⟩)⟩
theorem op_activePriority {m : zkM} (hI : zInv m) (x : Int) : ∃ (g : zkM) (c : Int), ((∃ v : Int, caAct m x = Sum.inl (some (vi v)) ∧ inR v ∧ c = 0 ∧ g = mset m 50 0 0 v) ∨ (caAct m x = Sum.inr xIO ∧ c = 1 ∧ g = m) ∨ (caAct m x = Sum.inr zkNE ∧ c = 2 ∧ g = m)) ∧ opC m g (moAct g x).2 (moAct g x).1 c := by
  obtain ⟨T, hT⟩ := hI.1
  have hn := aq_n hT
  by_cases k0 : ¬ (0 ≤ x ∧ x ≤ m 0 0 5 - 1)
  · have eA : caAct m x = Sum.inr xIO := by
      unfold caAct
      rw [if_pos k0]
    have eB : (moAct m x) = (0, mset m 7 0 0 1) := by
      unfold moAct
      rw [if_pos (by omega)]
    exact ⟨m, 1, Or.inr (Or.inl (⟨eA, rfl, rfl⟩)), by rw [eB]; exact opC_q hI hT (gO_r m) (qf_1 m 1) (by simp [mset]) (by omega) (fun h => absurd h (by decide))⟩
  ·
    by_cases k1 : m 1 x.toNat 1 = m 1 x.toNat 2
    · have eA : caAct m x = Sum.inr zkNE := by
        unfold caAct
        rw [if_neg k0, if_pos k1]
      have eB : (moAct m x) = (0, mset m 7 0 0 2) := by
        have hi : x.toNat < moN m := by unfold moN; omega
        unfold moAct
        rw [if_neg (by omega), if_pos ((q_iff (hT.1.2.1 x.toNat hi)).mp k1)]
      exact ⟨m, 2, Or.inr (Or.inr (⟨eA, rfl, rfl⟩)), by rw [eB]; exact opC_q hI hT (gO_r m) (qf_1 m 2) (by simp [mset]) (by omega) (fun h => absurd h (by decide))⟩
    ·
      have hi : x.toNat < moN m := by unfold moN; omega
      have hl : ∀ g, gO m g → lm m g := fun g hg => fr_g (cf_r m) hg
      have hR := hT.1.2.1 x.toNat hi
      have hP := (phR_beP hT.1).1
      obtain ⟨V, hV⟩ : ∃ V, V = beUr m x.toNat := ⟨_, rfl⟩
      have eA : caAct m x = Sum.inl (some (vi V)) := by unfold caAct; rw [if_neg k0, if_neg k1, hV]
      have hb : inR V := by rw [hV]; exact beUr_b hP (by omega)
      have eB : ∀ g, gO m g → moAct g x = (V, mset g 7 0 0 0) := fun g hg => by
        have l := hl g hg
        have hg2 := sR_lv (lv_r m) l hT
        have hi2 : x.toNat < moN g := by rw [moN_lm l]; exact hi
        have hq := q_iff (hg2.1.2.1 x.toNat hi2)
        unfold moAct
        rw [l.1 2 (by decide) (by decide), if_neg (by omega), if_neg (fun h => k1 (hq.mpr h)), hV, ur_eq hg2.1.1 hi2 (hg2.1.2.1 x.toNat hi2).2.1]
      exact ⟨mset m 50 0 0 V, 0, Or.inl ⟨V, eA, hb, rfl, rfl⟩, by rw [eB _ (gO_50 m V)]; exact opC_q hI hT (gO_50 m V) (qf_1 _ _) (by simp [mset]) (by omega) (fun _ => ⟨by rw [ms_s], hb⟩)⟩
theorem op_holder {m : zkM} (hI : zInv m) (x : Int) : ∃ (g : zkM) (c : Int), ((∃ v : Int, caHol m x = Sum.inl (some (vi v)) ∧ inR v ∧ c = 0 ∧ g = mset m 50 0 0 v) ∨ (caHol m x = Sum.inr xIO ∧ c = 1 ∧ g = m)) ∧ opC m g (moHol g x).2 (moHol g x).1 c := by
  obtain ⟨T, hT⟩ := hI.1
  have hn := aq_n hT
  by_cases k0 : ¬ (0 ≤ x ∧ x ≤ 3)
  · have eA : caHol m x = Sum.inr xIO := by
      unfold caHol
      rw [if_neg k0]
    have eB : (moHol m x) = (0, mset (mset m 7 0 0 0) 7 0 0 1) := by
      unfold moHol
      rw [if_pos k0]
    exact ⟨m, 1, Or.inr (⟨eA, rfl, rfl⟩), by rw [eB]; exact opC_q hI hT (gO_r m) (qf_2 m 0 1) (by simp [mset]) (by omega) (fun h => absurd h (by decide))⟩
  ·
    have hl : ∀ g, gO m g → lm m g := fun g hg => fr_g (cf_r m) hg
    have k0 : 0 ≤ x ∧ x ≤ 3 := by omega
    obtain ⟨V, hV⟩ : ∃ V, V = beHo m x := ⟨_, rfl⟩
    have eA : caHol m x = Sum.inl (some (vi V)) := by unfold caHol; rw [if_pos k0, hV]
    have ho : ∀ g, gO m g → beHo m x = lp (moHf g x) (moN g) (-1) := fun g hg => by
      have hg2 := sR_lv (lv_r m) (hl g hg) hT
      exact ho_eq hg2.1.1 (fun i hi => (hg2.1.2.1 i hi).2.1) hg2.1.2.2.2.2.2.2.1 (by omega)
    have hb : inR V := by
      rw [hV, ho m (gO_r m)]
      have h5 := kR_n hT.1.1
      have := lp_inv (fun (j : Nat) (s : Int) => -1 ≤ s ∧ s ≤ 5) (moHf m x) (moN m) (-1) (by omega) (fun j s hj hs => by unfold moHf; split <;> omega)
      unfold inR; omega
    have eB : ∀ g, gO m g → moHol g x = (V, mset g 7 0 0 0) := fun g hg => by
      unfold moHol
      rw [if_neg (fun h => h k0), hV, ho g hg]
    exact ⟨mset m 50 0 0 V, 0, Or.inl ⟨V, eA, hb, rfl, rfl⟩, by rw [eB _ (gO_50 m V)]; exact opC_q hI hT (gO_50 m V) (qf_1 _ _) (by simp [mset]) (by omega) (fun _ => ⟨by rw [ms_s], hb⟩)⟩
theorem op_result {m : zkM} (hI : zInv m) (x w : Int) : ∃ (g : zkM) (c : Int), ((∃ v : Int, caRes m x w = Sum.inl (some (vi v)) ∧ inR v ∧ c = 0 ∧ g = mset m 50 0 0 v) ∨ (caRes m x w = Sum.inr xIO ∧ c = 1 ∧ g = m) ∨ (caRes m x w = Sum.inr xIA ∧ c = 2 ∧ g = m)) ∧ opC m g (moRes g x w).2 (moRes g x w).1 c := by
  obtain ⟨T, hT⟩ := hI.1
  have hn := aq_n hT
  by_cases k0 : ¬ (0 ≤ x ∧ x ≤ m 0 0 5 - 1)
  · have eA : caRes m x w = Sum.inr xIO := by
      unfold caRes
      rw [if_pos k0]
    have eB : (moRes m x w) = (0, mset m 7 0 0 1) := by
      unfold moRes
      rw [if_pos (by omega)]
    exact ⟨m, 1, Or.inr (Or.inl (⟨eA, rfl, rfl⟩)), by rw [eB]; exact opC_q hI hT (gO_r m) (qf_1 m 1) (by simp [mset]) (by omega) (fun h => absurd h (by decide))⟩
  ·
    by_cases k1 : ¬ (0 ≤ w ∧ w ≤ 5)
    · have eA : caRes m x w = Sum.inr xIA := by
        unfold caRes
        rw [if_neg k0, if_pos k1]
      have eB : (moRes m x w) = (0, mset m 7 0 0 2) := by
        unfold moRes
        rw [if_neg (by omega), if_pos k1]
      exact ⟨m, 2, Or.inr (Or.inr (⟨eA, rfl, rfl⟩)), by rw [eB]; exact opC_q hI hT (gO_r m) (qf_1 m 2) (by simp [mset]) (by omega) (fun h => absurd h (by decide))⟩
    ·
      have hi : x.toNat < moN m := by unfold moN; omega
      have hl : ∀ g, gO m g → lm m g := fun g hg => fr_g (cf_r m) hg
      have hZ := (hT.1.2.1 x.toNat hi).2.2.2.2.1 w.toNat (by omega)
      have h7 := hT.2.2.2
      obtain ⟨V, hV⟩ : ∃ V, V = m 22 x.toNat w.toNat := ⟨_, rfl⟩
      have eA : caRes m x w = Sum.inl (some (vi V)) := by unfold caRes; rw [if_neg k0, if_neg k1, hV]
      have hb : inR V := by rw [hV, hZ.1]; unfold inR; omega
      have eB : ∀ g, gO m g → moRes g x w = (V, mset g 7 0 0 0) := fun g hg => by
        have l := hl g hg
        unfold moRes
        rw [l.1 2 (by decide) (by decide), l.2 39 (by decide) (by decide), if_neg (by omega), if_neg k1, hV, hZ.1]
      exact ⟨mset m 50 0 0 V, 0, Or.inl ⟨V, eA, hb, rfl, rfl⟩, by rw [eB _ (gO_50 m V)]; exact opC_q hI hT (gO_50 m V) (qf_1 _ _) (by simp [mset]) (by omega) (fun _ => ⟨by rw [ms_s], hb⟩)⟩
theorem op_balance {m : zkM} (hI : zInv m) : ∃ (g : zkM) (c : Int), ((∃ v : Int, caBal m = Sum.inl (some (vi v)) ∧ inR v ∧ c = 0 ∧ g = mset m 50 0 0 v) ∨ (caBal m = Sum.inr xIS ∧ c = 1 ∧ g = m)) ∧ opC m g (moBal g).2 (moBal g).1 c := by
  obtain ⟨T, hT⟩ := hI.1
  have hn := aq_n hT
  by_cases k0 : m 4 0 3 = 0
  · have eA : caBal m = Sum.inr xIS := by
      unfold caBal
      rw [if_pos k0]
    have eB : (moBal m) = (0, mset (mset m 7 0 0 0) 7 0 0 1) := by
      have h3 := hT.1.1.2.2.2.1.1
      unfold moBal
      rw [if_neg (by intro h; rw [if_pos h] at h3; omega)]
    exact ⟨m, 1, Or.inr (⟨eA, rfl, rfl⟩), by rw [eB]; exact opC_q hI hT (gO_r m) (qf_2 m 0 1) (by simp [mset]) (by omega) (fun h => absurd h (by decide))⟩
  ·
    have hl : ∀ g, gO m g → lm m g := fun g hg => fr_g (cf_r m) hg
    have h3 := hT.1.1.2.2.2.1.1
    have h6 : 0 < m 7 0 6 := by
      apply Classical.byContradiction
      intro h
      rw [if_neg h] at h3
      exact k0 h3
    have hS := hT.1.2.2.2.1
    have h19 := hS.2.2.2.2.1 h6
    have hB := hS.2.2.2.2.2.2.2.2.2.2.2.1
    obtain ⟨V, hV⟩ : ∃ V, V = m 4 0 7 := ⟨_, rfl⟩
    have eA : caBal m = Sum.inl (some (vi V)) := by unfold caBal; rw [if_neg k0, hV]
    have hb : inR V := by unfold inR; omega
    have eB : ∀ g, gO m g → moBal g = (V, mset g 7 0 0 0) := fun g hg => by
      have l := hl g hg
      unfold moBal
      rw [l.1 6 (by decide) (by decide), l.1 19 (by decide) (by decide), if_pos h6, hV, h19.1]
    exact ⟨mset m 50 0 0 V, 0, Or.inl ⟨V, eA, hb, rfl, rfl⟩, by rw [eB _ (gO_50 m V)]; exact opC_q hI hT (gO_50 m V) (qf_1 _ _) (by simp [mset]) (by omega) (fun _ => ⟨by rw [ms_s], hb⟩)⟩
theorem op_nextReplenishment {m : zkM} (hI : zInv m) : ∃ (g : zkM) (c : Int), ((∃ v : Int, caNex m = Sum.inl (some (vi v)) ∧ inR v ∧ c = 0 ∧ g = mset m 50 0 0 v) ∨ (caNex m = Sum.inr xIS ∧ c = 1 ∧ g = m) ∨ (caNex m = Sum.inr zkNE ∧ c = 2 ∧ g = m)) ∧ opC m g (moNex g).2 (moNex g).1 c := by
  obtain ⟨T, hT⟩ := hI.1
  have hn := aq_n hT
  by_cases k0 : m 4 0 3 = 0
  · have eA : caNex m = Sum.inr xIS := by
      unfold caNex
      rw [if_pos k0]
    have eB : (moNex m) = (0, mset (mset m 7 0 0 0) 7 0 0 1) := by
      have h3 := hT.1.1.2.2.2.1.1
      unfold moNex
      rw [if_pos (by intro h; rw [if_pos h] at h3; omega)]
    exact ⟨m, 1, Or.inr (Or.inl (⟨eA, rfl, rfl⟩)), by rw [eB]; exact opC_q hI hT (gO_r m) (qf_2 m 0 1) (by simp [mset]) (by omega) (fun h => absurd h (by decide))⟩
  ·
    by_cases k1 : seNx m = -1
    · have eA : caNex m = Sum.inr zkNE := by
        unfold caNex caFd
        rw [if_neg k0, if_pos k1]
      have eB : (moNex m) = (0, mset (mset m 7 0 0 0) 7 0 0 2) := by
        have h3 := hT.1.1.2.2.2.1.1
        have h6 : 0 < m 7 0 6 := by
          apply Classical.byContradiction
          intro h
          rw [if_neg h] at h3
          exact k0 h3
        unfold moNex
        rw [if_neg (fun h => h h6), if_pos (by rw [← aq_nx hT]; exact k1)]
      exact ⟨m, 2, Or.inr (Or.inr (⟨eA, rfl, rfl⟩)), by rw [eB]; exact opC_q hI hT (gO_r m) (qf_2 m 0 2) (by simp [mset]) (by omega) (fun h => absurd h (by decide))⟩
    ·
      have hl : ∀ g, gO m g → lm m g := fun g hg => fr_g (cf_r m) hg
      have h3 := hT.1.1.2.2.2.1.1
      have h6 : 0 < m 7 0 6 := by
        apply Classical.byContradiction
        intro h
        rw [if_neg h] at h3
        exact k0 h3
      have hS := hT.1.2.2.2.1
      obtain ⟨V, hV⟩ : ∃ V, V = seNx m := ⟨_, rfl⟩
      have eA : caNex m = Sum.inl (some (vi V)) := by unfold caNex caFd; rw [if_neg k0, if_neg k1, hV]
      have hb : inR V := by
        have := hS.2.2.2.2.2.2.2.2.1 0 (by decide)
        rw [hV]
        unfold seNx inR
        split <;> omega
      have eB : ∀ g, gO m g → moNex g = (V, mset g 7 0 0 0) := fun g hg => by
        have l := hl g hg
        have hg2 := sR_lv (lv_r m) l hT
        unfold moNex
        rw [l.1 6 (by decide) (by decide), if_neg (fun h => h h6), ← aq_nx hg2, if_neg k1, hV]
      exact ⟨mset m 50 0 0 V, 0, Or.inl ⟨V, eA, hb, rfl, rfl⟩, by rw [eB _ (gO_50 m V)]; exact opC_q hI hT (gO_50 m V) (qf_1 _ _) (by simp [mset]) (by omega) (fun _ => ⟨by rw [ms_s], hb⟩)⟩
theorem op_requestResponse {m : zkM} (hI : zInv m) (x : Int) : ∃ (g : zkM) (c : Int), ((∃ v : Int, caRq m x = Sum.inl (some (vi v)) ∧ inR v ∧ c = 0 ∧ g = mset m 50 0 0 v) ∨ (caRq m x = Sum.inr xIO ∧ c = 1 ∧ g = m) ∨ (caRq m x = Sum.inr xIS ∧ c = 2 ∧ g = m)) ∧ opC m g (moRq g x).2 (moRq g x).1 c := by
  obtain ⟨T, hT⟩ := hI.1
  have hn := aq_n hT
  by_cases k0 : ¬ (0 ≤ x ∧ x ≤ m 3 0 4 - 1)
  · have eA : caRq m x = Sum.inr xIO := by
      unfold caRq
      rw [if_pos k0]
    have eB : (moRq m x) = (0, mset m 7 0 0 1) := by
      have hQ := hT.1.2.2.2.2.1.1
      unfold moRq
      rw [if_pos (by rw [← hQ.1]; exact k0)]
    exact ⟨m, 1, Or.inr (Or.inl (⟨eA, rfl, rfl⟩)), by rw [eB]; exact opC_q hI hT (gO_r m) (qf_1 m 1) (by simp [mset]) (by omega) (fun h => absurd h (by decide))⟩
  ·
    by_cases k1 : m 16 0 x.toNat = -1
    · have eA : caRq m x = Sum.inr xIS := by
        unfold caRq
        rw [if_neg k0, if_pos k1]
      have eB : (moRq m x) = (0, mset m 7 0 0 2) := by
        have hQ := hT.1.2.2.2.2.1
        have h9 := hQ.1
        have hq := hQ.2.1 x.toNat (by omega)
        unfold moRq
        rw [if_neg (by omega), if_pos ?_]
        apply Classical.byContradiction
        intro h
        have h5 := hq.2.2.2.1
        have h6 := hq.2.2.2.2.2 h
        rw [if_neg h] at h5
        omega
      exact ⟨m, 2, Or.inr (Or.inr (⟨eA, rfl, rfl⟩)), by rw [eB]; exact opC_q hI hT (gO_r m) (qf_1 m 2) (by simp [mset]) (by omega) (fun h => absurd h (by decide))⟩
    ·
      have hl : ∀ g, gO m g → lm m g := fun g hg => fr_g (cf_r m) hg
      have hQ := hT.1.2.2.2.2.1
      have h9 := hQ.1
      have hq := hQ.2.1 x.toNat (by omega)
      have h5 := hq.2.2.2.1
      have hne : m 42 0 x.toNat ≠ -1 := fun h => by rw [if_pos h] at h5; exact k1 h5
      rw [if_neg hne] at h5
      have h6 := hq.2.2.2.2.2 hne
      have hb33 := hQ.2.2.2 x.toNat (by omega)
      obtain ⟨V, hV⟩ : ∃ V, V = m 16 0 x.toNat := ⟨_, rfl⟩
      have eA : caRq m x = Sum.inl (some (vi V)) := by unfold caRq; rw [if_neg k0, if_neg k1, hV]
      have hb : inR V := by unfold inR; omega
      have eB : ∀ g, gO m g → moRq g x = (V, mset g 7 0 0 0) := fun g hg => by
        have l := hl g hg
        unfold moRq
        rw [l.1 9 (by decide) (by decide), l.2 42 (by decide) (by decide), l.2 33 (by decide) (by decide), if_neg (by omega), if_neg hne, hV, h5]
      exact ⟨mset m 50 0 0 V, 0, Or.inl ⟨V, eA, hb, rfl, rfl⟩, by rw [eB _ (gO_50 m V)]; exact opC_q hI hT (gO_50 m V) (qf_1 _ _) (by simp [mset]) (by omega) (fun _ => ⟨by rw [ms_s], hb⟩)⟩
