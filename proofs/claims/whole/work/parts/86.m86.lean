/-! configure: class and reference -/
theorem lv_rd {a a' : zkM} (h : ∀ t i k, t ≠ 24 → t ≠ 2 → a' t i k = a t i k) : lv a a' := by
  refine ⟨fun t ht => ?_, fun t i ht hi => ?_⟩
  · funext k
    exact h t 0 k (by omega) (by omega)
  · funext k
    exact h t i k (by omega) (by omega)
theorem rdTf_I : ∀ (r k : Nat) (m : zkM), rdI m → rdI (rdTf r k m).2
  | 0, _, m, h => h
  | r + 1, k, m, h => by
    rw [rdTf_s]
    split
    · exact rdTf_I r (k + 1) _ (rdFit_I h k).1
    · exact (rdFit_I h k).1
theorem nbX_b {X : Int → Int} : ∀ (r : Nat) (a n d : Int), r + d = 3 → 0 ≤ d → 0 ≤ n → (d = 0 → n = 0) → (d = 1 → n ≤ 9) → (d = 2 → n ≤ 99) → (d = 3 → n ≤ 999) → 0 ≤ (nbX X r a n d).2.1 ∧ (nbX X r a n d).2.1 ≤ 999
  | 0, a, n, d, h1, h2, h3, h4, h5, h6, h7 => by
    show 0 ≤ n ∧ n ≤ 999
    have : d = 3 := by simpa using h1
    have := h7 this
    omega
  | r + 1, a, n, d, h1, h2, h3, h4, h5, h6, h7 => by
    unfold nbX
    split
    · refine nbX_b r (a + 1) _ (d + 1) (by push_cast at h1; omega) (by omega) (by omega) (by omega) ?_ ?_ ?_
      · intro h; have := h4 (by omega); omega
      · intro h; have := h5 (by omega); omega
      · intro h; have := h6 (by omega); omega
    · show 0 ≤ n ∧ n ≤ 999
      have : d = 0 ∨ d = 1 ∨ d = 2 ∨ d = 3 := by push_cast at h1; omega
      rcases this with e | e | e | e
      · have := h4 e; omega
      · have := h5 e; omega
      · have := h6 e; omega
      · have := h7 e; omega
theorem prX_b {X : Int → Int} : ∀ (cs : List Int) (a : Int), ∀ v ∈ (prX X cs a).2.2, 0 ≤ v ∧ v ≤ 999
  | [], a, v, hv => by simp [prX] at hv
  | c :: cs, a, v, hv => by
    rw [prX_c] at hv
    split at hv
    · split at hv
      · simp at hv
      · rcases List.mem_cons.mp hv with e | e
        · subst e
          exact nbX_b 3 a 0 0 rfl (by omega) (by omega) (by omega) (by omega) (by omega) (by omega)
        · exact prX_b cs _ v e
    · split at hv
      · exact prX_b cs _ v hv
      · simp at hv
theorem mN_b : ∀ (vs : List Int) (m : zkM), (∀ v ∈ vs, inR v) → (∀ k, k < 4 → inR (m 24 0 k)) → ∀ k, k < 4 → inR (mN m vs 24 0 k)
  | [], m, _, h => h
  | v :: vs, m, hv, h => by
    refine mN_b vs _ (fun x hx => hv x (List.mem_cons_of_mem _ hx)) (fun k hk => ?_)
    rw [ms_t (by decide)]
    simp only [mset]
    split
    · exact hv v List.mem_cons_self
    · exact h k hk
theorem rdTf_24 : ∀ (r k : Nat) (m : zkM), k + r = 8 → (∀ k, k < 4 → inR (m 24 0 k)) → ∀ q, q < 4 → inR ((rdTf r k m).2 24 0 q)
  | 0, _, m, _, h => h
  | r + 1, k, m, hk, h => by
    have hf : ∀ q, q < 4 → inR ((rdFit m k).2 24 0 q) := by
      intro q hq
      rw [fit_x (by omega)]
      dsimp only
      rw [ms_t (by decide)]
      refine mN_b _ _ (fun v hv => ?_) (fun q hq => by rw [ms_t (by decide)]; exact h q hq) q hq
      have := prX_b _ _ v hv
      unfold inR; omega
    rw [rdTf_s]
    split
    · exact rdTf_24 r (k + 1) _ (by omega) hf
    · exact hf
theorem thr_b (m : zkM) (c : Int) : 0 ≤ (moDo m c).2 7 0 0 ∧ (moDo m c).2 7 0 0 ≤ 3 := by
  unfold moDo
  repeat' split
  · unfold moAddTask
    repeat' split
    all_goals (dsimp only; simp [mset])
  · show 0 ≤ (moSetS _ _ _ _).2 7 0 0 ∧ (moSetS _ _ _ _).2 7 0 0 ≤ 3
    unfold moSetS
    repeat' split
    all_goals (dsimp only; simp [mset])
  · unfold moReq
    repeat' split
    all_goals (dsimp only; simp [mset])
  · unfold moAddSeg
    repeat' split
    all_goals (dsimp only; simp [mset])
  · unfold moSetP
    repeat' split
    all_goals (dsimp only; simp [mset])
theorem st_cfg {a b : zkM} {T : Int} (h : sR a b T) (hr : rR a b) : (sR (caCfg a).2 (moCfg b).2 T ∧ rR (caCfg a).2 (moCfg b).2) ∧ (((caCfg a).1 = Sum.inr xIA ∧ (moCfg b).2 7 0 0 = 1) ∨ ((caCfg a).1 = Sum.inr xIS ∧ (moCfg b).2 7 0 0 = 2) ∨ (∃ x : Int, (0 ≤ x ∧ x ≤ 12) ∧ (caCfg a).1 = Sum.inl (some (vi x)) ∧ (moCfg b).1 = x ∧ (moCfg b).2 7 0 0 = 0)) ∧ (rdI a ∧ cfP (rdTk a).2 ∧ inR (caPf (rdTk a).2 (rdTk a).1).1 ∧ inR ((moCd b).2 7 0 0)) ∧ (∀ t i k, ¬ LC t i → t ≠ 2 → t ≠ 24 → ¬ (t = 6 ∧ i = 0 ∧ k = 4) → (caCfg a).2 t i k = a t i k) ∧ (∀ t i k, ¬ LN t i k → ¬ (t = 7 ∧ i = 0 ∧ 28 ≤ k ∧ k ≤ 32) → t ≠ 45 → (moCfg b).2 t i k = b t i k) := by
  have eX := X_eq hr
  have hK := h.1.1
  have hn := kR_n hK
  obtain ⟨rr1, rr2, rr3, rr4, rr5, rr6, rr7⟩ := id hr
  have hA := hK.2.2.2.2.1
  have hM := hK.2.2.2.2.2
  have hQ := h.1.2.2.2.2.1
  generalize hX : XC a = X at *
  have hle : (prX X (pat (selX X)) 0).1 ≤ a 2 0 2 := by
    refine prX_le (X := X) (L := a 2 0 2) (fun x hx => ?_) _ _ (pat_ok _ (sel_8 X)).2.2.2 (by omega)
    rw [← hX]
    exact XC_hi (a := a) (b := a) x hx
  have hge := prX_ge X (pat (selX X)) 0
  -- the reference
  obtain ⟨c1, c2, c3, c4⟩ := rcm_x (moCm1 b)
  rw [eX] at c1 c2 c4
  have eCr : moCr b = rcm (moCm1 b) (0, -1) := rfl
  rw [← eCr] at c1 c2 c3 c4
  have m7 : ∀ k, k ≠ 0 → k ≠ 28 → k ≠ 29 → moCm1 b 7 0 k = b 7 0 k := by
    intro k k0 k28 k29
    unfold moCm1
    rw [ms_k k28, ms_k k29, ms_k k0]
  have m29 : moCm1 b 7 0 29 = b 7 0 28 := by unfold moCm1; simp [mset]
  have m28 : moCm1 b 7 0 28 = 0 := by unfold moCm1; simp [mset]
  have mt : ∀ t, t ≠ 7 → moCm1 b t = b t := by
    intro t ht
    unfold moCm1
    rw [mset_t ht, mset_t ht, mset_t ht]
  have htx : txB (moCm1 b) := by
    refine ⟨?_, ⟨by rw [m29]; exact rr1.2, fun k hk => by rw [mt 44 (by decide)]; exact (rr2 k hk).2⟩, ?_, ?_, fun k hk => by rw [mt 45 (by decide)]; exact rr7 k hk⟩
    · unfold moA moRe moLe at *
      rw [m7 2 (by decide) (by decide) (by decide), m7 6 (by decide) (by decide) (by decide), m7 7 (by decide) (by decide) (by decide), m7 8 (by decide) (by decide) (by decide), mt 30 (by decide), mt 31 (by decide), mt 32 (by decide)]
      exact hM
    · rw [m7 11 (by decide) (by decide) (by decide), h.2.2.1]
      have := h.2.2.2
      unfold inR; omega
    · rw [m7 9 (by decide) (by decide) (by decide)]
      exact ⟨hQ.1.2.1, hQ.1.2.2⟩
  have hB := (rcm_B htx (p := (0, -1)) ⟨by decide, by decide⟩).1
  rw [← eCr] at hB
  have h45 := hB.2.2.2.2
  -- the class
  have eTR : rdTR a = rdTf 8 0 (mset a 2 0 4 0) := rfl
  have hX0 : XC (mset a 2 0 4 0) = X := by rw [← hX]; rfl
  have hI : rdI a := ⟨⟨by omega, fun k hk => by rw [(rr2 k hk).1]; exact (rr2 k hk).2⟩, rr4, rr5⟩
  have h24 : ∀ k, k < 4 → inR ((rdTR a).2 24 0 k) := rdTf_24 8 0 _ rfl (fun k hk => by rw [ms_t (by decide)]; exact rr6 k hk)
  have hI0 : rdI (mset a 2 0 4 0) := ⟨hI.1, hI.2.1, by rw [ms_s]; omega⟩
  have hIT : rdI (rdTR a).2 := rdTf_I 8 0 _ hI0
  by_cases hfit : (prX X (pat (selX X)) 0).2.1 = true ∧ (prX X (pat (selX X)) 0).1 = a 2 0 2
  · obtain ⟨t1, ⟨t2, t3⟩, t4⟩ := tf_yes hfit 8 0 (mset a 2 0 4 0) rfl (Nat.zero_le _) hX0 rfl
    rw [← eTR] at t1 t2 t3 t4
    have eTk : rdTk a = (((selX X : Nat) : Int), mset (rdTR a).2 2 0 2 0) := by unfold rdTk; rw [t1]
    -- the class's memory
    have fA : ∀ t i k, t ≠ 24 → t ≠ 2 → (mset (rdTR a).2 2 0 2 0) t i k = a t i k := by
      intro t i k h24 h2
      rw [ms_t h2, t4 t i k (by omega) (by omega), ms_t h2]
    have hl := lv_rd fA
    -- the reference's memory
    have hnf : (moCr b).2.2 = ((prX X (pat (selX X)) 0).1, -1) := by rw [c2, mkF_ok hfit.1]
    have hfl : moCfl b = -1 := by
      unfold moCfl
      rw [hnf]
      dsimp only
      rw [if_neg]
      rw [c3 7 (by decide), m29]
      omega
    have e1 : (moCr b).2.2.1 = (prX X (pat (selX X)) 0).1 := by rw [hnf]
    have hd : moCd b = moDo (zC (moCr b).2.1 ((prX X (pat (selX X)) 0).1, -1)) (cmdX (selX X)) := by
      unfold moCd
      rw [hfl, e1, c1]
    generalize hb2 : zC (moCr b).2.1 ((prX X (pat (selX X)) 0).1, -1) = b2 at *
    have f7 : ∀ k, k ≠ 0 → k ≠ 28 → k ≠ 29 → k ≠ 30 → k ≠ 31 → b2 7 0 k = b 7 0 k := by
      intro k k0 k28 k29 k30 k31
      rw [← hb2]
      unfold zC
      rw [ms_k k31, ms_k k30, c3 7 (by decide), m7 k k0 k28 k29]
    have f28 : b2 7 0 28 = 0 := by
      rw [← hb2]
      unfold zC
      rw [ms_k (by decide), ms_k (by decide), c3 7 (by decide), m28]
    have ft : ∀ t, t ≠ 7 → t ≠ 45 → b2 t = b t := by
      intro t h7 h45
      rw [← hb2]
      unfold zC
      rw [mset_t h7, mset_t h7, c3 t h45, mt t h7]
    have f45 : b2 45 = (moCr b).2.1 45 := by
      rw [← hb2]
      unfold zC
      rw [mset_t (by decide), mset_t (by decide)]
    have fi : ∀ t i k, ¬ (t = 7 ∧ i = 0) → t ≠ 45 → b2 t i k = b t i k := by
      intro t i k hn h45
      by_cases e : t = 7
      · subst e
        have hi : i ≠ 0 := by omega
        rw [← hb2]
        unfold zC
        rw [ms_i hi, ms_i hi, c3 7 (by decide)]
        unfold moCm1
        rw [ms_i hi, ms_i hi, ms_i hi]
      · rw [ft t e h45]
    have hlm : lm b b2 := ⟨fun k h0 h28 => f7 k h0 (by omega) (by omega) (by omega) (by omega), fun t h30 h43 => by rw [ft t (by omega) (by omega)]⟩
    have hs := sR_lv hl hlm h
    have ha5 : (mset (rdTR a).2 2 0 2 0) 0 0 5 ≤ 5 := by rw [fA 0 0 5 (by decide) (by decide)]; omega
    have hnum : ∀ q : Nat, q < (prX X (pat (selX X)) 0).2.2.length → rdNum (mset (rdTR a).2 2 0 2 0) q = (prX X (pat (selX X)) 0).2.2.getD q 0 := by
      intro q hq
      unfold rdNum
      rw [ms_k (by decide), t2, if_pos (by omega), ms_t (by decide)]
      exact t3 q hq
    have harg := c4 hfit.1
    rw [← f45] at harg
    -- bounds
    have hcnt : 0 ≤ (rdTR a).2 2 0 3 ∧ (rdTR a).2 2 0 3 ≤ 4 := by
      rw [t2]
      have : (prX X (pat (selX X)) 0).2.2.length ≤ 4 := by
        have h8 := sel_8 X
        generalize hg : (prX X (pat (selX X)) 0).2.2 = ns at *
        have hz : selX X = 0 ∨ selX X = 1 ∨ selX X = 2 ∨ selX X = 3 ∨ selX X = 4 ∨ selX X = 5 ∨ selX X = 6 ∨ selX X = 7 := by omega
        rcases hz with e | e | e | e | e | e | e | e
        · rw [e] at harg; have := harg.2.2.2.2; omega
        · rw [e] at harg; have := harg.2.2.2; omega
        · rw [e] at harg; have := harg.2.2; omega
        · rw [e] at harg; have := harg.2.2.2; omega
        · rw [e] at harg; have := harg.2.2.2; omega
        · rw [e, prX_nn _ _ (by decide)] at hg; rw [← hg]; decide
        · rw [e, prX_nn _ _ (by decide)] at hg; rw [← hg]; decide
        · rw [e, prX_nn _ _ (by decide)] at hg; rw [← hg]; decide
      omega
    have G : (sR (caPf (mset (rdTR a).2 2 0 2 0) (selX X : Nat)).2 (moDo b2 (cmdX (selX X))).2 T ∧ (((-4 ≤ (caPf (mset (rdTR a).2 2 0 2 0) (selX X : Nat)).1 ∧ (caPf (mset (rdTR a).2 2 0 2 0) (selX X : Nat)).1 < 0) ∧ (1 ≤ (moDo b2 (cmdX (selX X))).2 7 0 0 ∧ (moDo b2 (cmdX (selX X))).2 7 0 0 ≤ 3)) ∨ ((0 ≤ (caPf (mset (rdTR a).2 2 0 2 0) (selX X : Nat)).1 ∧ (caPf (mset (rdTR a).2 2 0 2 0) (selX X : Nat)).1 ≤ 12) ∧ (caPf (mset (rdTR a).2 2 0 2 0) (selX X : Nat)).1 = (moDo b2 (cmdX (selX X))).1 ∧ (moDo b2 (cmdX (selX X))).2 7 0 0 = 0))) ∧ cf (mset (rdTR a).2 2 0 2 0) (caPf (mset (rdTR a).2 2 0 2 0) (selX X : Nat)).2 ∧ mf b2 (moDo b2 (cmdX (selX X))).2 := by
      generalize hg : (prX X (pat (selX X)) 0).2.2 = ns at *
      generalize ha1 : mset (rdTR a).2 2 0 2 0 = a1 at *
      have h8 := sel_8 X
      have hz : selX X = 0 ∨ selX X = 1 ∨ selX X = 2 ∨ selX X = 3 ∨ selX X = 4 ∨ selX X = 5 ∨ selX X = 6 ∨ selX X = 7 := by omega
      rcases hz with e | e | e | e | e | e | e | e
      · rw [e] at harg
        obtain ⟨g0, g1, g2, g3, g4⟩ := harg
        rw [e]
        have eA : caPf a1 ((0 : Nat) : Int) = bePt a1 (ns.getD 0 0) (ns.getD 1 0) (ns.getD 2 0) (ns.getD 3 0) := by
          show bePt a1 (rdNum a1 ((0 : Nat) : Int)) (rdNum a1 ((1 : Nat) : Int)) (rdNum a1 ((2 : Nat) : Int)) (rdNum a1 ((3 : Nat) : Int)) = _
          rw [hnum 0 (by omega), hnum 1 (by omega), hnum 2 (by omega), hnum 3 (by omega)]
        have eB : moDo b2 (cmdX 0) = moAddTask b2 (ns.getD 0 0) (ns.getD 1 0) (ns.getD 2 0) (ns.getD 3 0) := by
          show moAddTask b2 (b2 45 0 0) (b2 45 0 1) (b2 45 0 2) (b2 45 0 3) = _
          rw [g0, g1, g2, g3]
        rw [eA, eB]
        refine ⟨⟨st_put hs _ _ _ _, ?_⟩, cf_bePt _ _ _ _, mf_moAddTask _ _ _ _ _⟩
        have := ag_put hs (ns.getD 0 0) (ns.getD 1 0) (ns.getD 2 0) (ns.getD 3 0)
        omega
      · rw [e] at harg
        obtain ⟨g0, g1, g2, g4⟩ := harg
        rw [e]
        have eA : caPf a1 ((1 : Nat) : Int) = bePv a1 (ns.getD 0 0) (ns.getD 1 0) (ns.getD 2 0) := by
          show bePv a1 (rdNum a1 ((0 : Nat) : Int)) (rdNum a1 ((1 : Nat) : Int)) (rdNum a1 ((2 : Nat) : Int)) = _
          rw [hnum 0 (by omega), hnum 1 (by omega), hnum 2 (by omega)]
        have eB : moDo b2 (cmdX 1) = (b2i (moSetS b2 (ns.getD 0 0) (ns.getD 1 0) (ns.getD 2 0)).1, (moSetS b2 (ns.getD 0 0) (ns.getD 1 0) (ns.getD 2 0)).2) := by
          show (b2i (moSetS b2 (b2 45 0 0) (b2 45 0 1) (b2 45 0 2)).1, (moSetS b2 (b2 45 0 0) (b2 45 0 1) (b2 45 0 2)).2) = _
          rw [g0, g1, g2]
        rw [eA, eB]
        refine ⟨⟨st_srv hs _ _ _, ?_⟩, cf_bePv _ _ _, mf_moSetS _ _ _ _⟩
        have := ag_srv hs (ns.getD 0 0) (ns.getD 1 0) (ns.getD 2 0)
        dsimp only
        omega
      · rw [e] at harg
        obtain ⟨g0, g1, g4⟩ := harg
        rw [e]
        have eA : caPf a1 ((2 : Nat) : Int) = bePq a1 (ns.getD 0 0) (ns.getD 1 0) := by
          show bePq a1 (rdNum a1 ((0 : Nat) : Int)) (rdNum a1 ((1 : Nat) : Int)) = _
          rw [hnum 0 (by omega), hnum 1 (by omega)]
        have eB : moDo b2 (cmdX 2) = moReq b2 (ns.getD 0 0) (ns.getD 1 0) := by
          show moReq b2 (b2 45 0 0) (b2 45 0 1) = _
          rw [g0, g1]
        rw [eA, eB]
        refine ⟨⟨st_req hs _ _, ?_⟩, cf_bePq _ _, mf_moReq _ _ _⟩
        have := ag_req hs (ns.getD 0 0) (ns.getD 1 0)
        omega
      · rw [e] at harg
        obtain ⟨g0, g1, g2, g4⟩ := harg
        rw [e]
        have eA : caPf a1 ((3 : Nat) : Int) = bePg a1 (ns.getD 0 0) (ns.getD 1 0) (ns.getD 2 0) := by
          show bePg a1 (rdNum a1 ((0 : Nat) : Int)) (rdNum a1 ((1 : Nat) : Int)) (rdNum a1 ((2 : Nat) : Int)) = _
          rw [hnum 0 (by omega), hnum 1 (by omega), hnum 2 (by omega)]
        have eB : moDo b2 (cmdX 3) = moAddSeg b2 (ns.getD 0 0) (ns.getD 1 0) (ns.getD 2 0) := by
          show moAddSeg b2 (b2 45 0 0) (b2 45 0 1) (b2 45 0 2) = _
          rw [g0, g1, g2]
        rw [eA, eB]
        refine ⟨⟨st_seg hs _ _ _, ?_⟩, cf_bePg ha5 _ _ _, mf_moAddSeg _ _ _ _⟩
        have := ag_seg hs (ns.getD 0 0) (ns.getD 1 0) (ns.getD 2 0)
        omega
      · rw [e] at harg
        obtain ⟨g0, g1, g2, g4⟩ := harg
        rw [e]
        have eA : caPf a1 ((4 : Nat) : Int) = bePg a1 (ns.getD 0 0) (-1) (ns.getD 1 0) := by
          show bePg a1 (rdNum a1 ((0 : Nat) : Int)) (-1) (rdNum a1 ((1 : Nat) : Int)) = _
          rw [hnum 0 (by omega), hnum 1 (by omega)]
        have eB : moDo b2 (cmdX 4) = moAddSeg b2 (ns.getD 0 0) (-1) (ns.getD 1 0) := by
          show moAddSeg b2 (b2 45 0 0) (b2 45 0 1) (b2 45 0 2) = _
          rw [g0, g1, g2]
        rw [eA, eB]
        refine ⟨⟨st_seg hs _ _ _, ?_⟩, cf_bePg ha5 _ _ _, mf_moAddSeg _ _ _ _⟩
        have := ag_seg hs (ns.getD 0 0) (-1) (ns.getD 1 0)
        omega
      · rw [e] at harg
        rw [e]
        have eA : caPf a1 ((5 : Nat) : Int) = bePp a1 0 := rfl
        have eB : moDo b2 (cmdX 5) = moSetP b2 0 := by
          show moSetP b2 (b2 45 0 0) = _
          rw [show b2 45 0 0 = 0 from harg]
        rw [eA, eB]
        refine ⟨⟨st_pol hs _, ?_⟩, cf_bePp _, mf_moSetP _ _⟩
        have := ag_pol hs 0
        omega
      · rw [e] at harg
        rw [e]
        have eA : caPf a1 ((6 : Nat) : Int) = bePp a1 1 := rfl
        have eB : moDo b2 (cmdX 6) = moSetP b2 1 := by
          show moSetP b2 (b2 45 0 0) = _
          rw [show b2 45 0 0 = 1 from harg]
        rw [eA, eB]
        refine ⟨⟨st_pol hs _, ?_⟩, cf_bePp _, mf_moSetP _ _⟩
        have := ag_pol hs 1
        omega
      · rw [e] at harg
        rw [e]
        have eA : caPf a1 ((7 : Nat) : Int) = bePp a1 2 := rfl
        have eB : moDo b2 (cmdX 7) = moSetP b2 2 := by
          show moSetP b2 (b2 45 0 0) = _
          rw [show b2 45 0 0 = 2 from harg]
        rw [eA, eB]
        refine ⟨⟨st_pol hs _, ?_⟩, cf_bePp _, mf_moSetP _ _⟩
        have := ag_pol hs 2
        omega
    obtain ⟨⟨G1, G2⟩, G3, G4⟩ := G
    have hcf : cfP (mset (rdTR a).2 2 0 2 0) := by
      refine ⟨?_, ?_, fun i hi => ?_, ?_, ?_, fun i hi => ?_, fun k hk => ?_, ?_, ?_, fun k hk => ?_⟩
      · rw [fA 0 0 5 (by decide) (by decide)]; exact hA.1
      · rw [fA 0 0 7 (by decide) (by decide), h.2.1]
        have := h.2.2.2
        unfold inR; omega
      · rw [fA 5 i 4 (by decide) (by decide)]
        have := (hA.2.1 i hi).1
        unfold inR; omega
      · rw [fA 4 0 3 (by decide) (by decide)]; exact hA.2.2.2.1
      · rw [fA 4 0 4 (by decide) (by decide)]
        have := hA.2.2.2.2.1
        unfold inR; omega
      · rw [fA 5 i 8 (by decide) (by decide)]; exact (hA.2.1 i hi).1.2.2.2.1
      · rw [fA 17 0 k (by decide) (by decide)]
        have := hA.2.2.1 k hk
        unfold inR; omega
      · rw [fA 3 0 4 (by decide) (by decide)]
        have := hQ.1
        omega
      · rw [ms_k (by decide)]; exact hcnt
      · rw [ms_t (by decide)]; exact h24 k hk
    have hgen : caCfg a = if (caPf (mset (rdTR a).2 2 0 2 0) (selX X : Nat)).1 < 0 then (Sum.inr xIS, (caPf (mset (rdTR a).2 2 0 2 0) (selX X : Nat)).2) else (Sum.inl (some (vi (caPf (mset (rdTR a).2 2 0 2 0) (selX X : Nat)).1)), (caPf (mset (rdTR a).2 2 0 2 0) (selX X : Nat)).2) := by
      unfold caCfg
      rw [eTk]
      dsimp only
      rw [if_neg (by omega)]
    have hgenB : moCfg b = if (moDo b2 (cmdX (selX X))).2 7 0 0 = 0 then moDo b2 (cmdX (selX X)) else (0, mset (moDo b2 (cmdX (selX X))).2 7 0 0 2) := by
      unfold moCfg
      rw [hfl, if_neg (by decide), hd]
    have hRR : rR (caPf (mset (rdTR a).2 2 0 2 0) (selX X : Nat)).2 (moDo b2 (cmdX (selX X))).2 := by
      have fa : ∀ t i k, ¬ LC t i → (caPf (mset (rdTR a).2 2 0 2 0) (selX X : Nat)).2 t i k = (mset (rdTR a).2 2 0 2 0) t i k := G3
      have fb : ∀ t i k, ¬ LN t i k → (moDo b2 (cmdX (selX X))).2 t i k = b2 t i k := G4
      have t24 : (rdTR a).2 2 0 4 = (rdTR a).2 2 0 4 := rfl
      refine ⟨?_, fun k hk => ?_, ?_, ?_, ?_, fun k hk => ?_, fun k hk => ?_⟩
      · rw [fa 2 0 2 (by omega), fb 7 0 28 (by omega), f28, ms_s]; omega
      · rw [fa 23 0 k (by omega), fb 44 0 k (by omega), fA 23 0 k (by decide) (by decide), ft 44 (by decide) (by decide)]; exact rr2 k hk
      · rw [fa 6 0 4 (by omega), fb 7 0 32 (by omega), fA 6 0 4 (by decide) (by decide), f7 32 (by decide) (by decide) (by decide) (by decide) (by decide)]; exact rr3
      · rw [fa 2 0 3 (by omega), ms_k (by decide)]; exact hcnt
      · rw [fa 2 0 4 (by omega), ms_k (by decide)]; exact hIT.2.2
      · rw [fa 24 0 k (by omega), ms_t (by decide)]; exact h24 k hk
      · rw [fb 45 0 k (by omega), f45]; exact h45 k hk
    refine ⟨⟨?_, ?_⟩, ?_, ⟨hI, by rw [eTk]; exact hcf, by rw [eTk]; dsimp only; unfold inR; omega, by rw [hd]; unfold inR; omega⟩, ?_, ?_⟩
    · rw [hgen, hgenB]
      rcases G2 with g | g
      · rw [if_pos g.1.2, if_neg (by omega)]
        exact sR_thr G1
      · rw [if_neg (by omega), if_pos g.2.2]
        exact G1
    · rw [hgen, hgenB]
      rcases G2 with g | g
      · rw [if_pos g.1.2, if_neg (by omega)]
        exact hRR
      · rw [if_neg (by omega), if_pos g.2.2]
        exact hRR
    · rw [hgen, hgenB]
      rcases G2 with g | g
      · rw [if_pos g.1.2, if_neg (by omega)]
        exact Or.inr (Or.inl ⟨rfl, ms_s (moDo b2 (cmdX (selX X))).2 7 0 0 2⟩)
      · rw [if_neg (by omega), if_pos g.2.2]
        exact Or.inr (Or.inr ⟨_, g.1, rfl, g.2.1.symm, g.2.2⟩)
    · intro t i k hL h2 h24' h6
      have : (caCfg a).2 = (caPf (mset (rdTR a).2 2 0 2 0) (selX X : Nat)).2 := by rw [hgen]; split <;> rfl
      rw [this, G3 t i k hL]
      exact fA t i k h24' h2
    · intro t i k hL h7 h45'
      have : (moCfg b).2 t i k = (moDo b2 (cmdX (selX X))).2 t i k := by
        rw [hgenB]
        split
        · rfl
        · show mset _ 7 0 0 2 t i k = _
          simp only [mset]
          rw [if_neg (by omega)]
      rw [this, G4 t i k hL]
      by_cases e : t = 7 ∧ i = 0
      · obtain ⟨rfl, rfl⟩ := e
        exact f7 k (by omega) (by omega) (by omega) (by omega) (by omega)
      · exact fi t i k e h45'
  · obtain ⟨t1, t2, t4⟩ := tf_no hfit 8 0 (mset a 2 0 4 0) rfl hX0 rfl ⟨by rw [ms_s]; exact hge, fun g => absurd g (by omega)⟩
    rw [← eTR] at t1 t2 t4
    have t24 := t2 (sel_8 X)
    have eTk : rdTk a = (-1, mset (rdTR a).2 2 0 2 0) := by unfold rdTk; rw [t1]
    have fA : ∀ t i k, t ≠ 24 → t ≠ 2 → (mset (rdTR a).2 2 0 2 0) t i k = a t i k := by
      intro t i k h24 h2
      rw [ms_t h2, t4 t i k (by omega) (by omega), ms_t h2]
    have hgen : caCfg a = (Sum.inr xIA, mset (mset (rdTR a).2 2 0 2 0) 6 0 4 (prX X (pat (selX X)) 0).1) := by
      unfold caCfg
      rw [eTk]
      dsimp only
      rw [if_pos rfl, ms_k (by decide), t24]
    have hfl : moCfl b = (prX X (pat (selX X)) 0).1 := by
      unfold moCfl
      rw [c2, c3 7 (by decide), m29]
      by_cases g : (prX X (pat (selX X)) 0).2.1 = true
      · rw [mkF_ok g]
        dsimp only
        have hne : (prX X (pat (selX X)) 0).1 ≠ a 2 0 2 := fun e => hfit ⟨g, e⟩
        rw [if_pos ⟨rfl, by omega⟩]
      · rw [mkF_no g]
        dsimp only
        rw [if_neg (by omega)]
    have e1 : (moCr b).2.2.1 = (prX X (pat (selX X)) 0).1 := by rw [c2]; rfl
    have hgenB : moCfg b = (0, mset (mset (zC (moCr b).2.1 ((prX X (pat (selX X)) 0).1, (prX X (pat (selX X)) 0).1)) 7 0 32 (prX X (pat (selX X)) 0).1) 7 0 0 1) := by
      unfold moCfg
      rw [hfl, if_pos (by omega), e1]
    generalize (prX X (pat (selX X)) 0).1 = P at *
    have hg2 : (caCfg a).2 = mset (mset (rdTR a).2 2 0 2 0) 6 0 4 P := by rw [hgen]
    have hgB2 : (moCfg b).2 = mset (mset (zC (moCr b).2.1 (P, P)) 7 0 32 P) 7 0 0 1 := by rw [hgenB]
    have f7 : ∀ k, k ≠ 0 → k ≠ 28 → k ≠ 29 → k ≠ 30 → k ≠ 31 → k ≠ 32 → (moCfg b).2 7 0 k = b 7 0 k := by
      intro k k0 k28 k29 k30 k31 k32
      rw [hgB2, ms_k k0, ms_k k32]
      unfold zC
      rw [ms_k k31, ms_k k30, c3 7 (by decide), m7 k k0 k28 k29]
    have ft : ∀ t, t ≠ 7 → t ≠ 45 → (moCfg b).2 t = b t := by
      intro t h7 h45
      rw [hgB2, mset_t h7, mset_t h7]
      unfold zC
      rw [mset_t h7, mset_t h7, c3 t h45, mt t h7]
    have hlm : lm b (moCfg b).2 := ⟨fun k h0 h28 => f7 k h0 (by omega) (by omega) (by omega) (by omega) (by omega), fun t h30 h43 => by rw [ft t (by omega) (by omega)]⟩
    have fA2 : ∀ t i k, t ≠ 24 → t ≠ 2 → ¬ (t = 6 ∧ i = 0 ∧ k = 4) → (caCfg a).2 t i k = a t i k := by
      intro t i k h24 h2 h6
      rw [hg2, ← fA t i k h24 h2]
      generalize mset (rdTR a).2 2 0 2 0 = q
      simp only [mset]
      rw [if_neg h6]
    have hl : lv a (caCfg a).2 := by
      refine ⟨fun t ht => ?_, fun t i ht hi => ?_⟩
      · funext k
        exact fA2 t 0 k (by omega) (by omega) (by omega)
      · funext k
        exact fA2 t i k (by omega) (by omega) (by omega)
    refine ⟨⟨sR_lv hl hlm h, ?_⟩, ?_, ⟨hI, ?_, ?_, ?_⟩, ?_, ?_⟩
    · have a2 : (caCfg a).2 2 0 2 = 0 := by rw [hg2, ms_t (by decide), ms_s]
      have a3 : (caCfg a).2 2 0 3 = (rdTR a).2 2 0 3 := by rw [hg2, ms_t (by decide), ms_k (by decide)]
      have a4 : (caCfg a).2 2 0 4 = (rdTR a).2 2 0 4 := by rw [hg2, ms_t (by decide), ms_k (by decide)]
      have a6 : (caCfg a).2 6 0 4 = P := by rw [hg2, ms_s]
      have b28 : (moCfg b).2 7 0 28 = 0 := by
        rw [hgB2, ms_k (by decide), ms_k (by decide)]
        unfold zC
        rw [ms_k (by decide), ms_k (by decide), c3 7 (by decide), m28]
      have b32 : (moCfg b).2 7 0 32 = P := by
        rw [hgB2, ms_k (by decide), ms_s]
      refine ⟨by omega, fun k hk => ?_, by omega, ?_, ?_, fun k hk => ?_, fun k hk => ?_⟩
      · rw [fA2 23 0 k (by decide) (by decide) (by omega), ft 44 (by decide) (by decide)]; exact rr2 k hk
      · rw [a3]; exact hIT.2.1
      · rw [a4]; exact hIT.2.2
      · rw [hg2, ms_t (by decide), ms_t (by decide)]
        exact h24 k hk
      · rw [hgB2, ms_t (by decide), ms_t (by decide)]
        unfold zC
        rw [ms_t (by decide), ms_t (by decide)]
        exact h45 k hk
    · refine Or.inl ⟨by rw [hgen], ?_⟩
      rw [hgB2, ms_s]
    · rw [eTk]
      dsimp only
      refine ⟨?_, ?_, fun i hi => ?_, ?_, ?_, fun i hi => ?_, fun k hk => ?_, ?_, ?_, fun k hk => ?_⟩
      · rw [fA 0 0 5 (by decide) (by decide)]; exact hA.1
      · rw [fA 0 0 7 (by decide) (by decide), h.2.1]
        have := h.2.2.2
        unfold inR; omega
      · rw [fA 5 i 4 (by decide) (by decide)]
        have := (hA.2.1 i hi).1
        unfold inR; omega
      · rw [fA 4 0 3 (by decide) (by decide)]; exact hA.2.2.2.1
      · rw [fA 4 0 4 (by decide) (by decide)]
        have := hA.2.2.2.2.1
        unfold inR; omega
      · rw [fA 5 i 8 (by decide) (by decide)]; exact (hA.2.1 i hi).1.2.2.2.1
      · rw [fA 17 0 k (by decide) (by decide)]
        have := hA.2.2.1 k hk
        unfold inR; omega
      · rw [fA 3 0 4 (by decide) (by decide)]
        have := hQ.1
        omega
      · rw [ms_k (by decide)]; exact hIT.2.1
      · rw [ms_t (by decide)]; exact h24 k hk
    · rw [eTk]
      show inR (caPf _ (-1)).1
      unfold caPf
      rw [if_neg (by decide), if_neg (by decide), if_neg (by decide), if_neg (by decide), if_neg (by decide)]
      unfold bePp
      rw [if_pos (by decide)]
      show inR (-2 : Int)
      decide
    · have := thr_b (zC (moCr b).2.1 ((moCr b).2.2.1, moCfl b)) (moCr b).1
      show inR ((moDo (zC (moCr b).2.1 ((moCr b).2.2.1, moCfl b)) (moCr b).1).2 7 0 0)
      unfold inR; omega
    · intro t i k hL h2 h24' h6
      exact fA2 t i k h24' h2 h6
    · intro t i k hL h7 h45'
      by_cases e : t = 7
      · subst e
        by_cases ei : i = 0
        · subst ei
          exact f7 k (by omega) (by omega) (by omega) (by omega) (by omega) (by omega)
        · rw [hgB2, ms_i ei, ms_i ei]
          unfold zC
          rw [ms_i ei, ms_i ei, c3 7 (by decide)]
          unfold moCm1
          rw [ms_i ei, ms_i ei, ms_i ei]
      · rw [ft t e h45']
