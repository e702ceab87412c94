/-! the reference's command is the pattern's -/
theorem mkF_ok {r : Int × Bool × List Int} (h : r.2.1 = true) : mkF r = (r.1, -1) := by unfold mkF; rw [if_pos h]
theorem mkF_no {r : Int × Bool × List Int} (h : ¬ r.2.1 = true) : mkF r = (r.1, r.1) := by unfold mkF; rw [if_neg h]
theorem prX_no' {X : Int → Int} {xs ys : List Int} {a : Int} (h : ¬ (prX X xs a).2.1 = true) : prX X (xs ++ ys) a = prX X xs a := by
  rw [prX_app, if_neg h]
theorem prX_ok' {X : Int → Int} {xs ys : List Int} {a : Int} (h : (prX X xs a).2.1 = true) : prX X (xs ++ ys) a = ((prX X ys (prX X xs a).1).1, (prX X ys (prX X xs a).1).2.1, (prX X xs a).2.2 ++ (prX X ys (prX X xs a).1).2.2) := by
  rw [prX_app, if_pos h]
theorem tks_x2 {m : zkM} {xs cs : List Int} (hc : ∀ c ∈ cs, c ≠ 35) : tks m cs (mkF (prX (sgn m) xs 0)) = mkF (prX (sgn m) (xs ++ cs) 0) := by
  have hge := prX_ge (sgn m) xs 0
  by_cases h : (prX (sgn m) xs 0).2.1 = true
  · rw [mkF_ok h, tks_x cs _ hge hc, prX_ok' h]
    rfl
  · rw [mkF_no h, tks_f (by omega), prX_no' h, mkF_no h]
theorem num_x2 {m : zkM} {xs : List Int} : (num m (mkF (prX (sgn m) xs 0))).2 = mkF (prX (sgn m) (xs ++ [32, 35]) 0) ∧ ((prX (sgn m) (xs ++ [32, 35]) 0).2.1 = true → (prX (sgn m) (xs ++ [32, 35]) 0).2.2 = (prX (sgn m) xs 0).2.2 ++ [(num m (mkF (prX (sgn m) xs 0))).1]) := by
  have hge := prX_ge (sgn m) xs 0
  by_cases h : (prX (sgn m) xs 0).2.1 = true
  · rw [mkF_ok h, num_x hge, prX_ok' h]
    refine ⟨rfl, fun hok => ?_⟩
    have hl := prX_len1 hok
    dsimp only
    generalize (prX (sgn m) [32, 35] (prX (sgn m) xs 0).1).2.2 = ns at *
    cases ns with
    | nil => exact absurd hl (by decide)
    | cons v vs =>
      cases vs with
      | nil => rfl
      | cons w ws => simp at hl
  · rw [mkF_no h, num_f (by omega), prX_no' h, mkF_no h]
    exact ⟨rfl, fun hok => absurd hok h⟩
theorem prX_nn {X : Int → Int} : ∀ (cs : List Int) (a : Int), (∀ c ∈ cs, c ≠ 35) → (prX X cs a).2.2 = []
  | [], _, _ => rfl
  | c :: cs, a, hc => by
    rw [prX_c, if_neg (hc c List.mem_cons_self)]
    split
    · exact prX_nn cs _ (fun c' h' => hc c' (List.mem_cons_of_mem _ h'))
    · rfl
def cmdX (k : Nat) : Int := match k with | 0 => 0 | 1 => 1 | 2 => 2 | 3 => 3 | 4 => 3 | _ => 4
def argX (k : Nat) (ns : List Int) (f : Nat → Int) : Prop := match k with
  | 0 => f 0 = ns.getD 0 0 ∧ f 1 = ns.getD 1 0 ∧ f 2 = ns.getD 2 0 ∧ f 3 = ns.getD 3 0 ∧ ns.length = 4
  | 1 => f 0 = ns.getD 0 0 ∧ f 1 = ns.getD 1 0 ∧ f 2 = ns.getD 2 0 ∧ ns.length = 3
  | 2 => f 0 = ns.getD 0 0 ∧ f 1 = ns.getD 1 0 ∧ ns.length = 2
  | 3 => f 0 = ns.getD 0 0 ∧ f 1 = ns.getD 1 0 ∧ f 2 = ns.getD 2 0 ∧ ns.length = 3
  | 4 => f 0 = ns.getD 0 0 ∧ f 1 = -1 ∧ f 2 = ns.getD 1 0 ∧ ns.length = 2
  | 5 => f 0 = 0
  | 6 => f 0 = 1
  | _ => f 0 = 2
theorem sgn_45 (m : zkM) (j : Nat) (x : Int) : sgn (mset m 45 0 j x) = sgn m := rfl
theorem sn_len {X : Int → Int} {cs : List Int} {n : Nat} (hc : ∀ c ∈ cs, c ≠ 35) {a : Int} (h : (prX X (cs ++ rep n) a).2.1 = true) : (prX X (cs ++ rep n) a).2.2.length = n := by
  by_cases g : (prX X cs a).2.1 = true
  · rw [prX_ok' g] at h ⊢
    simp only [prX_nn cs a hc, List.nil_append]
    exact rep_len n _ h
  · rw [prX_no' g] at h
    exact absurd h g
theorem rcm_x (m : zkM) : (rcm m (0, -1)).1 = cmdX (selX (sgn m)) ∧ (rcm m (0, -1)).2.2 = mkF (prX (sgn m) (pat (selX (sgn m))) 0) ∧ (∀ t, t ≠ 45 → (rcm m (0, -1)).2.1 t = m t) ∧ ((prX (sgn m) (pat (selX (sgn m))) 0).2.1 = true → argX (selX (sgn m)) (prX (sgn m) (pat (selX (sgn m))) 0).2.2 ((rcm m (0, -1)).2.1 45 0)) := by
  unfold rcm selX
  dsimp only
  by_cases c1 : sgn m 0 = 116
  · rw [if_pos c1, if_pos c1]
    obtain ⟨h1, h2, h3⟩ := sn_x (m := m) (cs := [116, 97, 115, 107]) (n := 4) (by decide) (Int.le_refl 0)
    refine ⟨rfl, h1, h2, fun hok => ?_⟩
    have hl := sn_len (cs := [116, 97, 115, 107]) (n := 4) (by decide) hok
    exact ⟨h3 hok 0 (by decide), h3 hok 1 (by decide), h3 hok 2 (by decide), h3 hok 3 (by decide), hl⟩
  · rw [if_neg c1, if_neg c1]
    by_cases c2 : sgn m 0 = 114
    · rw [if_pos c2, if_pos c2]
      obtain ⟨h1, h2, h3⟩ := sn_x (m := m) (cs := [114, 101, 113, 117, 101, 115, 116]) (n := 2) (by decide) (Int.le_refl 0)
      refine ⟨rfl, h1, h2, fun hok => ?_⟩
      have hl := sn_len (cs := [114, 101, 113, 117, 101, 115, 116]) (n := 2) (by decide) hok
      exact ⟨h3 hok 0 (by decide), h3 hok 1 (by decide), hl⟩
    · rw [if_neg c2, if_neg c2]
      by_cases c3 : sgn m 0 = 112
      · rw [if_pos c3, if_pos c3]
        have e0 : tks m [112, 111, 108, 105, 99, 121] (0, -1) = mkF (prX (sgn m) [112, 111, 108, 105, 99, 121] 0) := tks_x _ 0 (Int.le_refl 0) (by decide)
        rw [e0]
        have e1 : tk m 32 (mkF (prX (sgn m) [112, 111, 108, 105, 99, 121] 0)) = mkF (prX (sgn m) [112, 111, 108, 105, 99, 121, 32] 0) := tks_x2 (cs := [32]) (by decide)
        have hge := prX_ge (sgn m) [112, 111, 108, 105, 99, 121, 32] 0
        have hcond : ∀ c : Int, ((mkF (prX (sgn m) [112, 111, 108, 105, 99, 121, 32] 0)).2 = -1 ∧ sgn m (mkF (prX (sgn m) [112, 111, 108, 105, 99, 121, 32] 0)).1 = c) ↔ ((prX (sgn m) [112, 111, 108, 105, 99, 121, 32] 0).2.1 = true ∧ sgn m (prX (sgn m) [112, 111, 108, 105, 99, 121, 32] 0).1 = c) := by
          intro c
          by_cases g : (prX (sgn m) [112, 111, 108, 105, 99, 121, 32] 0).2.1 = true
          · rw [mkF_ok g]; exact ⟨fun h => ⟨g, h.2⟩, fun h => ⟨rfl, h.2⟩⟩
          · rw [mkF_no g]; exact ⟨fun h => absurd h.1 (by dsimp only; omega), fun h => absurd h.1 g⟩
        unfold pol
        rw [e1]
        by_cases c4 : (prX (sgn m) [112, 111, 108, 105, 99, 121, 32] 0).2.1 = true ∧ sgn m (prX (sgn m) [112, 111, 108, 105, 99, 121, 32] 0).1 = 99
        · rw [if_pos c4, if_pos ((hcond 99).mpr c4)]
          refine ⟨rfl, ?_, fun t ht => mset_t ht _ _ _ _, fun _ => (ms_s m 45 0 0 0 : mset m 45 0 0 0 45 0 0 = 0)⟩
          show tk m 101 (tks m [99, 111, 110, 116, 105, 110, 117] _) = _
          rw [tks_x2 (by decide)]
          exact tks_x2 (cs := [101]) (by decide)
        · rw [if_neg c4, if_neg (fun g => c4 ((hcond 99).mp g))]
          by_cases c5 : (prX (sgn m) [112, 111, 108, 105, 99, 121, 32] 0).2.1 = true ∧ sgn m (prX (sgn m) [112, 111, 108, 105, 99, 121, 32] 0).1 = 97
          · rw [if_pos c5, if_pos ((hcond 97).mpr c5)]
            refine ⟨rfl, ?_, fun t ht => mset_t ht _ _ _ _, fun _ => (ms_s m 45 0 0 1 : mset m 45 0 0 1 45 0 0 = 1)⟩
            exact tks_x2 (by decide)
          · rw [if_neg c5, if_neg (fun g => c5 ((hcond 97).mp g))]
            refine ⟨rfl, ?_, fun t ht => mset_t ht _ _ _ _, fun _ => (ms_s m 45 0 0 2 : mset m 45 0 0 2 45 0 0 = 2)⟩
            exact tks_x2 (by decide)
      · rw [if_neg c3, if_neg c3]
        have e0 : tks m [115, 101] (0, -1) = mkF (prX (sgn m) [115, 101] 0) := tks_x _ 0 (Int.le_refl 0) (by decide)
        rw [e0]
        have hge := prX_ge (sgn m) [115, 101] 0
        have hcond : ((mkF (prX (sgn m) [115, 101] 0)).2 = -1 ∧ sgn m (mkF (prX (sgn m) [115, 101] 0)).1 = 103) ↔ ((prX (sgn m) [115, 101] 0).2.1 = true ∧ sgn m (prX (sgn m) [115, 101] 0).1 = 103) := by
          by_cases g : (prX (sgn m) [115, 101] 0).2.1 = true
          · rw [mkF_ok g]; exact ⟨fun h => ⟨g, h.2⟩, fun h => ⟨rfl, h.2⟩⟩
          · rw [mkF_no g]; exact ⟨fun h => absurd h.1 (by dsimp only; omega), fun h => absurd h.1 g⟩
        by_cases c4 : (prX (sgn m) [115, 101] 0).2.1 = true ∧ sgn m (prX (sgn m) [115, 101] 0).1 = 103
        · rw [if_pos c4, if_pos (hcond.mpr c4), tks_x2 (by decide)]
          show _ ∧ (sgm m (mkF (prX (sgn m) [115, 101, 103, 109, 101, 110, 116] 0))).2 = _ ∧ (∀ t, t ≠ 45 → (sgm m (mkF (prX (sgn m) [115, 101, 103, 109, 101, 110, 116] 0))).1 t = m t) ∧ (_ → argX _ _ ((sgm m (mkF (prX (sgn m) [115, 101, 103, 109, 101, 110, 116] 0))).1 45 0))
          obtain ⟨n1, n2⟩ := num_x2 (m := m) (xs := [115, 101, 103, 109, 101, 110, 116])
          have n1' : (num m (mkF (prX (sgn m) [115, 101, 103, 109, 101, 110, 116] 0))).2 = mkF (prX (sgn m) [115, 101, 103, 109, 101, 110, 116, 32, 35] 0) := n1
          have n2' : (prX (sgn m) [115, 101, 103, 109, 101, 110, 116, 32, 35] 0).2.1 = true → (prX (sgn m) [115, 101, 103, 109, 101, 110, 116, 32, 35] 0).2.2 = (prX (sgn m) [115, 101, 103, 109, 101, 110, 116] 0).2.2 ++ [(num m (mkF (prX (sgn m) [115, 101, 103, 109, 101, 110, 116] 0))).1] := n2
          rw [prX_nn [115, 101, 103, 109, 101, 110, 116] 0 (by decide)] at n2'
          unfold sgm
          rw [n1']
          generalize (num m (mkF (prX (sgn m) [115, 101, 103, 109, 101, 110, 116] 0))).1 = v at *
          have hge9 := prX_ge (sgn m) [115, 101, 103, 109, 101, 110, 116, 32, 35] 0
          -- none or a number
          have hrs : rsc (mset m 45 0 0 v) (mkF (prX (sgn m) [115, 101, 103, 109, 101, 110, 116, 32, 35] 0)) = if sgn m (prX (sgn m) [115, 101, 103, 109, 101, 110, 116, 32, 35] 0).1 = 32 ∧ sgn m ((prX (sgn m) [115, 101, 103, 109, 101, 110, 116, 32, 35] 0).1 + 1) = 110 then (-1, tks m [32, 110, 111, 110, 101] (mkF (prX (sgn m) [115, 101, 103, 109, 101, 110, 116, 32, 35] 0))) else num m (mkF (prX (sgn m) [115, 101, 103, 109, 101, 110, 116, 32, 35] 0)) := by
            generalize hq : prX (sgn m) [115, 101, 103, 109, 101, 110, 116, 32, 35] 0 = R at *
            have e1 : (mkF R).1 = R.1 := rfl
            unfold rsc
            rw [e1]
            have hiff : (R.1 + 1 < (mset m 45 0 0 v) 7 0 29 ∧ (mset m 45 0 0 v) 44 0 R.1.toNat = 32 ∧ (mset m 45 0 0 v) 44 0 (R.1.toNat + 1) = 110) ↔ (sgn m R.1 = 32 ∧ sgn m (R.1 + 1) = 110) := by
              show (R.1 + 1 < m 7 0 29 ∧ m 44 0 R.1.toNat = 32 ∧ m 44 0 (R.1.toNat + 1) = 110) ↔ _
              unfold sgn
              have et : (R.1 + 1).toNat = R.1.toNat + 1 := by omega
              rw [et]
              constructor
              · rintro ⟨g1, g2, g3⟩
                rw [if_pos (by omega), if_pos g1]
                exact ⟨g2, g3⟩
              · rintro ⟨g1, g2⟩
                by_cases h1 : R.1 + 1 < m 7 0 29
                · rw [if_pos (by omega)] at g1
                  rw [if_pos h1] at g2
                  exact ⟨h1, g1, g2⟩
                · rw [if_neg h1] at g2
                  exact absurd g2 (by decide)
            by_cases hc : sgn m R.1 = 32 ∧ sgn m (R.1 + 1) = 110
            · rw [if_pos hc, if_pos (hiff.mpr hc)]
              rfl
            · rw [if_neg hc, if_neg (fun g => hc (hiff.mp g))]
              rfl
          rw [hrs]
          have hpre : ((prX (sgn m) [115, 101, 103, 109, 101, 110, 116, 32, 35, 32] 0).2.1 = true ∧ sgn m (prX (sgn m) [115, 101, 103, 109, 101, 110, 116, 32, 35, 32] 0).1 = 110) ↔ ((prX (sgn m) [115, 101, 103, 109, 101, 110, 116, 32, 35] 0).2.1 = true ∧ sgn m (prX (sgn m) [115, 101, 103, 109, 101, 110, 116, 32, 35] 0).1 = 32 ∧ sgn m ((prX (sgn m) [115, 101, 103, 109, 101, 110, 116, 32, 35] 0).1 + 1) = 110) := by
            have ea : prX (sgn m) [115, 101, 103, 109, 101, 110, 116, 32, 35, 32] 0 = prX (sgn m) ([115, 101, 103, 109, 101, 110, 116, 32, 35] ++ [32]) 0 := rfl
            rw [ea]
            by_cases g : (prX (sgn m) [115, 101, 103, 109, 101, 110, 116, 32, 35] 0).2.1 = true
            · rw [prX_ok' g]
              dsimp only
              have e2 : prX (sgn m) [32] (prX (sgn m) [115, 101, 103, 109, 101, 110, 116, 32, 35] 0).1 = if sgn m (prX (sgn m) [115, 101, 103, 109, 101, 110, 116, 32, 35] 0).1 = 32 then ((prX (sgn m) [115, 101, 103, 109, 101, 110, 116, 32, 35] 0).1 + 1, true, []) else ((prX (sgn m) [115, 101, 103, 109, 101, 110, 116, 32, 35] 0).1, false, []) := by
                rw [prX_c, if_neg (by decide)]
                rfl
              rw [e2]
              by_cases h32 : sgn m (prX (sgn m) [115, 101, 103, 109, 101, 110, 116, 32, 35] 0).1 = 32
              · rw [if_pos h32]
                exact ⟨fun h => ⟨g, h32, h.2⟩, fun h => ⟨rfl, h.2.2⟩⟩
              · rw [if_neg h32]
                exact ⟨fun h => absurd h.1 Bool.false_ne_true, fun h => absurd h.2.1 h32⟩
            · rw [prX_no' g]
              exact ⟨fun h => absurd h.1 g, fun h => absurd h.1 g⟩
          by_cases c5 : (prX (sgn m) [115, 101, 103, 109, 101, 110, 116, 32, 35, 32] 0).2.1 = true ∧ sgn m (prX (sgn m) [115, 101, 103, 109, 101, 110, 116, 32, 35, 32] 0).1 = 110
          · have c6 := hpre.mp c5
            rw [if_pos c5, if_pos c6.2, tks_x2 (by decide)]
            show _ ∧ _ ∧ _ ∧ _
            obtain ⟨k1, k2⟩ := num_x2 (m := mset (mset m 45 0 0 v) 45 0 1 (-1)) (xs := [115, 101, 103, 109, 101, 110, 116, 32, 35] ++ [32, 110, 111, 110, 101])
            have eS : sgn (mset (mset m 45 0 0 v) 45 0 1 (-1)) = sgn m := rfl
            rw [eS] at k1 k2
            dsimp only
            refine ⟨rfl, k1, fun t ht => by rw [mset_t ht, mset_t ht, mset_t ht], fun hok => ?_⟩
            have h9 := n2' c6.1
            have hk2 := k2 hok
            have epat : prX (sgn m) (pat 4) 0 = prX (sgn m) ([115, 101, 103, 109, 101, 110, 116, 32, 35] ++ [32, 110, 111, 110, 101] ++ [32, 35]) 0 := rfl
            have hmid : (prX (sgn m) ([115, 101, 103, 109, 101, 110, 116, 32, 35] ++ [32, 110, 111, 110, 101]) 0).2.2 = [v] := by
              rw [prX_ok' c6.1]
              dsimp only
              rw [h9, prX_nn [32, 110, 111, 110, 101] _ (by decide)]
              rfl
            rw [epat, hk2, hmid]
            generalize (num (mset (mset m 45 0 0 v) 45 0 1 (-1)) (mkF (prX (sgn m) ([115, 101, 103, 109, 101, 110, 116, 32, 35] ++ [32, 110, 111, 110, 101]) 0))).1 = w
            refine ⟨?_, ?_, ?_, rfl⟩
            · simp [mset]
            · simp [mset]
            · simp [mset]
          · rw [if_neg c5]
            -- the middle is read as a number, or something failed before
            have hmid : ∃ w, (if sgn m (prX (sgn m) [115, 101, 103, 109, 101, 110, 116, 32, 35] 0).1 = 32 ∧ sgn m ((prX (sgn m) [115, 101, 103, 109, 101, 110, 116, 32, 35] 0).1 + 1) = 110 then (-1, tks m [32, 110, 111, 110, 101] (mkF (prX (sgn m) [115, 101, 103, 109, 101, 110, 116, 32, 35] 0))) else num m (mkF (prX (sgn m) [115, 101, 103, 109, 101, 110, 116, 32, 35] 0))) = (w, mkF (prX (sgn m) ([115, 101, 103, 109, 101, 110, 116, 32, 35] ++ [32, 35]) 0)) ∧ ((prX (sgn m) ([115, 101, 103, 109, 101, 110, 116, 32, 35] ++ [32, 35]) 0).2.1 = true → (prX (sgn m) ([115, 101, 103, 109, 101, 110, 116, 32, 35] ++ [32, 35]) 0).2.2 = [v, w]) := by
              by_cases g : (prX (sgn m) [115, 101, 103, 109, 101, 110, 116, 32, 35] 0).2.1 = true
              · rw [if_neg (fun h => c5 (hpre.mpr ⟨g, h⟩))]
                obtain ⟨k1, k2⟩ := num_x2 (m := m) (xs := [115, 101, 103, 109, 101, 110, 116, 32, 35])
                refine ⟨(num m (mkF (prX (sgn m) [115, 101, 103, 109, 101, 110, 116, 32, 35] 0))).1, Prod.ext rfl k1, fun hok => ?_⟩
                rw [k2 hok, n2' g]
                rfl
              · have hf : mkF (prX (sgn m) [115, 101, 103, 109, 101, 110, 116, 32, 35] 0) = ((prX (sgn m) [115, 101, 103, 109, 101, 110, 116, 32, 35] 0).1, (prX (sgn m) [115, 101, 103, 109, 101, 110, 116, 32, 35] 0).1) := mkF_no g
                rw [prX_no' g, hf, tks_f (by omega), num_f (by omega)]
                split
                · exact ⟨-1, rfl, fun h => absurd h g⟩
                · exact ⟨0, rfl, fun h => absurd h g⟩
            obtain ⟨w, hw, hw2⟩ := hmid
            rw [hw]
            dsimp only
            obtain ⟨k1, k2⟩ := num_x2 (m := mset (mset m 45 0 0 v) 45 0 1 w) (xs := [115, 101, 103, 109, 101, 110, 116, 32, 35] ++ [32, 35])
            have eS : sgn (mset (mset m 45 0 0 v) 45 0 1 w) = sgn m := rfl
            rw [eS] at k1 k2
            refine ⟨rfl, k1, fun t ht => by rw [mset_t ht, mset_t ht, mset_t ht], fun hok => ?_⟩
            have hk2 := k2 hok
            have hokm : (prX (sgn m) ([115, 101, 103, 109, 101, 110, 116, 32, 35] ++ [32, 35]) 0).2.1 = true := by
              apply Classical.byContradiction
              intro g
              have epat : prX (sgn m) (pat 3) 0 = prX (sgn m) ([115, 101, 103, 109, 101, 110, 116, 32, 35] ++ [32, 35] ++ [32, 35]) 0 := rfl
              rw [epat, prX_no' g] at hok
              exact g hok
            have epat : prX (sgn m) (pat 3) 0 = prX (sgn m) ([115, 101, 103, 109, 101, 110, 116, 32, 35] ++ [32, 35] ++ [32, 35]) 0 := rfl
            rw [epat, hk2, hw2 hokm]
            generalize (num (mset (mset m 45 0 0 v) 45 0 1 w) (mkF (prX (sgn m) ([115, 101, 103, 109, 101, 110, 116, 32, 35] ++ [32, 35]) 0))).1 = z
            refine ⟨?_, ?_, ?_, rfl⟩
            · simp [mset]
            · simp [mset]
            · simp [mset]
        · rw [if_neg c4, if_neg (fun g => c4 (hcond.mp g))]
          have e2 : tks m [114, 118, 101, 114] (mkF (prX (sgn m) [115, 101] 0)) = tks m [115, 101, 114, 118, 101, 114] (0, -1) := by
            rw [← e0]
            rfl
          rw [e2]
          obtain ⟨h1, h2, h3⟩ := sn_x (m := m) (cs := [115, 101, 114, 118, 101, 114]) (n := 3) (by decide) (Int.le_refl 0)
          refine ⟨rfl, h1, h2, fun hok => ?_⟩
          have hl := sn_len (cs := [115, 101, 114, 118, 101, 114]) (n := 3) (by decide) hok
          exact ⟨h3 hok 0 (by decide), h3 hok 1 (by decide), h3 hok 2 (by decide), hl⟩
