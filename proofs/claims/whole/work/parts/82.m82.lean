/-! the class reads -/
def XC (m : zkM) (a : Int) : Int := if a < m 2 0 2 then m 23 0 a.toNat else -1
def mN : zkM → List Int → zkM
  | m, [] => m
  | m, v :: vs => mN (mset (mset m 24 0 (m 2 0 3).toNat v) 2 0 3 (m 2 0 3 + 1)) vs
def c35 : List Int → Nat
  | [] => 0
  | c :: cs => (if c = 35 then 1 else 0) + c35 cs
theorem rdDf_x (m : zkM) : ∀ (r : Nat) (e v k : Int), 0 ≤ v → 0 ≤ k → rdDf m r e v k = ((nbX (XC m) r e v k).1, (nbX (XC m) r e v k).2.1)
  | 0, e, v, k, _, _ => rfl
  | r + 1, e, v, k, hv, hk => by
    rw [rdDf_s]
    unfold nbX
    by_cases hL : e < m 2 0 2
    · have e1 : XC m e = m 23 0 e.toNat := by unfold XC; rw [if_pos hL]
      rw [e1]
      by_cases h : (48 ≤ m 23 0 e.toNat ∧ m 23 0 e.toNat ≤ 57) ∧ (k = 0 ∨ 0 < v)
      · rw [if_pos ⟨⟨hL, h.1⟩, by omega⟩, if_pos h, rdDf_x m r (e + 1) _ (k + 1) (by omega) (by omega)]
        have e2 : v * 10 + (m 23 0 e.toNat - 48) = 10 * v + m 23 0 e.toNat - 48 := by omega
        rw [e2]
      · rw [if_neg (by omega), if_neg h]
    · have e1 : XC m e = -1 := by unfold XC; rw [if_neg hL]
      rw [e1, if_neg (fun g => hL g.1.1), if_neg (by omega)]
theorem rdSg_x (m : zkM) (a c : Int) (hc : c ≠ -1) : rdSg m a c = if XC m a = c then a + 1 else a := by
  unfold rdSg XC
  by_cases hL : a < m 2 0 2
  · rw [if_pos hL]
    by_cases h : m 23 0 a.toNat = c
    · rw [if_pos ⟨hL, h⟩, if_pos h]
    · rw [if_neg (fun g => h g.2), if_neg h]
  · rw [if_neg hL, if_neg (fun g => hL g.1), if_neg (fun g => hc g.symm)]
theorem ff_x {j : Nat} : ∀ (cs : List Int) (p : Nat) (m : zkM) (a : Int), (∀ q, q < cs.length → zkCh j (p + q) = cs.getD q 0) → (∀ c ∈ cs, c ≠ -1) → 0 ≤ m 2 0 3 → m 2 0 3 + c35 cs ≤ 4 → rdFf j cs.length p m a = (mN m (prX (XC m) cs a).2.2, (prX (XC m) cs a).1, b2i (prX (XC m) cs a).2.1)
  | [], p, m, a, _, _, _, _ => rfl
  | c :: cs, p, m, a, hq, hc, h3, h4 => by
    have hq0 : zkCh j p = c := by simpa using hq 0 (by simp)
    have hc0 := hc c List.mem_cons_self
    have hqs : ∀ q, q < cs.length → zkCh j (p + 1 + q) = cs.getD q 0 := by
      intro q hq'
      have := hq (q + 1) (by simp; omega)
      rw [show p + (q + 1) = p + 1 + q by omega] at this
      simpa using this
    have hcs : ∀ c ∈ cs, c ≠ -1 := fun c' h' => hc c' (List.mem_cons_of_mem _ h')
    show rdFf j (cs.length + 1) p m a = _
    rw [rdFf_s, prX_c]
    unfold rdSt
    rw [hq0]
    by_cases h35 : c = 35
    · rw [if_pos h35, if_pos h35]
      have h4' : m 2 0 3 + 1 + c35 cs ≤ 4 := by
        unfold c35 at h4
        rw [if_pos h35] at h4
        push_cast at h4
        omega
      have hb := nbX_p3 (XC m) a
      by_cases h0 : (nbX (XC m) 3 a 0 0).2.2 = 0
      · have e : (nbX (XC m) 3 a 0 0).1 = a := by omega
        have eN : rdNb m a = (a, m) := by
          unfold rdNb
          rw [rdDf_x m 3 a 0 0 (Int.le_refl 0) (Int.le_refl 0), if_neg (by dsimp only; omega)]
          dsimp only
          rw [e]
        rw [eN, if_pos h0, if_neg (by dsimp only; omega)]
        rfl
      · have eN : rdNb m a = ((nbX (XC m) 3 a 0 0).1, mset (mset m 24 0 (m 2 0 3).toNat (nbX (XC m) 3 a 0 0).2.1) 2 0 3 (m 2 0 3 + 1)) := by
          unfold rdNb
          rw [rdDf_x m 3 a 0 0 (Int.le_refl 0) (Int.le_refl 0), if_pos (by dsimp only; omega)]
        rw [eN, if_neg h0, if_pos (by dsimp only; omega)]
        dsimp only
        have ih := ff_x (j := j) cs (p + 1) (mset (mset m 24 0 (m 2 0 3).toNat (nbX (XC m) 3 a 0 0).2.1) 2 0 3 (m 2 0 3 + 1)) (nbX (XC m) 3 a 0 0).1 hqs hcs (by rw [ms_s]; omega) (by rw [ms_s]; omega)
        have eX : XC (mset (mset m 24 0 (m 2 0 3).toNat (nbX (XC m) 3 a 0 0).2.1) 2 0 3 (m 2 0 3 + 1)) = XC m := rfl
        rw [eX] at ih
        rw [ih]
        rfl
    · rw [if_neg h35, if_neg h35, rdSg_x m a c hc0]
      have h4' : m 2 0 3 + c35 cs ≤ 4 := by
        unfold c35 at h4
        rw [if_neg h35] at h4
        push_cast at h4
        omega
      by_cases hx : XC m a = c
      · rw [if_pos hx, if_pos hx, if_pos (by dsimp only; omega)]
        exact ff_x (j := j) cs (p + 1) m (a + 1) hqs hcs h3 h4'
      · rw [if_neg hx, if_neg hx, if_neg (by dsimp only; omega)]
        rfl
theorem mN_f : ∀ (vs : List Int) (m : zkM), (∀ t i k, ¬ (t = 24 ∧ i = 0) → ¬ (t = 2 ∧ i = 0 ∧ k = 3) → mN m vs t i k = m t i k) ∧ mN m vs 2 0 3 = m 2 0 3 + vs.length
  | [], m => ⟨fun _ _ _ _ _ => rfl, by simp [mN]⟩
  | v :: vs, m => by
    obtain ⟨h1, h2⟩ := mN_f vs (mset (mset m 24 0 (m 2 0 3).toNat v) 2 0 3 (m 2 0 3 + 1))
    refine ⟨fun t i k hn hn2 => ?_, ?_⟩
    · show mN (mset (mset m 24 0 (m 2 0 3).toNat v) 2 0 3 (m 2 0 3 + 1)) vs t i k = _
      rw [h1 t i k hn hn2]
      simp only [mset]
      rw [if_neg hn2, if_neg (by omega)]
    · show mN (mset (mset m 24 0 (m 2 0 3).toNat v) 2 0 3 (m 2 0 3 + 1)) vs 2 0 3 = _
      rw [h2, ms_s]
      simp
      omega
theorem mN_n : ∀ (vs : List Int) (m : zkM), 0 ≤ m 2 0 3 → (∀ x : Nat, (x : Int) < m 2 0 3 → mN m vs 24 0 x = m 24 0 x) ∧ (∀ q, q < vs.length → mN m vs 24 0 ((m 2 0 3).toNat + q) = vs.getD q 0)
  | [], m, _ => ⟨fun _ _ => rfl, fun q hq => absurd hq (by simp)⟩
  | v :: vs, m, h0 => by
    obtain ⟨h1, h2⟩ := mN_n vs (mset (mset m 24 0 (m 2 0 3).toNat v) 2 0 3 (m 2 0 3 + 1)) (by rw [ms_s]; omega)
    rw [ms_s] at h1 h2
    refine ⟨fun x hx => ?_, fun q hq => ?_⟩
    · show mN (mset (mset m 24 0 (m 2 0 3).toNat v) 2 0 3 (m 2 0 3 + 1)) vs 24 0 x = _
      rw [h1 x (by omega), ms_t (by decide), ms_k (by omega)]
    · show mN (mset (mset m 24 0 (m 2 0 3).toNat v) 2 0 3 (m 2 0 3 + 1)) vs 24 0 _ = _
      cases q with
      | zero =>
        rw [Nat.add_zero, h1 _ (by omega), ms_t (by decide), ms_s]
        rfl
      | succ q =>
        have := h2 q (by simpa using hq)
        rw [show (m 2 0 3 + 1).toNat + q = (m 2 0 3).toNat + (q + 1) by omega] at this
        rw [this]
        rfl
theorem pat_ok : ∀ k, k < 8 → zkLn.getD k 0 = (pat k).length ∧ c35 (pat k) ≤ 4 ∧ (∀ q, q < (pat k).length → zkCh k (0 + q) = (pat k).getD q 0) ∧ ∀ c ∈ pat k, 0 ≤ c := by decide +kernel
theorem fit_x {m : zkM} {k : Nat} (hk : k < 8) : rdFit m k = (b2i (decide ((prX (XC m) (pat k) 0).2.1 = true ∧ (prX (XC m) (pat k) 0).1 = m 2 0 2)), mset (mN (mset m 2 0 3 0) (prX (XC m) (pat k) 0).2.2) 2 0 4 (max (m 2 0 4) (prX (XC m) (pat k) 0).1)) := by
  obtain ⟨p1, p2, p3, p4⟩ := pat_ok k hk
  have hf := ff_x (j := k) (pat k) 0 (mset m 2 0 3 0) 0 p3 (fun c hc => by have := p4 c hc; omega) (by rw [ms_s]; omega) (by rw [ms_s]; omega)
  have eX : XC (mset m 2 0 3 0) = XC m := rfl
  rw [eX] at hf
  have eR : rdFR m k = (mN (mset m 2 0 3 0) (prX (XC m) (pat k) 0).2.2, (prX (XC m) (pat k) 0).1, b2i (prX (XC m) (pat k) 0).2.1) := by
    unfold rdFR
    rw [p1]
    exact hf
  unfold rdFit
  rw [eR]
  dsimp only
  have f := (mN_f (prX (XC m) (pat k) 0).2.2 (mset m 2 0 3 0)).1
  have e2 : mN (mset m 2 0 3 0) (prX (XC m) (pat k) 0).2.2 2 0 2 = m 2 0 2 := by
    rw [f 2 0 2 (by decide) (by decide), ms_k (by decide)]
  have e4 : mN (mset m 2 0 3 0) (prX (XC m) (pat k) 0).2.2 2 0 4 = m 2 0 4 := by
    rw [f 2 0 4 (by decide) (by decide), ms_k (by decide)]
  have hiff : (b2i (prX (XC m) (pat k) 0).2.1 = 1 ∧ (prX (XC m) (pat k) 0).1 = mN (mset m 2 0 3 0) (prX (XC m) (pat k) 0).2.2 2 0 2) ↔ ((prX (XC m) (pat k) 0).2.1 = true ∧ (prX (XC m) (pat k) 0).1 = m 2 0 2) := by
    rw [e2, b2i_1]
  rw [decide_eq_decide.mpr hiff, e4]
/-- what the reader leaves -/
def rdK (m m' : zkM) : Prop := ∀ t i k, ¬ (t = 24 ∧ i = 0) → ¬ (t = 2 ∧ i = 0 ∧ (k = 3 ∨ k = 4)) → m' t i k = m t i k
theorem fit_K {m : zkM} {k : Nat} (hk : k < 8) : rdK m (rdFit m k).2 := by
  rw [fit_x hk]
  intro t i k' h1 h2
  simp only
  rw [show (mset (mN (mset m 2 0 3 0) (prX (XC m) (pat k) 0).2.2) 2 0 4 (max (m 2 0 4) (prX (XC m) (pat k) 0).1)) t i k' = mN (mset m 2 0 3 0) (prX (XC m) (pat k) 0).2.2 t i k' by simp only [mset]; rw [if_neg (by omega)], (mN_f _ _).1 t i k' h1 (by omega)]
  simp only [mset]
  rw [if_neg (by omega)]
theorem rdK_t {a b c : zkM} (h : rdK a b) (g : rdK b c) : rdK a c := fun t i k h1 h2 => (g t i k h1 h2).trans (h t i k h1 h2)
theorem XC_K {m m' : zkM} (h : rdK m m') : XC m' = XC m := by
  funext a
  unfold XC
  rw [h 2 0 2 (by decide) (by decide), h 23 0 a.toNat (by omega) (by omega)]
theorem tf_no {X : Int → Int} {L : Int} (hfit : ¬ ((prX X (pat (selX X)) 0).2.1 = true ∧ (prX X (pat (selX X)) 0).1 = L)) : ∀ (r k : Nat) (m : zkM), k + r = 8 → XC m = X → m 2 0 2 = L → (m 2 0 4 ≤ (prX X (pat (selX X)) 0).1 ∧ (selX X < k → m 2 0 4 = (prX X (pat (selX X)) 0).1)) → (rdTf r k m).1 = -1 ∧ (selX X < 8 → (rdTf r k m).2 2 0 4 = (prX X (pat (selX X)) 0).1) ∧ rdK m (rdTf r k m).2
  | 0, k, m, hkr, hX, hL, h4 => ⟨rfl, fun h8 => h4.2 (by omega), fun _ _ _ _ _ => rfl⟩
  | r + 1, k, m, hkr, hX, hL, h4 => by
    have hk8 : k < 8 := by omega
    have hK := fit_K (m := m) hk8
    have hf := fit_x (m := m) hk8
    have h0 : (rdFit m k).1 = 0 := by
      rw [hf]
      dsimp only
      rw [hX, hL]
      rw [decide_eq_false]
      · rfl
      · by_cases e : k = selX X
        · rw [e]; exact hfit
        · intro g
          have := (sel_max X k hk8 e).1
          rw [this] at g
          exact absurd g.1 (by decide)
    have h24 : (rdFit m k).2 2 0 4 = max (m 2 0 4) (prX X (pat k) 0).1 := by
      rw [hf]
      dsimp only
      rw [ms_s, hX]
    rw [rdTf_s, if_pos h0]
    have ih := tf_no hfit r (k + 1) (rdFit m k).2 (by omega) (by rw [XC_K hK]; exact hX) (by rw [hK 2 0 2 (by decide) (by decide)]; exact hL) (by
      rw [h24]
      by_cases e : k = selX X
      · rw [← e]
        rw [← e] at h4
        exact ⟨by omega, fun _ => by omega⟩
      · have := (sel_max X k hk8 e).2
        refine ⟨by omega, fun hlt => ?_⟩
        have := h4.2 (by omega)
        omega)
    exact ⟨ih.1, ih.2.1, rdK_t hK ih.2.2⟩
theorem sel_8 (X : Int → Int) : selX X < 8 := by
  unfold selX
  repeat' split
  all_goals decide
theorem tf_yes {X : Int → Int} {L : Int} (hfit : (prX X (pat (selX X)) 0).2.1 = true ∧ (prX X (pat (selX X)) 0).1 = L) : ∀ (r k : Nat) (m : zkM), k + r = 8 → k ≤ selX X → XC m = X → m 2 0 2 = L → (rdTf r k m).1 = selX X ∧ ((rdTf r k m).2 2 0 3 = (prX X (pat (selX X)) 0).2.2.length ∧ ∀ q, q < (prX X (pat (selX X)) 0).2.2.length → (rdTf r k m).2 24 0 q = (prX X (pat (selX X)) 0).2.2.getD q 0) ∧ rdK m (rdTf r k m).2
  | 0, k, m, hkr, hks, hX, hL => by
    have := sel_8 X
    omega
  | r + 1, k, m, hkr, hks, hX, hL => by
    have hk8 : k < 8 := by omega
    have hK := fit_K (m := m) hk8
    have hf := fit_x (m := m) hk8
    by_cases e : k = selX X
    · have h1 : (rdFit m k).1 = 1 := by
        rw [hf]
        dsimp only
        rw [hX, hL, e, decide_eq_true hfit]
        rfl
      rw [rdTf_s, if_neg (by rw [h1]; decide)]
      dsimp only
      refine ⟨by rw [e], ?_, hK⟩
      rw [hf]
      dsimp only
      rw [hX, e]
      have f := mN_f (prX X (pat (selX X)) 0).2.2 (mset m 2 0 3 0)
      have g := mN_n (prX X (pat (selX X)) 0).2.2 (mset m 2 0 3 0) (by rw [ms_s]; omega)
      rw [ms_s] at f g
      refine ⟨?_, fun q hq => ?_⟩
      · rw [ms_k (by decide), f.2]
        omega
      · rw [ms_t (by decide)]
        have := g.2 q hq
        rw [show (0 : Int).toNat + q = q by simp] at this
        exact this
    · have h0 : (rdFit m k).1 = 0 := by
        rw [hf]
        dsimp only
        rw [hX, hL, decide_eq_false]
        · rfl
        · intro g
          have := (sel_max X k hk8 e).1
          rw [this] at g
          exact absurd g.1 (by decide)
      rw [rdTf_s, if_pos h0]
      have ih := tf_yes hfit r (k + 1) (rdFit m k).2 (by omega) (by omega) (by rw [XC_K hK]; exact hX) (by rw [hK 2 0 2 (by decide) (by decide)]; exact hL)
      exact ⟨ih.1, ih.2.1, rdK_t hK ih.2.2⟩
