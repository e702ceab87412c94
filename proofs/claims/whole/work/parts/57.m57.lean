/-! class and reference: the relation of the simulation, and a task's release -/
def moDp (b : zkM) (i s : Nat) : Int := lp (fun k x => x + moLe b i k) s 0
def tQ (a b : zkM) (T : Int) (i : Nat) : Prop := (0 ≤ a 1 i 1 ∧ 0 ≤ b 36 0 i ∧ a 1 i 2 = a 1 i 1 + b 36 0 i ∧ a 1 i 2 ≤ T) ∧ (∀ k : Nat, (k : Int) < b 36 0 i → a 21 i ((a 1 i 1).toNat + k) = b 35 0 (401 * i + k) ∧ 0 ≤ b 35 0 (401 * i + k) ∧ b 35 0 (401 * i + k) < T) ∧ (∀ k : Nat, (k : Int) + 1 < b 36 0 i → b 35 0 (401 * i + k) < b 35 0 (401 * i + (k + 1)))
def tP (a b : zkM) (i : Nat) : Prop := (0 ≤ a 5 i 12 ∧ 0 ≤ a 5 i 13 ∧ b 37 0 i = moDp b i (a 5 i 12).toNat + a 5 i 13) ∧ (0 < b 31 0 i → a 5 i 12 < b 31 0 i ∧ a 5 i 13 < moLe b i (a 5 i 12).toNat) ∧ (b 36 0 i = 0 → a 5 i 12 = 0 ∧ a 5 i 13 = 0) ∧ (b 31 0 i = 0 → b 36 0 i = 0)
def tN (a b : zkM) (T : Int) (i : Nat) : Prop := (0 < b 31 0 i → T ≤ a 5 i 10 ∧ b 30 0 (4 * i + 3) ≤ a 5 i 10 ∧ (a 5 i 10 - b 30 0 (4 * i + 3)) % b 30 0 (4 * i + 1) = 0 ∧ (a 5 i 10 = b 30 0 (4 * i + 3) ∨ a 5 i 10 < T + b 30 0 (4 * i + 1))) ∧ (b 31 0 i = 0 → a 5 i 10 = b 30 0 (4 * i + 3))
def tZ (a b : zkM) (U : Int) (i : Nat) : Prop := (a 5 i 11 = b 38 0 i ∧ (b 38 0 i = 0 ∨ b 38 0 i = 1)) ∧ (∀ k : Nat, k < 6 → a 22 i k = b 39 0 (6 * i + k) ∧ 0 ≤ b 39 0 (6 * i + k) ∧ b 39 0 (6 * i + k) ≤ 400 + U) ∧ (a 5 i 14 = b 40 0 i ∧ 0 ≤ b 40 0 i ∧ b 40 0 i ≤ 400 * U)
def tR (a b : zkM) (T U : Int) (i : Nat) : Prop := tQ a b T i ∧ tP a b i ∧ tN a b T i ∧ tZ a b U i
/-- bounds of a task's cells, live or not -/
def tB (a b : zkM) (i : Nat) : Prop := (∀ k, k < 400 → 0 ≤ a 21 i k ∧ a 21 i k ≤ 400) ∧ (∀ k, k < 401 → 0 ≤ b 35 0 (401 * i + k) ∧ b 35 0 (401 * i + k) ≤ 400) ∧ (0 ≤ a 1 i 1 ∧ a 1 i 1 ≤ a 1 i 2 ∧ a 1 i 2 ≤ 400) ∧ (0 ≤ a 5 i 12 ∧ a 5 i 12 ≤ 6) ∧ (0 ≤ a 5 i 13 ∧ a 5 i 13 ≤ 9) ∧ (0 ≤ b 36 0 i ∧ b 36 0 i ≤ 400) ∧ (0 ≤ b 37 0 i ∧ b 37 0 i ≤ 100) ∧ (b 38 0 i = 0 ∨ b 38 0 i = 1)
/-- a task's configuration -/
def tC (a b : zkM) (i : Nat) : Prop := (a 5 i 4 = moPr b i ∧ a 5 i 5 = moPe b i ∧ a 5 i 6 = b 30 0 (4 * i + 2) ∧ a 5 i 7 = b 30 0 (4 * i + 3) ∧ a 5 i 8 = b 31 0 i ∧ a 5 i 9 = moDe b i ∧ ∀ k : Nat, k < moS b i → a 19 i k = moRe b i k ∧ a 20 i k = moLe b i k) ∧ (1 ≤ moPr b i ∧ 1 ≤ moPe b i ∧ moPe b i ≤ 60 ∧ 1 ≤ b 30 0 (4 * i + 2) ∧ b 30 0 (4 * i + 2) ≤ moPe b i ∧ 0 ≤ b 30 0 (4 * i + 3) ∧ b 30 0 (4 * i + 3) ≤ 60 ∧ 0 ≤ b 31 0 i ∧ b 31 0 i ≤ 6) ∧ ∀ k : Nat, k < moS b i → 1 ≤ moLe b i k ∧ moLe b i k ≤ 9
/-- what of the memory the tasks' doings leave -/
def cS (a a' : zkM) : Prop := (∀ t, t ≠ 1 → t ≠ 5 → t ≠ 21 → t ≠ 22 → a' t = a t) ∧ ∀ i k, k < 10 → a' 5 i k = a 5 i k
def mS (b b' : zkM) : Prop := ∀ t, t ≠ 35 → t ≠ 36 → t ≠ 37 → t ≠ 38 → t ≠ 39 → t ≠ 40 → b' t = b t
def cO (a a' : zkM) (i : Nat) : Prop := ∀ j, j ≠ i → a' 1 j = a 1 j ∧ a' 5 j = a 5 j ∧ a' 21 j = a 21 j ∧ a' 22 j = a 22 j
def mO (b b' : zkM) (i : Nat) : Prop := ∀ j, j ≠ i → (b' 36 0 j = b 36 0 j ∧ b' 37 0 j = b 37 0 j ∧ b' 38 0 j = b 38 0 j ∧ b' 40 0 j = b 40 0 j) ∧ (∀ k, k < 401 → b' 35 0 (401 * j + k) = b 35 0 (401 * j + k)) ∧ ∀ k, k < 6 → b' 39 0 (6 * j + k) = b 39 0 (6 * j + k)
theorem cS_r (a : zkM) : cS a a := ⟨fun _ _ _ _ _ => rfl, fun _ _ _ => rfl⟩
theorem mS_r (b : zkM) : mS b b := fun _ _ _ _ _ _ _ => rfl
theorem cS_t {a b c : zkM} (h : cS a b) (g : cS b c) : cS a c := ⟨fun t h1 h2 h3 h4 => (g.1 t h1 h2 h3 h4).trans (h.1 t h1 h2 h3 h4), fun i k hk => (g.2 i k hk).trans (h.2 i k hk)⟩
theorem mS_t {a b c : zkM} (h : mS a b) (g : mS b c) : mS a c := fun t h1 h2 h3 h4 h5 h6 => (g t h1 h2 h3 h4 h5 h6).trans (h t h1 h2 h3 h4 h5 h6)
theorem mset_t {t t' : Nat} (h : t' ≠ t) (m : zkM) (i k : Nat) (x : Int) : mset m t i k x t' = m t' := by
  funext i' k'
  exact ms_t h m i k x i' k'
theorem mset_i {i i' : Nat} (h : i' ≠ i) (m : zkM) (t k : Nat) (x : Int) (t' : Nat) : mset m t i k x t' i' = m t' i' := by
  funext k'
  exact ms_i h m t k x t' k'
theorem cS_m {a a' : zkM} {t i k : Nat} {x : Int} (h : cS a a') (ht : t = 1 ∨ t = 21 ∨ t = 22 ∨ t = 5 ∧ 10 ≤ k) : cS a (mset a' t i k x) := by
  refine ⟨fun t' h1 h2 h3 h4 => ?_, fun i' k' hk => ?_⟩
  · rw [mset_t (by omega)]
    exact h.1 t' h1 h2 h3 h4
  · rw [← h.2 i' k' hk]
    unfold mset
    rw [if_neg (by omega)]
theorem mS_m {b b' : zkM} {t i k : Nat} {x : Int} (h : mS b b') (ht : 35 ≤ t ∧ t ≤ 40) : mS b (mset b' t i k x) := by
  intro t' h1 h2 h3 h4 h5 h6
  rw [mset_t (by omega)]
  exact h t' h1 h2 h3 h4 h5 h6
theorem cO_r (a : zkM) (i : Nat) : cO a a i := fun _ _ => ⟨rfl, rfl, rfl, rfl⟩
theorem mO_r (b : zkM) (i : Nat) : mO b b i := fun _ _ => ⟨⟨rfl, rfl, rfl, rfl⟩, fun _ _ => rfl, fun _ _ => rfl⟩
theorem cO_m {a a' : zkM} {t i k : Nat} {x : Int} (h : cO a a' i) : cO a (mset a' t i k x) i := by
  intro j hj
  rw [mset_i hj, mset_i hj, mset_i hj, mset_i hj]
  exact h j hj
theorem mO_m {b b' : zkM} {t i k : Nat} {x : Int} (h : mO b b' i) (hi : i < 5) (ht : (t = 36 ∨ t = 37 ∨ t = 38 ∨ t = 40) ∧ k = i ∨ t = 35 ∧ 401 * i ≤ k ∧ k < 401 * i + 401 ∨ t = 39 ∧ 6 * i ≤ k ∧ k < 6 * i + 6) : mO b (mset b' t 0 k x) i := by
  intro j hj
  obtain ⟨⟨h1, h2, h3, h4⟩, h5, h6⟩ := h j hj
  refine ⟨⟨?_, ?_, ?_, ?_⟩, fun k' hk => ?_, fun k' hk => ?_⟩
  · rw [← h1]; unfold mset; rw [if_neg (by omega)]
  · rw [← h2]; unfold mset; rw [if_neg (by omega)]
  · rw [← h3]; unfold mset; rw [if_neg (by omega)]
  · rw [← h4]; unfold mset; rw [if_neg (by omega)]
  · rw [← h5 k' hk]; unfold mset; rw [if_neg (by omega)]
  · rw [← h6 k' hk]; unfold mset; rw [if_neg (by omega)]
theorem moDp_c {b b' : zkM} (h : b' 32 = b 32) (i s : Nat) : moDp b' i s = moDp b i s := by
  unfold moDp moLe
  rw [h]
theorem tR_c {a a' b b' : zkM} {T U : Int} {i j : Nat} (hT : T ≤ 401) (hij : j ≠ i) (s1 : cS a a') (s2 : mS b b') (o1 : cO a a' i) (o2 : mO b b' i) (h : tR a b T U j) : tR a' b' T U j := by
  obtain ⟨p1, p2, p3, p4⟩ := o1 j hij
  obtain ⟨⟨q1, q2, q3, q4⟩, q5, q6⟩ := o2 j hij
  have e30 := s2 30 (by decide) (by decide) (by decide) (by decide) (by decide) (by decide)
  have e31 := s2 31 (by decide) (by decide) (by decide) (by decide) (by decide) (by decide)
  have e32 := s2 32 (by decide) (by decide) (by decide) (by decide) (by decide) (by decide)
  obtain ⟨h1, h2, h3, h4⟩ := h
  refine ⟨?_, ?_, ?_, ?_⟩
  · obtain ⟨g1, g2, g3⟩ := h1
    refine ⟨by rw [p1, q1]; exact g1, fun k hk => ?_, fun k hk => ?_⟩
    · rw [q1] at hk
      rw [p1, p3, q5 k (by omega)]
      exact g2 k hk
    · rw [q1] at hk
      rw [q5 k (by omega), q5 (k + 1) (by omega)]
      exact g3 k hk
  · unfold tP
    rw [p2, q1, q2, e31, moDp_c e32]
    unfold moLe
    rw [e32]
    exact h2
  · unfold tN
    rw [p2, e30, e31]
    exact h3
  · obtain ⟨g1, g2, g3⟩ := h4
    refine ⟨by rw [p2, q3]; exact g1, fun k hk => ?_, by rw [p2, q4]; exact g3⟩
    rw [p4, q6 k hk]
    exact g2 k hk
theorem tB_c {a a' b b' : zkM} {i j : Nat} (hij : j ≠ i) (o1 : cO a a' i) (o2 : mO b b' i) (h : tB a b j) : tB a' b' j := by
  obtain ⟨p1, p2, p3, p4⟩ := o1 j hij
  obtain ⟨⟨q1, q2, q3, q4⟩, q5, q6⟩ := o2 j hij
  obtain ⟨h1, h2, h3, h4, h5, h6, h7, h8⟩ := h
  refine ⟨by rw [p3]; exact h1, fun k hk => by rw [q5 k hk]; exact h2 k hk, by rw [p1]; exact h3, by rw [p2]; exact h4, by rw [p2]; exact h5, by rw [q1]; exact h6, by rw [q2]; exact h7, by rw [q3]; exact h8⟩
theorem tC_c {a a' b b' : zkM} {i : Nat} (h5 : ∀ i k, k < 10 → a' 5 i k = a 5 i k) (h19 : a' 19 = a 19) (h20 : a' 20 = a 20) (e30 : b' 30 = b 30) (e31 : b' 31 = b 31) (e32 : b' 32 = b 32) (h : tC a b i) : tC a' b' i := by
  unfold tC moPr moPe moDe moRe moLe moS at *
  rw [h5 i 4 (by decide), h5 i 5 (by decide), h5 i 6 (by decide), h5 i 7 (by decide), h5 i 8 (by decide), h5 i 9 (by decide), h19, h20, e30, e31, e32]
  exact h
/-- the next release, met or not -/
theorem nr_iff {nr off per T : Int} (hp : 1 ≤ per) (h1 : T ≤ nr) (h2 : off ≤ nr) (h3 : (nr - off) % per = 0) (h4 : nr = off ∨ nr < T + per) : T = nr ↔ (0 ≤ T - off ∧ (T - off) % per = 0) := by
  constructor
  · intro h
    subst h
    exact ⟨by omega, h3⟩
  · rintro ⟨g1, g2⟩
    rcases h4 with h4 | h4
    · subst h4
      omega
    · have e : (nr - off) = (T - off) + (nr - T) := by omega
      rw [e, Int.add_emod, g2] at h3
      have h5 : (nr - T) % per = nr - T := Int.emod_eq_of_lt (by omega) (by omega)
      rw [h5] at h3
      have h6 : (0 + (nr - T)) % per = nr - T := by rw [Int.zero_add, h5]
      omega
theorem nr_nx {nr off per T : Int} (hp : 1 ≤ per) (h1 : T ≤ nr) (h2 : off ≤ nr) (h3 : (nr - off) % per = 0) (h4 : nr = off ∨ nr < T + per) (h : T = nr) : T + 1 ≤ nr + per ∧ off ≤ nr + per ∧ (nr + per - off) % per = 0 ∧ (nr + per = off ∨ nr + per < T + 1 + per) := by
  refine ⟨by omega, by omega, ?_, by omega⟩
  have e : nr + per - off = (nr - off) + per := by omega
  rw [e, Int.add_emod_right]
  exact h3
