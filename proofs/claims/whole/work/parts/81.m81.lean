/-! reading a command: patterns over a text -/
def nbX (X : Int → Int) : Nat → Int → Int → Int → Int × Int × Int
  | 0, a, n, d => (a, n, d)
  | r + 1, a, n, d => if (48 ≤ X a ∧ X a ≤ 57) ∧ (d = 0 ∨ 0 < n) then nbX X r (a + 1) (10 * n + X a - 48) (d + 1) else (a, n, d)
def prX (X : Int → Int) : List Int → Int → Int × Bool × List Int
  | [], a => (a, true, [])
  | c :: cs, a => if c = 35 then (if (nbX X 3 a 0 0).2.2 = 0 then (a, false, []) else ((prX X cs (nbX X 3 a 0 0).1).1, (prX X cs (nbX X 3 a 0 0).1).2.1, (nbX X 3 a 0 0).2.1 :: (prX X cs (nbX X 3 a 0 0).1).2.2)) else if X a = c then prX X cs (a + 1) else (a, false, [])
theorem prX_c (X : Int → Int) (c : Int) (cs : List Int) (a : Int) : prX X (c :: cs) a = if c = 35 then (if (nbX X 3 a 0 0).2.2 = 0 then (a, false, []) else ((prX X cs (nbX X 3 a 0 0).1).1, (prX X cs (nbX X 3 a 0 0).1).2.1, (nbX X 3 a 0 0).2.1 :: (prX X cs (nbX X 3 a 0 0).1).2.2)) else if X a = c then prX X cs (a + 1) else (a, false, []) := rfl
theorem nbX_p (X : Int → Int) : ∀ (r : Nat) (a n d : Int), (nbX X r a n d).1 - (nbX X r a n d).2.2 = a - d ∧ d ≤ (nbX X r a n d).2.2
  | 0, a, n, d => ⟨rfl, Int.le_refl d⟩
  | r + 1, a, n, d => by
    unfold nbX
    split
    · have := nbX_p X r (a + 1) (10 * n + X a - 48) (d + 1)
      omega
    · exact ⟨rfl, Int.le_refl d⟩
theorem nbX_p3 (X : Int → Int) (a : Int) : (nbX X 3 a 0 0).1 = a + (nbX X 3 a 0 0).2.2 ∧ 0 ≤ (nbX X 3 a 0 0).2.2 := by
  have := nbX_p X 3 a 0 0
  omega
theorem prX_ge (X : Int → Int) : ∀ (cs : List Int) (a : Int), a ≤ (prX X cs a).1
  | [], a => Int.le_refl a
  | c :: cs, a => by
    have h := nbX_p3 X a
    unfold prX
    split
    · split
      · exact Int.le_refl a
      · have := prX_ge X cs (nbX X 3 a 0 0).1
        dsimp only
        omega
    · split
      · have := prX_ge X cs (a + 1)
        omega
      · exact Int.le_refl a
theorem prX_le {X : Int → Int} {L : Int} (hX : ∀ a, L ≤ a → X a = -1) : ∀ (cs : List Int) (a : Int), (∀ c ∈ cs, 0 ≤ c) → a ≤ L → (prX X cs a).1 ≤ L
  | [], a, _, ha => ha
  | c :: cs, a, hc, ha => by
    have hnb : ∀ (r : Nat) (a n d : Int), a ≤ L → (nbX X r a n d).1 ≤ L := by
      intro r
      induction r with
      | zero => intro a n d h; exact h
      | succ r ih =>
        intro a n d h
        unfold nbX
        split
        · next g =>
          refine ih _ _ _ ?_
          by_cases e : L ≤ a
          · have := hX a e
            omega
          · omega
        · exact h
    unfold prX
    split
    · split
      · exact ha
      · exact prX_le hX cs _ (fun c' h' => hc c' (List.mem_cons_of_mem _ h')) (hnb 3 a 0 0 ha)
    · split
      · next g =>
        refine prX_le hX cs _ (fun c' h' => hc c' (List.mem_cons_of_mem _ h')) ?_
        have h0 := hc c List.mem_cons_self
        by_cases e : L ≤ a
        · have := hX a e
          omega
        · omega
      · exact ha
theorem prX_app (X : Int → Int) : ∀ (xs ys : List Int) (a : Int), prX X (xs ++ ys) a = if (prX X xs a).2.1 = true then ((prX X ys (prX X xs a).1).1, (prX X ys (prX X xs a).1).2.1, (prX X xs a).2.2 ++ (prX X ys (prX X xs a).1).2.2) else prX X xs a
  | [], ys, a => by
    show prX X ys a = if true = true then _ else _
    rw [if_pos rfl]
    rfl
  | c :: xs, ys, a => by
    rw [List.cons_append, prX_c, prX_c]
    by_cases h35 : c = 35
    · rw [if_pos h35, if_pos h35]
      by_cases h0 : (nbX X 3 a 0 0).2.2 = 0
      · rw [if_pos h0, if_pos h0]
        rfl
      · rw [if_neg h0, if_neg h0, prX_app X xs ys]
        simp only
        by_cases hk : (prX X xs (nbX X 3 a 0 0).1).2.1 = true
        · rw [if_pos hk, if_pos hk]
          rfl
        · rw [if_neg hk, if_neg hk]
    · rw [if_neg h35, if_neg h35]
      by_cases hx : X a = c
      · rw [if_pos hx, if_pos hx]
        exact prX_app X xs ys (a + 1)
      · rw [if_neg hx, if_neg hx]
        rfl
/-- two patterns that part at a sign -/
theorem prX_part {X : Int → Int} {pre cs ds : List Int} {c d a : Int} (hc : c ≠ 35) (hd : d ≠ 35) (hcd : c ≠ d) (h : (prX X pre a).2.1 = true → X (prX X pre a).1 ≠ d) : (prX X (pre ++ d :: ds) a).2.1 = false ∧ (prX X (pre ++ d :: ds) a).1 ≤ (prX X (pre ++ c :: cs) a).1 := by
  rw [prX_app, prX_app]
  by_cases hk : (prX X pre a).2.1 = true
  · rw [if_pos hk, if_pos hk]
    have e : prX X (d :: ds) (prX X pre a).1 = ((prX X pre a).1, false, []) := by
      conv => lhs; unfold prX
      rw [if_neg hd, if_neg (h hk)]
    rw [e]
    exact ⟨rfl, prX_ge X _ _⟩
  · rw [if_neg hk, if_neg hk]
    exact ⟨by simpa using hk, Int.le_refl _⟩
theorem prX_no {X : Int → Int} {d a : Int} {ds : List Int} (hd : d ≠ 35) (h : X a ≠ d) : (prX X (d :: ds) a).2.1 = false ∧ (prX X (d :: ds) a).1 = a := by
  have e : prX X (d :: ds) a = (a, false, []) := by
    conv => lhs; unfold prX
    rw [if_neg hd, if_neg h]
  rw [e]
  exact ⟨rfl, rfl⟩
def pat (k : Nat) : List Int := match k with
  | 0 => [116, 97, 115, 107, 32, 35, 32, 35, 32, 35, 32, 35]
  | 1 => [115, 101, 114, 118, 101, 114, 32, 35, 32, 35, 32, 35]
  | 2 => [114, 101, 113, 117, 101, 115, 116, 32, 35, 32, 35]
  | 3 => [115, 101, 103, 109, 101, 110, 116, 32, 35, 32, 35, 32, 35]
  | 4 => [115, 101, 103, 109, 101, 110, 116, 32, 35, 32, 110, 111, 110, 101, 32, 35]
  | 5 => [112, 111, 108, 105, 99, 121, 32, 99, 111, 110, 116, 105, 110, 117, 101]
  | 6 => [112, 111, 108, 105, 99, 121, 32, 97, 98, 111, 114, 116]
  | 7 => [112, 111, 108, 105, 99, 121, 32, 115, 107, 105, 112]
  | _ => []
/-- which pattern a text goes on with -/
def selX (X : Int → Int) : Nat :=
  if X 0 = 116 then 0 else if X 0 = 114 then 2
  else if X 0 = 112 then (if (prX X [112, 111, 108, 105, 99, 121, 32] 0).2.1 = true ∧ X (prX X [112, 111, 108, 105, 99, 121, 32] 0).1 = 99 then 5 else if (prX X [112, 111, 108, 105, 99, 121, 32] 0).2.1 = true ∧ X (prX X [112, 111, 108, 105, 99, 121, 32] 0).1 = 97 then 6 else 7)
  else if (prX X [115, 101] 0).2.1 = true ∧ X (prX X [115, 101] 0).1 = 103 then (if (prX X [115, 101, 103, 109, 101, 110, 116, 32, 35, 32] 0).2.1 = true ∧ X (prX X [115, 101, 103, 109, 101, 110, 116, 32, 35, 32] 0).1 = 110 then 4 else 3)
  else 1
/-- a pattern that goes on with a number and one that goes on with a sign -/
theorem prX_part2 {X : Int → Int} {pre cs ds : List Int} {d a : Int} (hd : d ≠ 35) (hdd : ¬ (48 ≤ d ∧ d ≤ 57)) :
    ((prX X pre a).2.1 = true ∧ X (prX X pre a).1 = d → (prX X (pre ++ 35 :: cs) a).2.1 = false ∧ (prX X (pre ++ 35 :: cs) a).1 ≤ (prX X (pre ++ d :: ds) a).1) ∧
    (¬ ((prX X pre a).2.1 = true ∧ X (prX X pre a).1 = d) → (prX X (pre ++ d :: ds) a).2.1 = false ∧ (prX X (pre ++ d :: ds) a).1 ≤ (prX X (pre ++ 35 :: cs) a).1) := by
  constructor
  · rintro ⟨h1, h2⟩
    rw [prX_app, prX_app, if_pos h1, if_pos h1]
    have e0 : (nbX X 3 (prX X pre a).1 0 0).2.2 = 0 := by
      unfold nbX
      rw [if_neg (by rw [h2]; exact fun g => hdd g.1)]
    have e : prX X (35 :: cs) (prX X pre a).1 = ((prX X pre a).1, false, []) := by
      conv => lhs; unfold prX
      rw [if_pos rfl, if_pos e0]
    rw [e]
    exact ⟨rfl, prX_ge X _ _⟩
  · intro h
    rw [prX_app, prX_app]
    by_cases hk : (prX X pre a).2.1 = true
    · rw [if_pos hk, if_pos hk]
      have e : prX X (d :: ds) (prX X pre a).1 = ((prX X pre a).1, false, []) := by
        conv => lhs; unfold prX
        rw [if_neg hd, if_neg (fun g => h ⟨hk, g⟩)]
      rw [e]
      exact ⟨rfl, prX_ge X _ _⟩
    · rw [if_neg hk, if_neg hk]
      exact ⟨by simpa using hk, Int.le_refl _⟩
theorem sel_max (X : Int → Int) : ∀ k, k < 8 → k ≠ selX X → (prX X (pat k) 0).2.1 = false ∧ (prX X (pat k) 0).1 ≤ (prX X (pat (selX X)) 0).1 := by
  intro k hk hne
  have h0 : ∀ j, 0 ≤ (prX X (pat j) 0).1 := fun j => prX_ge X _ 0
  have no : ∀ (d : Int) (ds : List Int) (j : Nat), d ≠ 35 → X 0 ≠ d → (prX X (d :: ds) 0).2.1 = false ∧ (prX X (d :: ds) 0).1 ≤ (prX X (pat j) 0).1 := by
    intro d ds j hd hx
    have := prX_no (ds := ds) hd hx
    exact ⟨this.1, by rw [this.2]; exact h0 j⟩
  unfold selX at *
  by_cases c1 : X 0 = 116
  · rw [if_pos c1] at hne ⊢
    have : k = 1 ∨ k = 2 ∨ k = 3 ∨ k = 4 ∨ k = 5 ∨ k = 6 ∨ k = 7 := by omega
    rcases this with e | e | e | e | e | e | e <;> subst e <;> exact no _ _ 0 (by decide) (by omega)
  · rw [if_neg c1] at hne ⊢
    by_cases c2 : X 0 = 114
    · rw [if_pos c2] at hne ⊢
      have : k = 0 ∨ k = 1 ∨ k = 3 ∨ k = 4 ∨ k = 5 ∨ k = 6 ∨ k = 7 := by omega
      rcases this with e | e | e | e | e | e | e <;> subst e <;> exact no _ _ 2 (by decide) (by omega)
    · rw [if_neg c2] at hne ⊢
      by_cases c3 : X 0 = 112
      · rw [if_pos c3] at hne ⊢
        by_cases c4 : (prX X [112, 111, 108, 105, 99, 121, 32] 0).2.1 = true ∧ X (prX X [112, 111, 108, 105, 99, 121, 32] 0).1 = 99
        · rw [if_pos c4] at hne ⊢
          have : k = 0 ∨ k = 1 ∨ k = 2 ∨ k = 3 ∨ k = 4 ∨ k = 6 ∨ k = 7 := by omega
          rcases this with e | e | e | e | e | e | e
          · subst e; exact no _ _ 5 (by decide) (by omega)
          · subst e; exact no _ _ 5 (by decide) (by omega)
          · subst e; exact no _ _ 5 (by decide) (by omega)
          · subst e; exact no _ _ 5 (by decide) (by omega)
          · subst e; exact no _ _ 5 (by decide) (by omega)
          · subst e
            exact prX_part (pre := [112, 111, 108, 105, 99, 121, 32]) (c := 99) (d := 97) (cs := [111, 110, 116, 105, 110, 117, 101]) (ds := [98, 111, 114, 116]) (by decide) (by decide) (by decide) (fun _ => by omega)
          · subst e
            exact prX_part (pre := [112, 111, 108, 105, 99, 121, 32]) (c := 99) (d := 115) (cs := [111, 110, 116, 105, 110, 117, 101]) (ds := [107, 105, 112]) (by decide) (by decide) (by decide) (fun _ => by omega)
        · rw [if_neg c4] at hne ⊢
          by_cases c5 : (prX X [112, 111, 108, 105, 99, 121, 32] 0).2.1 = true ∧ X (prX X [112, 111, 108, 105, 99, 121, 32] 0).1 = 97
          · rw [if_pos c5] at hne ⊢
            have : k = 0 ∨ k = 1 ∨ k = 2 ∨ k = 3 ∨ k = 4 ∨ k = 5 ∨ k = 7 := by omega
            rcases this with e | e | e | e | e | e | e
            · subst e; exact no _ _ 6 (by decide) (by omega)
            · subst e; exact no _ _ 6 (by decide) (by omega)
            · subst e; exact no _ _ 6 (by decide) (by omega)
            · subst e; exact no _ _ 6 (by decide) (by omega)
            · subst e; exact no _ _ 6 (by decide) (by omega)
            · subst e
              exact prX_part (pre := [112, 111, 108, 105, 99, 121, 32]) (c := 97) (d := 99) (cs := [98, 111, 114, 116]) (ds := [111, 110, 116, 105, 110, 117, 101]) (by decide) (by decide) (by decide) (fun _ => by omega)
            · subst e
              exact prX_part (pre := [112, 111, 108, 105, 99, 121, 32]) (c := 97) (d := 115) (cs := [98, 111, 114, 116]) (ds := [107, 105, 112]) (by decide) (by decide) (by decide) (fun _ => by omega)
          · rw [if_neg c5] at hne ⊢
            have : k = 0 ∨ k = 1 ∨ k = 2 ∨ k = 3 ∨ k = 4 ∨ k = 5 ∨ k = 6 := by omega
            rcases this with e | e | e | e | e | e | e
            · subst e; exact no _ _ 7 (by decide) (by omega)
            · subst e; exact no _ _ 7 (by decide) (by omega)
            · subst e; exact no _ _ 7 (by decide) (by omega)
            · subst e; exact no _ _ 7 (by decide) (by omega)
            · subst e; exact no _ _ 7 (by decide) (by omega)
            · subst e
              exact prX_part (pre := [112, 111, 108, 105, 99, 121, 32]) (c := 115) (d := 99) (cs := [107, 105, 112]) (ds := [111, 110, 116, 105, 110, 117, 101]) (by decide) (by decide) (by decide) (fun g h => c4 ⟨g, h⟩)
            · subst e
              exact prX_part (pre := [112, 111, 108, 105, 99, 121, 32]) (c := 115) (d := 97) (cs := [107, 105, 112]) (ds := [98, 111, 114, 116]) (by decide) (by decide) (by decide) (fun g h => c5 ⟨g, h⟩)
      · rw [if_neg c3] at hne ⊢
        by_cases c4 : (prX X [115, 101] 0).2.1 = true ∧ X (prX X [115, 101] 0).1 = 103
        · rw [if_pos c4] at hne ⊢
          by_cases c5 : (prX X [115, 101, 103, 109, 101, 110, 116, 32, 35, 32] 0).2.1 = true ∧ X (prX X [115, 101, 103, 109, 101, 110, 116, 32, 35, 32] 0).1 = 110
          · rw [if_pos c5] at hne ⊢
            have : k = 0 ∨ k = 1 ∨ k = 2 ∨ k = 3 ∨ k = 5 ∨ k = 6 ∨ k = 7 := by omega
            rcases this with e | e | e | e | e | e | e
            · subst e; exact no _ _ 4 (by decide) (by omega)
            · subst e
              exact prX_part (pre := [115, 101]) (c := 103) (d := 114) (cs := [109, 101, 110, 116, 32, 35, 32, 110, 111, 110, 101, 32, 35]) (ds := [118, 101, 114, 32, 35, 32, 35, 32, 35]) (by decide) (by decide) (by decide) (fun _ => by omega)
            · subst e; exact no _ _ 4 (by decide) (by omega)
            · subst e
              exact (prX_part2 (pre := [115, 101, 103, 109, 101, 110, 116, 32, 35, 32]) (d := 110) (cs := [32, 35]) (ds := [111, 110, 101, 32, 35]) (by decide) (by decide)).1 c5
            · subst e; exact no _ _ 4 (by decide) (by omega)
            · subst e; exact no _ _ 4 (by decide) (by omega)
            · subst e; exact no _ _ 4 (by decide) (by omega)
          · rw [if_neg c5] at hne ⊢
            have : k = 0 ∨ k = 1 ∨ k = 2 ∨ k = 4 ∨ k = 5 ∨ k = 6 ∨ k = 7 := by omega
            rcases this with e | e | e | e | e | e | e
            · subst e; exact no _ _ 3 (by decide) (by omega)
            · subst e
              exact prX_part (pre := [115, 101]) (c := 103) (d := 114) (cs := [109, 101, 110, 116, 32, 35, 32, 35, 32, 35]) (ds := [118, 101, 114, 32, 35, 32, 35, 32, 35]) (by decide) (by decide) (by decide) (fun _ => by omega)
            · subst e; exact no _ _ 3 (by decide) (by omega)
            · subst e
              exact (prX_part2 (pre := [115, 101, 103, 109, 101, 110, 116, 32, 35, 32]) (d := 110) (cs := [32, 35]) (ds := [111, 110, 101, 32, 35]) (by decide) (by decide)).2 c5
            · subst e; exact no _ _ 3 (by decide) (by omega)
            · subst e; exact no _ _ 3 (by decide) (by omega)
            · subst e; exact no _ _ 3 (by decide) (by omega)
        · rw [if_neg c4] at hne ⊢
          have : k = 0 ∨ k = 2 ∨ k = 3 ∨ k = 4 ∨ k = 5 ∨ k = 6 ∨ k = 7 := by omega
          rcases this with e | e | e | e | e | e | e
          · subst e; exact no _ _ 1 (by decide) (by omega)
          · subst e; exact no _ _ 1 (by decide) (by omega)
          · subst e
            exact prX_part (pre := [115, 101]) (c := 114) (d := 103) (cs := [118, 101, 114, 32, 35, 32, 35, 32, 35]) (ds := [109, 101, 110, 116, 32, 35, 32, 35, 32, 35]) (by decide) (by decide) (by decide) (fun g h => c4 ⟨g, h⟩)
          · subst e
            exact prX_part (pre := [115, 101]) (c := 114) (d := 103) (cs := [118, 101, 114, 32, 35, 32, 35, 32, 35]) (ds := [109, 101, 110, 116, 32, 35, 32, 110, 111, 110, 101, 32, 35]) (by decide) (by decide) (by decide) (fun g h => c4 ⟨g, h⟩)
          · subst e; exact no _ _ 1 (by decide) (by omega)
          · subst e; exact no _ _ 1 (by decide) (by omega)
          · subst e; exact no _ _ 1 (by decide) (by omega)
