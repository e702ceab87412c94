/-! the world: virtual cells (tag, number); a memory of ints by tag, number, slot; what the real heap holds for it -/
abbrev zkV : Type := Int ⊕ ((Nat × Nat) ⊕ Value)
abbrev vi (x : Int) : zkV := Sum.inl x
abbrev vr (t i : Nat) : zkV := Sum.inr (Sum.inl (t, i))
abbrev vv (v : Value) : zkV := Sum.inr (Sum.inr v)
abbrev vl (x : Int) : zkV := Sum.inr (Sum.inr (Value.long (Int64.ofInt x)))
abbrev vd (x : UInt64) : zkV := Sum.inr (Sum.inr (Value.double x))
abbrev vf (x : UInt32) : zkV := Sum.inr (Sum.inr (Value.float x))
abbrev zkM : Type := Nat → Nat → Nat → Int
def mset (m : zkM) (t i k : Nat) (x : Int) : zkM := fun t' i' k' => if t' = t ∧ i' = i ∧ k' = k then x else m t' i' k'
/-- a whole row is replaced -/
def mrow (m : zkM) (t i : Nat) (f : Nat → Int) : zkM := fun t' i' k' => if t' = t ∧ i' = i then f k' else m t' i' k'
/-- classes' numbers, slots' numbers, array classes, addresses -/
abbrev zkG : Type := (Nat → ClassId) × (Nat → Nat → Nat) × (Nat → ClassId) × (Nat × Nat → Nat)
abbrev gD (G : zkG) : va_G := (G.1, G.2.1)
abbrev gA (G : zkG) : Nat → ClassId := G.2.2.1
abbrev ga (G : zkG) : Nat × Nat → Nat := G.2.2.2
def tau (G : zkG) (v : zkV) : Value := match v with
  | Sum.inl x => .int (Int32.ofInt x)
  | Sum.inr (Sum.inl q) => .ref (ga G q)
  | Sum.inr (Sum.inr w) => w
def catV (v : zkV) : Nat := match v with
  | Sum.inl _ => 1
  | Sum.inr (Sum.inl _) => 1
  | Sum.inr (Sum.inr w) => w.category
theorem catV_eq (G : zkG) (v : zkV) : (tau G v).category = catV v := by
  rcases v with x | q | w <;> rfl
/-- how many cells of a tag there are -/
def cnt (t : Nat) : Nat := match t with
  | 0 => 2 | 1 => 10 | 2 => 1 | 3 => 2 | 4 => 2 | 5 => 10 | 6 => 1 | 7 => 1
  | 10 => 2 | 11 => 2 | 12 => 2 | 13 => 2 | 14 => 2 | 15 => 2 | 16 => 2 | 17 => 2 | 18 => 2
  | 19 => 10 | 20 => 10 | 21 => 10 | 22 => 10 | 23 => 1 | 24 => 1
  | 30 => 1 | 31 => 1 | 32 => 1 | 33 => 1 | 34 => 1 | 35 => 1 | 36 => 1 | 37 => 1 | 38 => 1 | 39 => 1
  | 40 => 1 | 41 => 1 | 42 => 1 | 43 => 1 | 44 => 1 | 45 => 1 | 46 => 1 | 50 => 1 | 51 => 1
  | _ => 0
theorem cnt_lt {t i : Nat} (h : i < cnt t) : t < 52 := by
  unfold cnt at h
  split at h <;> omega
/-- how many fields an object of a tag has -/
def nfl (t : Nat) : Nat := match t with
  | 0 => 8 | 1 => 3 | 2 => 5 | 3 => 5 | 4 => 11 | 5 => 15 | 6 => 5 | 7 => 38 | _ => 0
/-- the cell that a field holds, if it holds one -/
def rfo (t i k : Nat) : Option (Nat × Nat) := match t, k with
  | 0, 0 => some (10, i) | 0, 1 => some (4, i) | 0, 2 => some (3, i) | 0, 3 => some (17, i) | 0, 4 => some (18, i)
  | 1, 0 => some (21, i)
  | 2, 0 => some (23, i) | 2, 1 => some (24, i)
  | 3, 0 => some (13, i) | 3, 1 => some (14, i) | 3, 2 => some (15, i) | 3, 3 => some (16, i)
  | 4, 0 => some (11, i) | 4, 1 => some (12, i)
  | 5, 0 => some (19, i) | 5, 1 => some (20, i) | 5, 2 => some (1, i) | 5, 3 => some (22, i)
  | 6, 0 => some (0, 0) | 6, 1 => some (0, 1) | 6, 2 => some (2, 0)
  | 7, 3 => some (30, i) | 7, 4 => some (31, i) | 7, 5 => some (32, i) | 7, 10 => some (33, i) | 7, 12 => some (34, i) | 7, 13 => some (35, i)
  | 7, 14 => some (36, i) | 7, 15 => some (37, i) | 7, 16 => some (38, i) | 7, 17 => some (39, i) | 7, 18 => some (40, i)
  | 7, 23 => some (41, i) | 7, 24 => some (42, i) | 7, 25 => some (43, i) | 7, 27 => some (44, i) | 7, 33 => some (45, i) | 7, 35 => some (46, i)
  | _, _ => none
/-- an array's length, and its kind: 0 int, 1 char, 2 Task, 3 long, 4 double -/
def aln (t : Nat) : Nat := match t with
  | 10 => 5 | 11 => 9 | 12 => 9 | 13 => 12 | 14 => 12 | 15 => 12 | 16 => 12 | 17 => 4 | 18 => 400
  | 19 => 6 | 20 => 6 | 21 => 400 | 22 => 6 | 23 => 60 | 24 => 4
  | 30 => 20 | 31 => 5 | 32 => 60 | 33 => 24 | 34 => 400 | 35 => 2005 | 36 => 5 | 37 => 5 | 38 => 5 | 39 => 30
  | 40 => 5 | 41 => 12 | 42 => 12 | 43 => 800 | 44 => 60 | 45 => 4 | 46 => 3600 | 50 => 1 | 51 => 1
  | _ => 0
def akd (t : Nat) : Nat := match t with
  | 10 => 2 | 23 => 1 | 44 => 1 | 50 => 3 | 51 => 4 | _ => 0
def zkF (G : zkG) (m : zkM) (t i k : Nat) : Value := match rfo t i k with
  | some q => .ref (ga G q)
  | none => .int (Int32.ofInt (m t i k))
def zkE (G : zkG) (m : zkM) (q : Nat × Nat) : va_E :=
  if q.1 < 8 then Sum.inr (q.1, (List.range (nfl q.1)).map (fun k => zkF G m q.1 q.2 k))
  else Sum.inl (gA G (akd q.1), (aln q.1, match akd q.1 with
    | 2 => Sum.inr (Sum.inr (Sum.inr (Sum.inr (fun j => some (ga G (5, 5 * q.2 + j))))))
    | 3 => Sum.inr (Sum.inl (fun j => Int64.ofInt (m q.1 q.2 j)))
    | 4 => Sum.inr (Sum.inr (Sum.inr (Sum.inl (fun j => UInt64.ofNat (m q.1 q.2 j).toNat))))
    | _ => Sum.inl (fun j => Int32.ofInt (m q.1 q.2 j))))
def zkL : List (Nat × Nat) := (List.range 52).flatMap (fun t => (List.range (cnt t)).map (fun i => (t, i)))
theorem zkL_mem {t i : Nat} (h : i < cnt t) : (t, i) ∈ zkL :=
  List.mem_flatMap.mpr ⟨t, List.mem_range.mpr (cnt_lt h), List.mem_map.mpr ⟨i, List.mem_range.mpr h, rfl⟩⟩
theorem zkL_nd : zkL.Nodup := by decide +kernel
def wl (G : zkG) (m : zkM) : va_W := zkL.map (fun q => (ga G q, zkE G m q))
theorem wl_at (G : zkG) (m : zkM) {t i : Nat} (h : i < cnt t) : ∃ k : Nat, zkL[k]? = some (t, i) ∧ (wl G m)[k]? = some (ga G (t, i), zkE G m (t, i)) := by
  obtain ⟨k, hk⟩ := List.getElem?_of_mem (zkL_mem h)
  exact ⟨k, hk, by unfold wl; rw [List.getElem?_map, hk]; rfl⟩
/-- the cells may be told apart -/
def zkJ (G : zkG) : Prop := ∀ u ∈ zkL, ∀ v ∈ zkL, ga G u = ga G v → u = v
/-- which real cells may change: the world's, and new ones -/
def zkA (G : zkG) (sz : Nat) : Nat → Prop := fun q => (∃ v ∈ zkL, q = ga G v) ∨ sz ≤ q
theorem zkA_in {G : zkG} {sz t i : Nat} (h : i < cnt t) : zkA G sz (ga G (t, i)) := Or.inl ⟨_, zkL_mem h, rfl⟩
theorem zkA_mono {G : zkG} {a b : Nat} (h : a ≤ b) : ∀ q, zkA G b q → zkA G a q := fun q hq => hq.elim Or.inl (fun h2 => Or.inr (Nat.le_trans h h2))
theorem wl_D {G : zkG} (hJ : zkJ G) (m : zkM) (sz : Nat) : va_D (zkA G sz) (wl G m) := by
  have key : ∀ (k : Nat) (p : Nat × va_E), (wl G m)[k]? = some p → ∃ u, zkL[k]? = some u ∧ p.1 = ga G u := by
    intro k p hp
    unfold wl at hp
    rw [List.getElem?_map] at hp
    cases hu : zkL[k]? with
    | none => rw [hu] at hp; cases hp
    | some u => rw [hu] at hp; cases hp; exact ⟨u, rfl, rfl⟩
  refine ⟨fun i j p q hp hq e => ?_, fun k q hq => ?_⟩
  · obtain ⟨u, hu, eu⟩ := key i p hp
    obtain ⟨v, hv, ev⟩ := key j q hq
    have huv : u = v := hJ u (List.mem_of_getElem? hu) v (List.mem_of_getElem? hv) (by rw [← eu, ← ev]; exact e)
    subst huv
    have h1 := (List.getElem?_eq_some_iff.mp hu).1
    exact (List.getElem?_inj h1 zkL_nd).mp (hu.trans hv.symm)
  · obtain ⟨u, hu, eu⟩ := key k q hq
    exact Or.inl ⟨u, List.mem_of_getElem? hu, eu⟩
/-- one cell of the world is written -/
theorem wl_set {G : zkG} {m m' : zkM} {k t i : Nat} (hk : zkL[k]? = some (t, i)) (ho : ∀ u ∈ zkL, u ≠ (t, i) → zkE G m' u = zkE G m u) : (wl G m).set k (ga G (t, i), zkE G m' (t, i)) = wl G m' := by
  apply List.ext_getElem?
  intro j
  unfold wl
  rw [List.getElem?_set]
  by_cases hj : k = j
  · subst hj
    have h1 := (List.getElem?_eq_some_iff.mp hk).1
    rw [if_pos rfl, List.length_map, if_pos h1, List.getElem?_map, hk]
    rfl
  · rw [if_neg hj, List.getElem?_map, List.getElem?_map]
    cases hu : zkL[j]? with
    | none => rfl
    | some u =>
      have hne : u ≠ (t, i) := fun e => by
        subst e
        have h1 := (List.getElem?_eq_some_iff.mp hk).1
        exact hj ((List.getElem?_inj h1 zkL_nd).mp (hk.trans hu.symm))
      show some (ga G u, zkE G m u) = some (ga G u, zkE G m' u)
      rw [ho u (List.mem_of_getElem? hu) hne]
theorem zkE_off {G : zkG} {m m' : zkM} {u : Nat × Nat} (h : ∀ k, m' u.1 u.2 k = m u.1 u.2 k) : zkE G m' u = zkE G m u := by
  have h2 : m' u.1 u.2 = m u.1 u.2 := funext h
  unfold zkE
  simp only [zkF, h2]
theorem mset_s {m : zkM} {t i k : Nat} {x : Int} : mset m t i k x t i k = x := by simp [mset]
theorem mset_off {m : zkM} {t i k : Nat} {x : Int} {u : Nat × Nat} (h : u ≠ (t, i)) (j : Nat) : mset m t i k x u.1 u.2 j = m u.1 u.2 j := by
  unfold mset
  rw [if_neg]
  rintro ⟨h1, h2, -⟩
  exact h (Prod.ext h1 h2)
theorem mrow_off {m : zkM} {t i : Nat} {f : Nat → Int} {u : Nat × Nat} (h : u ≠ (t, i)) (j : Nat) : mrow m t i f u.1 u.2 j = m u.1 u.2 j := by
  unfold mrow
  rw [if_neg]
  rintro ⟨h1, h2⟩
  exact h (Prod.ext h1 h2)
abbrev zkTy (G : zkG) : List (ClassId × FieldType) := [(gA G 0, .int), (gA G 1, .char), (gA G 2, .object "CeilingWorkbench$Task"), (gA G 3, .long), (gA G 4, .double)]
abbrev zkCl : List vw_C := [(RX1, TX1, 8), (RX2, TX2, 3), (RX3, TX3, 5), (RX4, TX4, 5), (RX5, TX5, 11), (RX6, TX6, 15), (RX7, TX7, 5), (RX8, TX8, 38)]
/-- the classes' names, by their numbers -/
def zkR (o : Nat) : String := match o with
  | 0 => RX1 | 1 => RX2 | 2 => RX3 | 3 => RX4 | 4 => RX5 | 5 => RX6 | 6 => RX7 | 7 => RX8 | 8 => RX0 | 10 => "java/lang/String" | 11 => "java/lang/StringLatin1" | 12 => "jdk/internal/util/Preconditions" | _ => RL
def zkT (o : Nat) : u_T := match o with
  | 0 => TX1 | 1 => TX2 | 2 => TX3 | 3 => TX4 | 4 => TX5 | 5 => TX6 | 6 => TX7 | _ => TX8
def zkty (o : Nat) : Nat → FieldType := match o with
  | 0 => tyX1 | 1 => tyX2 | 2 => tyX3 | 3 => tyX4 | 4 => tyX5 | 5 => tyX6 | 6 => tyX7 | _ => tyX8
theorem zkCl_at {t : Nat} (h : t < 8) : zkCl[t]? = some (zkR t, zkT t, nfl t) := by
  rcases (show t = 0 ∨ t = 1 ∨ t = 2 ∨ t = 3 ∨ t = 4 ∨ t = 5 ∨ t = 6 ∨ t = 7 by omega) with rfl | rfl | rfl | rfl | rfl | rfl | rfl | rfl <;> rfl
theorem zkTy_ok {t : Nat} (h : t < 8) : ∀ k, k < nfl t → parseFieldDescriptor (zkT t k).2.2.1 = some (zkty t k) := by
  rcases (show t = 0 ∨ t = 1 ∨ t = 2 ∨ t = 3 ∨ t = 4 ∨ t = 5 ∨ t = 6 ∨ t = 7 by omega) with rfl | rfl | rfl | rfl | rfl | rfl | rfl | rfl
  · exact tyX1_ok
  · exact tyX2_ok
  · exact tyX3_ok
  · exact tyX4_ok
  · exact tyX5_ok
  · exact tyX6_ok
  · exact tyX7_ok
  · exact tyX8_ok
theorem zkNm {t : Nat} (h : t < 8) : ∀ a, a < nfl t → ∀ b, b < nfl t → a ≠ b → (zkT t a).2.1 ≠ (zkT t b).2.1 := by
  rcases (show t = 0 ∨ t = 1 ∨ t = 2 ∨ t = 3 ∨ t = 4 ∨ t = 5 ∨ t = 6 ∨ t = 7 by omega) with rfl | rfl | rfl | rfl | rfl | rfl | rfl | rfl
  · exact nmX1
  · exact nmX2
  · exact nmX3
  · exact nmX4
  · exact nmX5
  · exact nmX6
  · exact nmX7
  · exact nmX8
theorem nfl_pos {t k : Nat} (h : k < nfl t) : t < 8 := by
  unfold nfl at h
  split at h <;> omega
/-- the words that a callee may take over, and those on nest mates -/
def zkGw : List Cond := lw_tbl.filter goodWord
def zkNest (w : Cond) : Bool := match w with
  | .fieldLinkNest .. => true
  | .methodLinkNest .. => true
  | .declares .. => true
  | _ => false
def zkNw : List Cond := lw_tbl.filter zkNest
theorem zkGw_in {w : Cond} (i : Nat) (h : lw_tbl[i]? = some w) (hg : goodWord w = true) : w ∈ zkGw := List.mem_filter.mpr ⟨List.mem_of_getElem? h, hg⟩
theorem zkNw_in {w : Cond} (i : Nat) (h : lw_tbl[i]? = some w) (hg : zkNest w = true) : w ∈ zkNw := List.mem_filter.mpr ⟨List.mem_of_getElem? h, hg⟩
theorem zkGw_good : GoodIn zkGw zkGw := fun w h => ⟨h, good_of_word (List.mem_filter.mp h).2⟩
