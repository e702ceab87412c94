/-! the world stands: its cells by tag and number -/
def zIX : List ((Nat × Nat) × Nat) := [((0, 0), 1), ((0, 1), 43), ((1, 0), 16), ((1, 1), 22), ((1, 2), 28), ((1, 3), 34), ((1, 4), 40), ((1, 5), 58), ((1, 6), 64), ((1, 7), 70), ((1, 8), 76), ((1, 9), 82), ((2, 0), 85), ((3, 0), 6), ((3, 1), 48), ((4, 0), 3), ((4, 1), 45), ((5, 0), 13), ((5, 1), 19), ((5, 2), 25), ((5, 3), 31), ((5, 4), 37), ((5, 5), 55), ((5, 6), 61), ((5, 7), 67), ((5, 8), 73), ((5, 9), 79), ((6, 0), 0), ((7, 0), 88), ((10, 0), 2), ((10, 1), 44), ((11, 0), 4), ((11, 1), 46), ((12, 0), 5), ((12, 1), 47), ((13, 0), 7), ((13, 1), 49), ((14, 0), 8), ((14, 1), 50), ((15, 0), 9), ((15, 1), 51), ((16, 0), 10), ((16, 1), 52), ((17, 0), 11), ((17, 1), 53), ((18, 0), 12), ((18, 1), 54), ((19, 0), 14), ((19, 1), 20), ((19, 2), 26), ((19, 3), 32), ((19, 4), 38), ((19, 5), 56), ((19, 6), 62), ((19, 7), 68), ((19, 8), 74), ((19, 9), 80), ((20, 0), 15), ((20, 1), 21), ((20, 2), 27), ((20, 3), 33), ((20, 4), 39), ((20, 5), 57), ((20, 6), 63), ((20, 7), 69), ((20, 8), 75), ((20, 9), 81), ((21, 0), 17), ((21, 1), 23), ((21, 2), 29), ((21, 3), 35), ((21, 4), 41), ((21, 5), 59), ((21, 6), 65), ((21, 7), 71), ((21, 8), 77), ((21, 9), 83), ((22, 0), 18), ((22, 1), 24), ((22, 2), 30), ((22, 3), 36), ((22, 4), 42), ((22, 5), 60), ((22, 6), 66), ((22, 7), 72), ((22, 8), 78), ((22, 9), 84), ((23, 0), 86), ((24, 0), 87), ((30, 0), 89), ((31, 0), 90), ((32, 0), 91), ((33, 0), 92), ((34, 0), 93), ((35, 0), 94), ((36, 0), 95), ((37, 0), 96), ((38, 0), 97), ((39, 0), 98), ((40, 0), 99), ((41, 0), 100), ((42, 0), 101), ((43, 0), 102), ((44, 0), 103), ((45, 0), 104), ((46, 0), 105), ((50, 0), 106), ((51, 0), 107)]
theorem zIX_L : zIX.map Prod.fst = zkL := by decide +kernel
theorem zIX_n : ∀ u ∈ zIX, ∀ v ∈ zIX, u.2 = v.2 → u.1 = v.1 := by decide +kernel
theorem arrV_eq {cA : ClassId} {N : Nat} {f g : Nat → Value} (h : ∀ j, j < N → f j = g j) : arrV cA N f = arrV cA N g := by
  unfold arrV
  congr 2
  funext j
  exact h j.val j.isLt
def zGa (AL : List (List Nat)) (ks vs : Nat → Nat) : Nat × Nat → Nat := fun q => if q.1 = 60 then ks q.2 else if q.1 = 61 then vs q.2 else (AL.getD q.1 []).getD q.2 0
abbrev zGG (Bn : nB) (g : Nat × Nat → Nat) : zkG := (Bn.1.1, Bn.1.2, Bn.2, g)
theorem arrT_ok {Bn : nB} {g : Nat × Nat → Nat} {i : Nat} {H : Heap} {f : Nat → Option Nat} (h : va_at Bn.1 zkCl (g (10, i), Sum.inl (Bn.2 2, (5, Sum.inr (Sum.inr (Sum.inr (Sum.inr f)))))) H) (h0 : f 0 = some (g (5, 5 * i + 0))) (h1 : f 1 = some (g (5, 5 * i + 1))) (h2 : f 2 = some (g (5, 5 * i + 2))) (h3 : f 3 = some (g (5, 5 * i + 3))) (h4 : f 4 = some (g (5, 5 * i + 4))) : va_at Bn.1 zkCl (g (10, i), zkE (zGG Bn g) mem0 (10, i)) H := by
  have h : H[g (10, i)]? = some (arrV (Bn.2 2) 5 (fun j => va_rf (f j))) := h
  show H[g (10, i)]? = some (arrV (Bn.2 2) 5 (fun j => va_rf (some (g (5, 5 * i + j)))))
  rw [h]
  refine congrArg some (arrV_eq (fun j hj => ?_))
  rcases (show j = 0 ∨ j = 1 ∨ j = 2 ∨ j = 3 ∨ j = 4 by omega) with rfl | rfl | rfl | rfl | rfl
  · rw [h0]
  · rw [h1]
  · rw [h2]
  · rw [h3]
  · rw [h4]
/-- from the list of the cells to the world -/
theorem lw_all {Bn : nB} {g : Nat × Nat → Nat} {ws : va_W} {H : Heap} {A : Nat → Prop} (hD : va_D A ws) (h : ∀ z ∈ zIX, (∃ e : va_E, ws[z.2]? = some (g z.1, e)) ∧ va_at Bn.1 zkCl (g z.1, zkE (zGG Bn g) mem0 z.1) H) : va_P (gD (zGG Bn g)) zkCl (wl (zGG Bn g) mem0) H ∧ zkJ (zGG Bn g) ∧ ∀ v ∈ zkL, A (ga (zGG Bn g) v) := by
  have key : ∀ u ∈ zkL, ∃ i : Nat, (u, i) ∈ zIX := by
    intro u hu
    rw [← zIX_L] at hu
    obtain ⟨z, hz, rfl⟩ := List.mem_map.mp hu
    exact ⟨z.2, hz⟩
  refine ⟨fun k q hk => ?_, fun u hu v hv e => ?_, fun v hv => ?_⟩
  · unfold wl at hk
    rw [List.getElem?_map] at hk
    cases hu : zkL[k]? with
    | none => rw [hu] at hk; cases hk
    | some u =>
      rw [hu] at hk
      cases hk
      obtain ⟨i, hi⟩ := key u (List.mem_of_getElem? hu)
      exact (h _ hi).2
  · obtain ⟨i, hi⟩ := key u hu
    obtain ⟨j, hj⟩ := key v hv
    obtain ⟨⟨e1, h1⟩, -⟩ := h _ hi
    obtain ⟨⟨e2, h2⟩, -⟩ := h _ hj
    exact zIX_n _ hi _ hj (hD.1 i j _ _ h1 h2 e)
  · obtain ⟨j, hj⟩ := key v hv
    obtain ⟨⟨e2, h2⟩, -⟩ := h _ hj
    exact hD.2 j _ h2
set_option maxRecDepth 20000 in
set_option maxHeartbeats 4000000 in
theorem lw_world {Bn : nB} {ch0 mh0 o5 o6 : Nat} {w1 w2 : va_W} {H : Heap} {A : Nat → Prop} (ks vs : Nat → Nat) (h1 : p_Cw Bn ch0 w1) (h2 : p_Mo Bn mh0 w2) (hP : va_P Bn.1 zkCl (((w1 ++ w2) ++ [(o5, w5E Bn)]) ++ [(o6, w6E Bn)]) H) (hD : va_D A (((w1 ++ w2) ++ [(o5, w5E Bn)]) ++ [(o6, w6E Bn)])) : ∃ g : Nat × Nat → Nat, (∀ i, g (60, i) = ks i) ∧ (∀ i, g (61, i) = vs i) ∧ (g (6, 0) = ch0 ∧ g (7, 0) = mh0 ∧ g (50, 0) = o5 ∧ g (51, 0) = o6) ∧ va_P (gD (zGG Bn g)) zkCl (wl (zGG Bn g) mem0) H ∧ zkJ (zGG Bn g) ∧ ∀ v ∈ zkL, A (ga (zGG Bn g) v) := by
  obtain ⟨cq0, cq1, cq2, cq3, cq4, cq5, cq6, cq7, cq8, cq9, cq10, cq11, cq12, cq13, cq14, cq15, cq16, cq17, cq18, cq19, cq20, cq21, cq22, cq23, cq24, cq25, cq26, cq27, cq28, cq29, cq30, cq31, cq32, cq33, cq34, cq35, cq36, cq37, cq38, cq39, cq40, cq41, cq42, cq43, cq44, cq45, cq46, cq47, cq48, cq49, cq50, cq51, cq52, cq53, cq54, cq55, cq56, cq57, cq58, cq59, cq60, cq61, cq62, cq63, cq64, cq65, cq66, cq67, cq68, cq69, cq70, cq71, cq72, cq73, cq74, cq75, cq76, cq77, cq78, cq79, cq80, cq81, cq82, cq83, cq84, cq85, cq86, rfl⟩ := h1
  obtain ⟨mq0, mq1, mq2, mq3, mq4, mq5, mq6, mq7, mq8, mq9, mq10, mq11, mq12, mq13, mq14, mq15, mq16, rfl⟩ := h2
  have hP : va_P Bn.1 zkCl [(ch0, .inr (6, [.ref cq0, .ref cq42, .ref cq84, .int 0, .int (Int32.ofInt (-1))])), (cq0, .inr (0, [.ref cq1, .ref cq2, .ref cq5, .ref cq10, .ref cq11, .int 0, .int 0, .int 0])), (cq1, .inl (Bn.2 2, (5, Sum.inr (Sum.inr (Sum.inr (Sum.inr (va_up (va_up (va_up (va_up (va_up (fun _ => none) 0 (some cq12)) 1 (some cq18)) 2 (some cq24)) 3 (some cq30)) 4 (some cq36)))))))), (cq2, .inr (4, [.ref cq3, .ref cq4, .int 0, .int 0, .int 0, .int 0, .int 0, .int 0, .int 0, .int 0, .int 0])), (cq3, .inl (Bn.2 0, (9, Sum.inl (fun _ => 0)))), (cq4, .inl (Bn.2 0, (9, Sum.inl (fun _ => 0)))), (cq5, .inr (3, [.ref cq6, .ref cq7, .ref cq8, .ref cq9, .int 0])), (cq6, .inl (Bn.2 0, (12, Sum.inl (fun _ => 0)))), (cq7, .inl (Bn.2 0, (12, Sum.inl (fun _ => 0)))), (cq8, .inl (Bn.2 0, (12, Sum.inl (fun _ => 0)))), (cq9, .inl (Bn.2 0, (12, Sum.inl (fun _ => 0)))), (cq10, .inl (Bn.2 0, (4, Sum.inl (fun _ => 0)))), (cq11, .inl (Bn.2 0, (400, Sum.inl (fun _ => 0)))), (cq12, .inr (5, [.ref cq13, .ref cq14, .ref cq15, .ref cq17, .int 0, .int 0, .int 0, .int 0, .int 0, .int 0, .int 0, .int 0, .int 0, .int 0, .int 0])), (cq13, .inl (Bn.2 0, (6, Sum.inl (fun _ => 0)))), (cq14, .inl (Bn.2 0, (6, Sum.inl (fun _ => 0)))), (cq15, .inr (1, [.ref cq16, .int 0, .int 0])), (cq16, .inl (Bn.2 0, (400, Sum.inl (fun _ => 0)))), (cq17, .inl (Bn.2 0, (6, Sum.inl (fun _ => 0)))), (cq18, .inr (5, [.ref cq19, .ref cq20, .ref cq21, .ref cq23, .int 0, .int 0, .int 0, .int 0, .int 0, .int 0, .int 0, .int 0, .int 0, .int 0, .int 0])), (cq19, .inl (Bn.2 0, (6, Sum.inl (fun _ => 0)))), (cq20, .inl (Bn.2 0, (6, Sum.inl (fun _ => 0)))), (cq21, .inr (1, [.ref cq22, .int 0, .int 0])), (cq22, .inl (Bn.2 0, (400, Sum.inl (fun _ => 0)))), (cq23, .inl (Bn.2 0, (6, Sum.inl (fun _ => 0)))), (cq24, .inr (5, [.ref cq25, .ref cq26, .ref cq27, .ref cq29, .int 0, .int 0, .int 0, .int 0, .int 0, .int 0, .int 0, .int 0, .int 0, .int 0, .int 0])), (cq25, .inl (Bn.2 0, (6, Sum.inl (fun _ => 0)))), (cq26, .inl (Bn.2 0, (6, Sum.inl (fun _ => 0)))), (cq27, .inr (1, [.ref cq28, .int 0, .int 0])), (cq28, .inl (Bn.2 0, (400, Sum.inl (fun _ => 0)))), (cq29, .inl (Bn.2 0, (6, Sum.inl (fun _ => 0)))), (cq30, .inr (5, [.ref cq31, .ref cq32, .ref cq33, .ref cq35, .int 0, .int 0, .int 0, .int 0, .int 0, .int 0, .int 0, .int 0, .int 0, .int 0, .int 0])), (cq31, .inl (Bn.2 0, (6, Sum.inl (fun _ => 0)))), (cq32, .inl (Bn.2 0, (6, Sum.inl (fun _ => 0)))), (cq33, .inr (1, [.ref cq34, .int 0, .int 0])), (cq34, .inl (Bn.2 0, (400, Sum.inl (fun _ => 0)))), (cq35, .inl (Bn.2 0, (6, Sum.inl (fun _ => 0)))), (cq36, .inr (5, [.ref cq37, .ref cq38, .ref cq39, .ref cq41, .int 0, .int 0, .int 0, .int 0, .int 0, .int 0, .int 0, .int 0, .int 0, .int 0, .int 0])), (cq37, .inl (Bn.2 0, (6, Sum.inl (fun _ => 0)))), (cq38, .inl (Bn.2 0, (6, Sum.inl (fun _ => 0)))), (cq39, .inr (1, [.ref cq40, .int 0, .int 0])), (cq40, .inl (Bn.2 0, (400, Sum.inl (fun _ => 0)))), (cq41, .inl (Bn.2 0, (6, Sum.inl (fun _ => 0)))), (cq42, .inr (0, [.ref cq43, .ref cq44, .ref cq47, .ref cq52, .ref cq53, .int 0, .int 0, .int 0])), (cq43, .inl (Bn.2 2, (5, Sum.inr (Sum.inr (Sum.inr (Sum.inr (va_up (va_up (va_up (va_up (va_up (fun _ => none) 0 (some cq54)) 1 (some cq60)) 2 (some cq66)) 3 (some cq72)) 4 (some cq78)))))))), (cq44, .inr (4, [.ref cq45, .ref cq46, .int 0, .int 0, .int 0, .int 0, .int 0, .int 0, .int 0, .int 0, .int 0])), (cq45, .inl (Bn.2 0, (9, Sum.inl (fun _ => 0)))), (cq46, .inl (Bn.2 0, (9, Sum.inl (fun _ => 0)))), (cq47, .inr (3, [.ref cq48, .ref cq49, .ref cq50, .ref cq51, .int 0])), (cq48, .inl (Bn.2 0, (12, Sum.inl (fun _ => 0)))), (cq49, .inl (Bn.2 0, (12, Sum.inl (fun _ => 0)))), (cq50, .inl (Bn.2 0, (12, Sum.inl (fun _ => 0)))), (cq51, .inl (Bn.2 0, (12, Sum.inl (fun _ => 0)))), (cq52, .inl (Bn.2 0, (4, Sum.inl (fun _ => 0)))), (cq53, .inl (Bn.2 0, (400, Sum.inl (fun _ => 0)))), (cq54, .inr (5, [.ref cq55, .ref cq56, .ref cq57, .ref cq59, .int 0, .int 0, .int 0, .int 0, .int 0, .int 0, .int 0, .int 0, .int 0, .int 0, .int 0])), (cq55, .inl (Bn.2 0, (6, Sum.inl (fun _ => 0)))), (cq56, .inl (Bn.2 0, (6, Sum.inl (fun _ => 0)))), (cq57, .inr (1, [.ref cq58, .int 0, .int 0])), (cq58, .inl (Bn.2 0, (400, Sum.inl (fun _ => 0)))), (cq59, .inl (Bn.2 0, (6, Sum.inl (fun _ => 0)))), (cq60, .inr (5, [.ref cq61, .ref cq62, .ref cq63, .ref cq65, .int 0, .int 0, .int 0, .int 0, .int 0, .int 0, .int 0, .int 0, .int 0, .int 0, .int 0])), (cq61, .inl (Bn.2 0, (6, Sum.inl (fun _ => 0)))), (cq62, .inl (Bn.2 0, (6, Sum.inl (fun _ => 0)))), (cq63, .inr (1, [.ref cq64, .int 0, .int 0])), (cq64, .inl (Bn.2 0, (400, Sum.inl (fun _ => 0)))), (cq65, .inl (Bn.2 0, (6, Sum.inl (fun _ => 0)))), (cq66, .inr (5, [.ref cq67, .ref cq68, .ref cq69, .ref cq71, .int 0, .int 0, .int 0, .int 0, .int 0, .int 0, .int 0, .int 0, .int 0, .int 0, .int 0])), (cq67, .inl (Bn.2 0, (6, Sum.inl (fun _ => 0)))), (cq68, .inl (Bn.2 0, (6, Sum.inl (fun _ => 0)))), (cq69, .inr (1, [.ref cq70, .int 0, .int 0])), (cq70, .inl (Bn.2 0, (400, Sum.inl (fun _ => 0)))), (cq71, .inl (Bn.2 0, (6, Sum.inl (fun _ => 0)))), (cq72, .inr (5, [.ref cq73, .ref cq74, .ref cq75, .ref cq77, .int 0, .int 0, .int 0, .int 0, .int 0, .int 0, .int 0, .int 0, .int 0, .int 0, .int 0])), (cq73, .inl (Bn.2 0, (6, Sum.inl (fun _ => 0)))), (cq74, .inl (Bn.2 0, (6, Sum.inl (fun _ => 0)))), (cq75, .inr (1, [.ref cq76, .int 0, .int 0])), (cq76, .inl (Bn.2 0, (400, Sum.inl (fun _ => 0)))), (cq77, .inl (Bn.2 0, (6, Sum.inl (fun _ => 0)))), (cq78, .inr (5, [.ref cq79, .ref cq80, .ref cq81, .ref cq83, .int 0, .int 0, .int 0, .int 0, .int 0, .int 0, .int 0, .int 0, .int 0, .int 0, .int 0])), (cq79, .inl (Bn.2 0, (6, Sum.inl (fun _ => 0)))), (cq80, .inl (Bn.2 0, (6, Sum.inl (fun _ => 0)))), (cq81, .inr (1, [.ref cq82, .int 0, .int 0])), (cq82, .inl (Bn.2 0, (400, Sum.inl (fun _ => 0)))), (cq83, .inl (Bn.2 0, (6, Sum.inl (fun _ => 0)))), (cq84, .inr (2, [.ref cq85, .ref cq86, .int 0, .int 0, .int 0])), (cq85, .inl (Bn.2 1, (60, Sum.inl (fun _ => 0)))), (cq86, .inl (Bn.2 0, (4, Sum.inl (fun _ => 0)))), (mh0, .inr (7, [.int 0, .int 0, .int 0, .ref mq0, .ref mq1, .ref mq2, .int 0, .int 0, .int 0, .int 0, .ref mq3, .int 0, .ref mq4, .ref mq5, .ref mq6, .ref mq7, .ref mq8, .ref mq9, .ref mq10, .int 0, .int 0, .int 0, .int 0, .ref mq11, .ref mq12, .ref mq13, .int 0, .ref mq14, .int 0, .int 0, .int 0, .int 0, .int (Int32.ofInt (-1)), .ref mq15, .int 0, .ref mq16, .int 0, .int 0])), (mq0, .inl (Bn.2 0, (20, Sum.inl (fun _ => 0)))), (mq1, .inl (Bn.2 0, (5, Sum.inl (fun _ => 0)))), (mq2, .inl (Bn.2 0, (60, Sum.inl (fun _ => 0)))), (mq3, .inl (Bn.2 0, (24, Sum.inl (fun _ => 0)))), (mq4, .inl (Bn.2 0, (400, Sum.inl (fun _ => 0)))), (mq5, .inl (Bn.2 0, (2005, Sum.inl (fun _ => 0)))), (mq6, .inl (Bn.2 0, (5, Sum.inl (fun _ => 0)))), (mq7, .inl (Bn.2 0, (5, Sum.inl (fun _ => 0)))), (mq8, .inl (Bn.2 0, (5, Sum.inl (fun _ => 0)))), (mq9, .inl (Bn.2 0, (30, Sum.inl (fun _ => 0)))), (mq10, .inl (Bn.2 0, (5, Sum.inl (fun _ => 0)))), (mq11, .inl (Bn.2 0, (12, Sum.inl (fun _ => 0)))), (mq12, .inl (Bn.2 0, (12, Sum.inl (fun _ => 0)))), (mq13, .inl (Bn.2 0, (800, Sum.inl (fun _ => 0)))), (mq14, .inl (Bn.2 1, (60, Sum.inl (fun _ => 0)))), (mq15, .inl (Bn.2 0, (4, Sum.inl (fun _ => 0)))), (mq16, .inl (Bn.2 0, (3600, Sum.inl (fun _ => 0)))), (o5, w5E Bn), (o6, w6E Bn)] H := hP
  have hD : va_D A [(ch0, .inr (6, [.ref cq0, .ref cq42, .ref cq84, .int 0, .int (Int32.ofInt (-1))])), (cq0, .inr (0, [.ref cq1, .ref cq2, .ref cq5, .ref cq10, .ref cq11, .int 0, .int 0, .int 0])), (cq1, .inl (Bn.2 2, (5, Sum.inr (Sum.inr (Sum.inr (Sum.inr (va_up (va_up (va_up (va_up (va_up (fun _ => none) 0 (some cq12)) 1 (some cq18)) 2 (some cq24)) 3 (some cq30)) 4 (some cq36)))))))), (cq2, .inr (4, [.ref cq3, .ref cq4, .int 0, .int 0, .int 0, .int 0, .int 0, .int 0, .int 0, .int 0, .int 0])), (cq3, .inl (Bn.2 0, (9, Sum.inl (fun _ => 0)))), (cq4, .inl (Bn.2 0, (9, Sum.inl (fun _ => 0)))), (cq5, .inr (3, [.ref cq6, .ref cq7, .ref cq8, .ref cq9, .int 0])), (cq6, .inl (Bn.2 0, (12, Sum.inl (fun _ => 0)))), (cq7, .inl (Bn.2 0, (12, Sum.inl (fun _ => 0)))), (cq8, .inl (Bn.2 0, (12, Sum.inl (fun _ => 0)))), (cq9, .inl (Bn.2 0, (12, Sum.inl (fun _ => 0)))), (cq10, .inl (Bn.2 0, (4, Sum.inl (fun _ => 0)))), (cq11, .inl (Bn.2 0, (400, Sum.inl (fun _ => 0)))), (cq12, .inr (5, [.ref cq13, .ref cq14, .ref cq15, .ref cq17, .int 0, .int 0, .int 0, .int 0, .int 0, .int 0, .int 0, .int 0, .int 0, .int 0, .int 0])), (cq13, .inl (Bn.2 0, (6, Sum.inl (fun _ => 0)))), (cq14, .inl (Bn.2 0, (6, Sum.inl (fun _ => 0)))), (cq15, .inr (1, [.ref cq16, .int 0, .int 0])), (cq16, .inl (Bn.2 0, (400, Sum.inl (fun _ => 0)))), (cq17, .inl (Bn.2 0, (6, Sum.inl (fun _ => 0)))), (cq18, .inr (5, [.ref cq19, .ref cq20, .ref cq21, .ref cq23, .int 0, .int 0, .int 0, .int 0, .int 0, .int 0, .int 0, .int 0, .int 0, .int 0, .int 0])), (cq19, .inl (Bn.2 0, (6, Sum.inl (fun _ => 0)))), (cq20, .inl (Bn.2 0, (6, Sum.inl (fun _ => 0)))), (cq21, .inr (1, [.ref cq22, .int 0, .int 0])), (cq22, .inl (Bn.2 0, (400, Sum.inl (fun _ => 0)))), (cq23, .inl (Bn.2 0, (6, Sum.inl (fun _ => 0)))), (cq24, .inr (5, [.ref cq25, .ref cq26, .ref cq27, .ref cq29, .int 0, .int 0, .int 0, .int 0, .int 0, .int 0, .int 0, .int 0, .int 0, .int 0, .int 0])), (cq25, .inl (Bn.2 0, (6, Sum.inl (fun _ => 0)))), (cq26, .inl (Bn.2 0, (6, Sum.inl (fun _ => 0)))), (cq27, .inr (1, [.ref cq28, .int 0, .int 0])), (cq28, .inl (Bn.2 0, (400, Sum.inl (fun _ => 0)))), (cq29, .inl (Bn.2 0, (6, Sum.inl (fun _ => 0)))), (cq30, .inr (5, [.ref cq31, .ref cq32, .ref cq33, .ref cq35, .int 0, .int 0, .int 0, .int 0, .int 0, .int 0, .int 0, .int 0, .int 0, .int 0, .int 0])), (cq31, .inl (Bn.2 0, (6, Sum.inl (fun _ => 0)))), (cq32, .inl (Bn.2 0, (6, Sum.inl (fun _ => 0)))), (cq33, .inr (1, [.ref cq34, .int 0, .int 0])), (cq34, .inl (Bn.2 0, (400, Sum.inl (fun _ => 0)))), (cq35, .inl (Bn.2 0, (6, Sum.inl (fun _ => 0)))), (cq36, .inr (5, [.ref cq37, .ref cq38, .ref cq39, .ref cq41, .int 0, .int 0, .int 0, .int 0, .int 0, .int 0, .int 0, .int 0, .int 0, .int 0, .int 0])), (cq37, .inl (Bn.2 0, (6, Sum.inl (fun _ => 0)))), (cq38, .inl (Bn.2 0, (6, Sum.inl (fun _ => 0)))), (cq39, .inr (1, [.ref cq40, .int 0, .int 0])), (cq40, .inl (Bn.2 0, (400, Sum.inl (fun _ => 0)))), (cq41, .inl (Bn.2 0, (6, Sum.inl (fun _ => 0)))), (cq42, .inr (0, [.ref cq43, .ref cq44, .ref cq47, .ref cq52, .ref cq53, .int 0, .int 0, .int 0])), (cq43, .inl (Bn.2 2, (5, Sum.inr (Sum.inr (Sum.inr (Sum.inr (va_up (va_up (va_up (va_up (va_up (fun _ => none) 0 (some cq54)) 1 (some cq60)) 2 (some cq66)) 3 (some cq72)) 4 (some cq78)))))))), (cq44, .inr (4, [.ref cq45, .ref cq46, .int 0, .int 0, .int 0, .int 0, .int 0, .int 0, .int 0, .int 0, .int 0])), (cq45, .inl (Bn.2 0, (9, Sum.inl (fun _ => 0)))), (cq46, .inl (Bn.2 0, (9, Sum.inl (fun _ => 0)))), (cq47, .inr (3, [.ref cq48, .ref cq49, .ref cq50, .ref cq51, .int 0])), (cq48, .inl (Bn.2 0, (12, Sum.inl (fun _ => 0)))), (cq49, .inl (Bn.2 0, (12, Sum.inl (fun _ => 0)))), (cq50, .inl (Bn.2 0, (12, Sum.inl (fun _ => 0)))), (cq51, .inl (Bn.2 0, (12, Sum.inl (fun _ => 0)))), (cq52, .inl (Bn.2 0, (4, Sum.inl (fun _ => 0)))), (cq53, .inl (Bn.2 0, (400, Sum.inl (fun _ => 0)))), (cq54, .inr (5, [.ref cq55, .ref cq56, .ref cq57, .ref cq59, .int 0, .int 0, .int 0, .int 0, .int 0, .int 0, .int 0, .int 0, .int 0, .int 0, .int 0])), (cq55, .inl (Bn.2 0, (6, Sum.inl (fun _ => 0)))), (cq56, .inl (Bn.2 0, (6, Sum.inl (fun _ => 0)))), (cq57, .inr (1, [.ref cq58, .int 0, .int 0])), (cq58, .inl (Bn.2 0, (400, Sum.inl (fun _ => 0)))), (cq59, .inl (Bn.2 0, (6, Sum.inl (fun _ => 0)))), (cq60, .inr (5, [.ref cq61, .ref cq62, .ref cq63, .ref cq65, .int 0, .int 0, .int 0, .int 0, .int 0, .int 0, .int 0, .int 0, .int 0, .int 0, .int 0])), (cq61, .inl (Bn.2 0, (6, Sum.inl (fun _ => 0)))), (cq62, .inl (Bn.2 0, (6, Sum.inl (fun _ => 0)))), (cq63, .inr (1, [.ref cq64, .int 0, .int 0])), (cq64, .inl (Bn.2 0, (400, Sum.inl (fun _ => 0)))), (cq65, .inl (Bn.2 0, (6, Sum.inl (fun _ => 0)))), (cq66, .inr (5, [.ref cq67, .ref cq68, .ref cq69, .ref cq71, .int 0, .int 0, .int 0, .int 0, .int 0, .int 0, .int 0, .int 0, .int 0, .int 0, .int 0])), (cq67, .inl (Bn.2 0, (6, Sum.inl (fun _ => 0)))), (cq68, .inl (Bn.2 0, (6, Sum.inl (fun _ => 0)))), (cq69, .inr (1, [.ref cq70, .int 0, .int 0])), (cq70, .inl (Bn.2 0, (400, Sum.inl (fun _ => 0)))), (cq71, .inl (Bn.2 0, (6, Sum.inl (fun _ => 0)))), (cq72, .inr (5, [.ref cq73, .ref cq74, .ref cq75, .ref cq77, .int 0, .int 0, .int 0, .int 0, .int 0, .int 0, .int 0, .int 0, .int 0, .int 0, .int 0])), (cq73, .inl (Bn.2 0, (6, Sum.inl (fun _ => 0)))), (cq74, .inl (Bn.2 0, (6, Sum.inl (fun _ => 0)))), (cq75, .inr (1, [.ref cq76, .int 0, .int 0])), (cq76, .inl (Bn.2 0, (400, Sum.inl (fun _ => 0)))), (cq77, .inl (Bn.2 0, (6, Sum.inl (fun _ => 0)))), (cq78, .inr (5, [.ref cq79, .ref cq80, .ref cq81, .ref cq83, .int 0, .int 0, .int 0, .int 0, .int 0, .int 0, .int 0, .int 0, .int 0, .int 0, .int 0])), (cq79, .inl (Bn.2 0, (6, Sum.inl (fun _ => 0)))), (cq80, .inl (Bn.2 0, (6, Sum.inl (fun _ => 0)))), (cq81, .inr (1, [.ref cq82, .int 0, .int 0])), (cq82, .inl (Bn.2 0, (400, Sum.inl (fun _ => 0)))), (cq83, .inl (Bn.2 0, (6, Sum.inl (fun _ => 0)))), (cq84, .inr (2, [.ref cq85, .ref cq86, .int 0, .int 0, .int 0])), (cq85, .inl (Bn.2 1, (60, Sum.inl (fun _ => 0)))), (cq86, .inl (Bn.2 0, (4, Sum.inl (fun _ => 0)))), (mh0, .inr (7, [.int 0, .int 0, .int 0, .ref mq0, .ref mq1, .ref mq2, .int 0, .int 0, .int 0, .int 0, .ref mq3, .int 0, .ref mq4, .ref mq5, .ref mq6, .ref mq7, .ref mq8, .ref mq9, .ref mq10, .int 0, .int 0, .int 0, .int 0, .ref mq11, .ref mq12, .ref mq13, .int 0, .ref mq14, .int 0, .int 0, .int 0, .int 0, .int (Int32.ofInt (-1)), .ref mq15, .int 0, .ref mq16, .int 0, .int 0])), (mq0, .inl (Bn.2 0, (20, Sum.inl (fun _ => 0)))), (mq1, .inl (Bn.2 0, (5, Sum.inl (fun _ => 0)))), (mq2, .inl (Bn.2 0, (60, Sum.inl (fun _ => 0)))), (mq3, .inl (Bn.2 0, (24, Sum.inl (fun _ => 0)))), (mq4, .inl (Bn.2 0, (400, Sum.inl (fun _ => 0)))), (mq5, .inl (Bn.2 0, (2005, Sum.inl (fun _ => 0)))), (mq6, .inl (Bn.2 0, (5, Sum.inl (fun _ => 0)))), (mq7, .inl (Bn.2 0, (5, Sum.inl (fun _ => 0)))), (mq8, .inl (Bn.2 0, (5, Sum.inl (fun _ => 0)))), (mq9, .inl (Bn.2 0, (30, Sum.inl (fun _ => 0)))), (mq10, .inl (Bn.2 0, (5, Sum.inl (fun _ => 0)))), (mq11, .inl (Bn.2 0, (12, Sum.inl (fun _ => 0)))), (mq12, .inl (Bn.2 0, (12, Sum.inl (fun _ => 0)))), (mq13, .inl (Bn.2 0, (800, Sum.inl (fun _ => 0)))), (mq14, .inl (Bn.2 1, (60, Sum.inl (fun _ => 0)))), (mq15, .inl (Bn.2 0, (4, Sum.inl (fun _ => 0)))), (mq16, .inl (Bn.2 0, (3600, Sum.inl (fun _ => 0)))), (o5, w5E Bn), (o6, w6E Bn)] := hD
  refine ⟨zGa [[cq0, cq42], [cq15, cq21, cq27, cq33, cq39, cq57, cq63, cq69, cq75, cq81], [cq84], [cq5, cq47], [cq2, cq44], [cq12, cq18, cq24, cq30, cq36, cq54, cq60, cq66, cq72, cq78], [ch0], [mh0], [], [], [cq1, cq43], [cq3, cq45], [cq4, cq46], [cq6, cq48], [cq7, cq49], [cq8, cq50], [cq9, cq51], [cq10, cq52], [cq11, cq53], [cq13, cq19, cq25, cq31, cq37, cq55, cq61, cq67, cq73, cq79], [cq14, cq20, cq26, cq32, cq38, cq56, cq62, cq68, cq74, cq80], [cq16, cq22, cq28, cq34, cq40, cq58, cq64, cq70, cq76, cq82], [cq17, cq23, cq29, cq35, cq41, cq59, cq65, cq71, cq77, cq83], [cq85], [cq86], [], [], [], [], [], [mq0], [mq1], [mq2], [mq3], [mq4], [mq5], [mq6], [mq7], [mq8], [mq9], [mq10], [mq11], [mq12], [mq13], [mq14], [mq15], [mq16], [], [], [], [o5], [o6]] ks vs, fun i => rfl, fun i => rfl, ⟨rfl, rfl, rfl, rfl⟩, lw_all hD ?_⟩
  refine List.forall_mem_cons.mpr ⟨⟨⟨_, rfl⟩, hP 1 _ rfl⟩, ?_⟩
  refine List.forall_mem_cons.mpr ⟨⟨⟨_, rfl⟩, hP 43 _ rfl⟩, ?_⟩
  refine List.forall_mem_cons.mpr ⟨⟨⟨_, rfl⟩, hP 16 _ rfl⟩, ?_⟩
  refine List.forall_mem_cons.mpr ⟨⟨⟨_, rfl⟩, hP 22 _ rfl⟩, ?_⟩
  refine List.forall_mem_cons.mpr ⟨⟨⟨_, rfl⟩, hP 28 _ rfl⟩, ?_⟩
  refine List.forall_mem_cons.mpr ⟨⟨⟨_, rfl⟩, hP 34 _ rfl⟩, ?_⟩
  refine List.forall_mem_cons.mpr ⟨⟨⟨_, rfl⟩, hP 40 _ rfl⟩, ?_⟩
  refine List.forall_mem_cons.mpr ⟨⟨⟨_, rfl⟩, hP 58 _ rfl⟩, ?_⟩
  refine List.forall_mem_cons.mpr ⟨⟨⟨_, rfl⟩, hP 64 _ rfl⟩, ?_⟩
  refine List.forall_mem_cons.mpr ⟨⟨⟨_, rfl⟩, hP 70 _ rfl⟩, ?_⟩
  refine List.forall_mem_cons.mpr ⟨⟨⟨_, rfl⟩, hP 76 _ rfl⟩, ?_⟩
  refine List.forall_mem_cons.mpr ⟨⟨⟨_, rfl⟩, hP 82 _ rfl⟩, ?_⟩
  refine List.forall_mem_cons.mpr ⟨⟨⟨_, rfl⟩, hP 85 _ rfl⟩, ?_⟩
  refine List.forall_mem_cons.mpr ⟨⟨⟨_, rfl⟩, hP 6 _ rfl⟩, ?_⟩
  refine List.forall_mem_cons.mpr ⟨⟨⟨_, rfl⟩, hP 48 _ rfl⟩, ?_⟩
  refine List.forall_mem_cons.mpr ⟨⟨⟨_, rfl⟩, hP 3 _ rfl⟩, ?_⟩
  refine List.forall_mem_cons.mpr ⟨⟨⟨_, rfl⟩, hP 45 _ rfl⟩, ?_⟩
  refine List.forall_mem_cons.mpr ⟨⟨⟨_, rfl⟩, hP 13 _ rfl⟩, ?_⟩
  refine List.forall_mem_cons.mpr ⟨⟨⟨_, rfl⟩, hP 19 _ rfl⟩, ?_⟩
  refine List.forall_mem_cons.mpr ⟨⟨⟨_, rfl⟩, hP 25 _ rfl⟩, ?_⟩
  refine List.forall_mem_cons.mpr ⟨⟨⟨_, rfl⟩, hP 31 _ rfl⟩, ?_⟩
  refine List.forall_mem_cons.mpr ⟨⟨⟨_, rfl⟩, hP 37 _ rfl⟩, ?_⟩
  refine List.forall_mem_cons.mpr ⟨⟨⟨_, rfl⟩, hP 55 _ rfl⟩, ?_⟩
  refine List.forall_mem_cons.mpr ⟨⟨⟨_, rfl⟩, hP 61 _ rfl⟩, ?_⟩
  refine List.forall_mem_cons.mpr ⟨⟨⟨_, rfl⟩, hP 67 _ rfl⟩, ?_⟩
  refine List.forall_mem_cons.mpr ⟨⟨⟨_, rfl⟩, hP 73 _ rfl⟩, ?_⟩
  refine List.forall_mem_cons.mpr ⟨⟨⟨_, rfl⟩, hP 79 _ rfl⟩, ?_⟩
  refine List.forall_mem_cons.mpr ⟨⟨⟨_, rfl⟩, hP 0 _ rfl⟩, ?_⟩
  refine List.forall_mem_cons.mpr ⟨⟨⟨_, rfl⟩, hP 88 _ rfl⟩, ?_⟩
  refine List.forall_mem_cons.mpr ⟨⟨⟨_, rfl⟩, arrT_ok (i := 0) (hP 2 _ rfl) rfl rfl rfl rfl rfl⟩, ?_⟩
  refine List.forall_mem_cons.mpr ⟨⟨⟨_, rfl⟩, arrT_ok (i := 1) (hP 44 _ rfl) rfl rfl rfl rfl rfl⟩, ?_⟩
  refine List.forall_mem_cons.mpr ⟨⟨⟨_, rfl⟩, hP 4 _ rfl⟩, ?_⟩
  refine List.forall_mem_cons.mpr ⟨⟨⟨_, rfl⟩, hP 46 _ rfl⟩, ?_⟩
  refine List.forall_mem_cons.mpr ⟨⟨⟨_, rfl⟩, hP 5 _ rfl⟩, ?_⟩
  refine List.forall_mem_cons.mpr ⟨⟨⟨_, rfl⟩, hP 47 _ rfl⟩, ?_⟩
  refine List.forall_mem_cons.mpr ⟨⟨⟨_, rfl⟩, hP 7 _ rfl⟩, ?_⟩
  refine List.forall_mem_cons.mpr ⟨⟨⟨_, rfl⟩, hP 49 _ rfl⟩, ?_⟩
  refine List.forall_mem_cons.mpr ⟨⟨⟨_, rfl⟩, hP 8 _ rfl⟩, ?_⟩
  refine List.forall_mem_cons.mpr ⟨⟨⟨_, rfl⟩, hP 50 _ rfl⟩, ?_⟩
  refine List.forall_mem_cons.mpr ⟨⟨⟨_, rfl⟩, hP 9 _ rfl⟩, ?_⟩
  refine List.forall_mem_cons.mpr ⟨⟨⟨_, rfl⟩, hP 51 _ rfl⟩, ?_⟩
  refine List.forall_mem_cons.mpr ⟨⟨⟨_, rfl⟩, hP 10 _ rfl⟩, ?_⟩
  refine List.forall_mem_cons.mpr ⟨⟨⟨_, rfl⟩, hP 52 _ rfl⟩, ?_⟩
  refine List.forall_mem_cons.mpr ⟨⟨⟨_, rfl⟩, hP 11 _ rfl⟩, ?_⟩
  refine List.forall_mem_cons.mpr ⟨⟨⟨_, rfl⟩, hP 53 _ rfl⟩, ?_⟩
  refine List.forall_mem_cons.mpr ⟨⟨⟨_, rfl⟩, hP 12 _ rfl⟩, ?_⟩
  refine List.forall_mem_cons.mpr ⟨⟨⟨_, rfl⟩, hP 54 _ rfl⟩, ?_⟩
  refine List.forall_mem_cons.mpr ⟨⟨⟨_, rfl⟩, hP 14 _ rfl⟩, ?_⟩
  refine List.forall_mem_cons.mpr ⟨⟨⟨_, rfl⟩, hP 20 _ rfl⟩, ?_⟩
  refine List.forall_mem_cons.mpr ⟨⟨⟨_, rfl⟩, hP 26 _ rfl⟩, ?_⟩
  refine List.forall_mem_cons.mpr ⟨⟨⟨_, rfl⟩, hP 32 _ rfl⟩, ?_⟩
  refine List.forall_mem_cons.mpr ⟨⟨⟨_, rfl⟩, hP 38 _ rfl⟩, ?_⟩
  refine List.forall_mem_cons.mpr ⟨⟨⟨_, rfl⟩, hP 56 _ rfl⟩, ?_⟩
  refine List.forall_mem_cons.mpr ⟨⟨⟨_, rfl⟩, hP 62 _ rfl⟩, ?_⟩
  refine List.forall_mem_cons.mpr ⟨⟨⟨_, rfl⟩, hP 68 _ rfl⟩, ?_⟩
  refine List.forall_mem_cons.mpr ⟨⟨⟨_, rfl⟩, hP 74 _ rfl⟩, ?_⟩
  refine List.forall_mem_cons.mpr ⟨⟨⟨_, rfl⟩, hP 80 _ rfl⟩, ?_⟩
  refine List.forall_mem_cons.mpr ⟨⟨⟨_, rfl⟩, hP 15 _ rfl⟩, ?_⟩
  refine List.forall_mem_cons.mpr ⟨⟨⟨_, rfl⟩, hP 21 _ rfl⟩, ?_⟩
  refine List.forall_mem_cons.mpr ⟨⟨⟨_, rfl⟩, hP 27 _ rfl⟩, ?_⟩
  refine List.forall_mem_cons.mpr ⟨⟨⟨_, rfl⟩, hP 33 _ rfl⟩, ?_⟩
  refine List.forall_mem_cons.mpr ⟨⟨⟨_, rfl⟩, hP 39 _ rfl⟩, ?_⟩
  refine List.forall_mem_cons.mpr ⟨⟨⟨_, rfl⟩, hP 57 _ rfl⟩, ?_⟩
  refine List.forall_mem_cons.mpr ⟨⟨⟨_, rfl⟩, hP 63 _ rfl⟩, ?_⟩
  refine List.forall_mem_cons.mpr ⟨⟨⟨_, rfl⟩, hP 69 _ rfl⟩, ?_⟩
  refine List.forall_mem_cons.mpr ⟨⟨⟨_, rfl⟩, hP 75 _ rfl⟩, ?_⟩
  refine List.forall_mem_cons.mpr ⟨⟨⟨_, rfl⟩, hP 81 _ rfl⟩, ?_⟩
  refine List.forall_mem_cons.mpr ⟨⟨⟨_, rfl⟩, hP 17 _ rfl⟩, ?_⟩
  refine List.forall_mem_cons.mpr ⟨⟨⟨_, rfl⟩, hP 23 _ rfl⟩, ?_⟩
  refine List.forall_mem_cons.mpr ⟨⟨⟨_, rfl⟩, hP 29 _ rfl⟩, ?_⟩
  refine List.forall_mem_cons.mpr ⟨⟨⟨_, rfl⟩, hP 35 _ rfl⟩, ?_⟩
  refine List.forall_mem_cons.mpr ⟨⟨⟨_, rfl⟩, hP 41 _ rfl⟩, ?_⟩
  refine List.forall_mem_cons.mpr ⟨⟨⟨_, rfl⟩, hP 59 _ rfl⟩, ?_⟩
  refine List.forall_mem_cons.mpr ⟨⟨⟨_, rfl⟩, hP 65 _ rfl⟩, ?_⟩
  refine List.forall_mem_cons.mpr ⟨⟨⟨_, rfl⟩, hP 71 _ rfl⟩, ?_⟩
  refine List.forall_mem_cons.mpr ⟨⟨⟨_, rfl⟩, hP 77 _ rfl⟩, ?_⟩
  refine List.forall_mem_cons.mpr ⟨⟨⟨_, rfl⟩, hP 83 _ rfl⟩, ?_⟩
  refine List.forall_mem_cons.mpr ⟨⟨⟨_, rfl⟩, hP 18 _ rfl⟩, ?_⟩
  refine List.forall_mem_cons.mpr ⟨⟨⟨_, rfl⟩, hP 24 _ rfl⟩, ?_⟩
  refine List.forall_mem_cons.mpr ⟨⟨⟨_, rfl⟩, hP 30 _ rfl⟩, ?_⟩
  refine List.forall_mem_cons.mpr ⟨⟨⟨_, rfl⟩, hP 36 _ rfl⟩, ?_⟩
  refine List.forall_mem_cons.mpr ⟨⟨⟨_, rfl⟩, hP 42 _ rfl⟩, ?_⟩
  refine List.forall_mem_cons.mpr ⟨⟨⟨_, rfl⟩, hP 60 _ rfl⟩, ?_⟩
  refine List.forall_mem_cons.mpr ⟨⟨⟨_, rfl⟩, hP 66 _ rfl⟩, ?_⟩
  refine List.forall_mem_cons.mpr ⟨⟨⟨_, rfl⟩, hP 72 _ rfl⟩, ?_⟩
  refine List.forall_mem_cons.mpr ⟨⟨⟨_, rfl⟩, hP 78 _ rfl⟩, ?_⟩
  refine List.forall_mem_cons.mpr ⟨⟨⟨_, rfl⟩, hP 84 _ rfl⟩, ?_⟩
  refine List.forall_mem_cons.mpr ⟨⟨⟨_, rfl⟩, hP 86 _ rfl⟩, ?_⟩
  refine List.forall_mem_cons.mpr ⟨⟨⟨_, rfl⟩, hP 87 _ rfl⟩, ?_⟩
  refine List.forall_mem_cons.mpr ⟨⟨⟨_, rfl⟩, hP 89 _ rfl⟩, ?_⟩
  refine List.forall_mem_cons.mpr ⟨⟨⟨_, rfl⟩, hP 90 _ rfl⟩, ?_⟩
  refine List.forall_mem_cons.mpr ⟨⟨⟨_, rfl⟩, hP 91 _ rfl⟩, ?_⟩
  refine List.forall_mem_cons.mpr ⟨⟨⟨_, rfl⟩, hP 92 _ rfl⟩, ?_⟩
  refine List.forall_mem_cons.mpr ⟨⟨⟨_, rfl⟩, hP 93 _ rfl⟩, ?_⟩
  refine List.forall_mem_cons.mpr ⟨⟨⟨_, rfl⟩, hP 94 _ rfl⟩, ?_⟩
  refine List.forall_mem_cons.mpr ⟨⟨⟨_, rfl⟩, hP 95 _ rfl⟩, ?_⟩
  refine List.forall_mem_cons.mpr ⟨⟨⟨_, rfl⟩, hP 96 _ rfl⟩, ?_⟩
  refine List.forall_mem_cons.mpr ⟨⟨⟨_, rfl⟩, hP 97 _ rfl⟩, ?_⟩
  refine List.forall_mem_cons.mpr ⟨⟨⟨_, rfl⟩, hP 98 _ rfl⟩, ?_⟩
  refine List.forall_mem_cons.mpr ⟨⟨⟨_, rfl⟩, hP 99 _ rfl⟩, ?_⟩
  refine List.forall_mem_cons.mpr ⟨⟨⟨_, rfl⟩, hP 100 _ rfl⟩, ?_⟩
  refine List.forall_mem_cons.mpr ⟨⟨⟨_, rfl⟩, hP 101 _ rfl⟩, ?_⟩
  refine List.forall_mem_cons.mpr ⟨⟨⟨_, rfl⟩, hP 102 _ rfl⟩, ?_⟩
  refine List.forall_mem_cons.mpr ⟨⟨⟨_, rfl⟩, hP 103 _ rfl⟩, ?_⟩
  refine List.forall_mem_cons.mpr ⟨⟨⟨_, rfl⟩, hP 104 _ rfl⟩, ?_⟩
  refine List.forall_mem_cons.mpr ⟨⟨⟨_, rfl⟩, hP 105 _ rfl⟩, ?_⟩
  refine List.forall_mem_cons.mpr ⟨⟨⟨_, rfl⟩, hP 106 _ rfl⟩, ?_⟩
  refine List.forall_mem_cons.mpr ⟨⟨⟨_, rfl⟩, hP 107 _ rfl⟩, ?_⟩
  exact fun _ h => absurd h List.not_mem_nil
