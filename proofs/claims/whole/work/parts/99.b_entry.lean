/-! what is known at the law's entry -/
theorem lw_tr {l : Launch} (hf : l.flags = flags0) : l.stackTraces = false := by
  unfold Launch.stackTraces
  rw [hf]
  decide +kernel
def tmS (i : Nat) : Term := Term.string RX3 ([45, 47, 49, 51, 53, 55, 57, 59, 61].getD i 0)
def tmV (i : Nat) : Term := Term.field (tmS i) "java/lang/String" "value" "[B"
def fwS : List Cond := flatC (Jvm.Cond.and given_1 narrow_1)
def swS (i : Nat) : List Cond := [Cond.exactly (tmS i) "java/lang/String", Cond.eq (.field (tmS i) "java/lang/String" "coder" "B") (.int 0), Cond.arrayOf (tmV i) .byte, Cond.eq (.length (tmV i)) (.int (Int32.ofNat (zkLn.getD i 0)))] ++ (List.range (zkLn.getD i 0)).map (fun j => Cond.eq (.elem (tmV i) (.int (Int32.ofNat j))) (.int ((zkBy.getD i []).getD j 0)))
theorem fw_s : (fwS.drop 256).take 138 = (List.range 9).flatMap swS := by decide +kernel
theorem fw_in {w : Cond} {i : Nat} (hi : i < 9) (h : w ∈ swS i) : w ∈ fwS := by
  have h1 : w ∈ (List.range 9).flatMap swS := List.mem_flatMap.mpr ⟨i, List.mem_range.mpr hi, h⟩
  rw [← fw_s] at h1
  exact List.mem_of_mem_drop (List.mem_of_mem_take h1)
theorem fw_0 {i : Nat} (hi : i < 9) : Cond.exactly (tmS i) "java/lang/String" ∈ fwS := fw_in hi (List.mem_append_left _ List.mem_cons_self)
theorem fw_1 {i : Nat} (hi : i < 9) : Cond.eq (.field (tmS i) "java/lang/String" "coder" "B") (.int 0) ∈ fwS := fw_in hi (List.mem_append_left _ (List.mem_cons_of_mem _ List.mem_cons_self))
theorem fw_2 {i : Nat} (hi : i < 9) : Cond.arrayOf (tmV i) .byte ∈ fwS := fw_in hi (List.mem_append_left _ (List.mem_cons_of_mem _ (List.mem_cons_of_mem _ List.mem_cons_self)))
theorem fw_3 {i : Nat} (hi : i < 9) : Cond.eq (.length (tmV i)) (.int (Int32.ofNat (zkLn.getD i 0))) ∈ fwS := fw_in hi (List.mem_append_left _ (List.mem_cons_of_mem _ (List.mem_cons_of_mem _ (List.mem_cons_of_mem _ List.mem_cons_self))))
theorem fw_4 {i j : Nat} (hi : i < 9) (hj : j < zkLn.getD i 0) : Cond.eq (.elem (tmV i) (.int (Int32.ofNat j))) (.int ((zkBy.getD i []).getD j 0)) ∈ fwS := fw_in hi (List.mem_append_right _ (List.mem_map.mpr ⟨j, List.mem_range.mpr hj, rfl⟩))
theorem fw_c : (zkEx.all fun a => zkEx.all fun b => decide (a = b) || decide (Cond.not (.castable a b) ∈ fwS)) = true := by decide +kernel
theorem fw_d : (zkSc.all fun q => decide (Cond.stringRef q.1 q.2.1 q.2.2 ∈ lw_tbl) && decide (Cond.exactly (Term.string q.1 q.2.1) "java/lang/String" ∈ fwS)) = true := by decide +kernel
theorem fw_e : (zkPt.all fun q => decide (Cond.stringRef q.1 q.2.1 q.2.2.1 ∈ lw_tbl) && decide (Term.string q.1 q.2.1 = tmS q.2.2.2) && decide (q.2.2.2 < 9)) = true := by decide +kernel
theorem all_rng {n : Nat} {f : Nat → Bool} (h : (List.range n).all f = true) : ∀ i, i < n → f i = true := fun i hi => List.all_eq_true.mp h i (List.mem_range.mpr hi)
/-- the patterns, with their signs: no two are one String, for their signs differ -/
theorem str_ne {s : State} {A : Nat → Prop} {adK adV : Nat → Nat} (h : ∀ i : Nat, i < 9 → va_O "java/lang/String" (adK i) A s s.heap ∧ va_OF "java/lang/String" "coder" "B" (.int 0) (adK i) A s s.heap ∧ va_OF "java/lang/String" "value" "[B" (.ref (adV i)) (adK i) A s s.heap ∧ va_T .byte (adV i) (zkLn.getD i 0) (fun j => .int ((zkBy.getD i []).getD j 0)) A s s.heap) : ∀ i j : Nat, i < 9 → j < 9 → adK i = adK j → i = j := by
  have key : ∀ i j : Nat, i < 9 → j < 9 → adK i = adK j → Int32.ofNat (zkLn.getD i 0) = Int32.ofNat (zkLn.getD j 0) ∧ (0 < zkLn.getD i 0 → 0 < zkLn.getD j 0 → (zkBy.getD i []).getD 0 0 = (zkBy.getD j []).getD 0 0) := by
    intro i j hi hj e
    obtain ⟨-, -, ⟨c1, k1, i1, f1, cell1, a1, -, a3, -, a5, -⟩, ⟨cl1, b1, -, -, -, b5, b6, -⟩⟩ := h i hi
    obtain ⟨-, -, ⟨c2, k2, i2, f2, cell2, d1, -, d3, -, d5, -⟩, ⟨cl2, g1, -, -, -, g5, g6, -⟩⟩ := h j hj
    cases a1.symm.trans d1
    rw [e] at a3
    cases a3.symm.trans d3
    have ev : adV i = adV j := by
      exact Value.ref.inj (Option.some.inj (a5.symm.trans d5))
    rw [ev] at b1
    cases b1.symm.trans g1
    refine ⟨b5.symm.trans g5, fun p1 p2 => ?_⟩
    exact Value.int.inj (Option.some.inj ((b6 0 p1).symm.trans (g6 0 p2)))
  intro i j hi hj e
  obtain ⟨k1, k2⟩ := key i j hi hj e
  have hd : ∀ i, i < 9 → ∀ j, j < 9 → Int32.ofNat (zkLn.getD i 0) = Int32.ofNat (zkLn.getD j 0) → (0 < zkLn.getD i 0 → 0 < zkLn.getD j 0 → (zkBy.getD i []).getD 0 0 = (zkBy.getD j []).getD 0 0) → i = j := by decide +kernel
  exact hd i hi j hj k1 k2
/-- what stands at the entry, over cells that are older than the law's own -/
def lwIn (Bn : nB) (ks vs : Nat → Nat) (s : State) : Prop := nF Bn s ∧ (vx_Zq Bundle.tN "UNASSIGNED_STACK" Bundle.steD (fun q => s.heap.size ≤ q) s s.heap ∧ vx_Zq Bundle.tN "SUPPRESSED_SENTINEL" Bundle.listD (fun q => s.heap.size ≤ q) s s.heap) ∧ (∀ q ∈ zkSc, ∃ sa : Nat, vk_R q.1 q.2.1 q.2.2 sa s) ∧ (∀ q ∈ zkPt, vk_R q.1 q.2.1 q.2.2.1 (ks q.2.2.2) s) ∧ vk_S 9 zkLn zkBy ks vs (fun q => s.heap.size ≤ q) s s.heap ∧ (va_Z "java/lang/String" "COMPACT_STRINGS" "Z" (.int 1) (fun q => s.heap.size ≤ q) s s.heap ∧ va_Zq "jdk/internal/util/Preconditions" "SIOOBE_FORMATTER" "Ljava/util/function/BiFunction;" (fun q => s.heap.size ≤ q) s s.heap) ∧ zkNc s ∧ zkCs s
theorem arr_cls {s : State} {args : Array Value} {ty : FieldType} (h : (Cond.arrayClass ty).before args s = true) : ∃ c : ClassId, s.vm.findClass ("[" ++ ty.toString) = some c ∧ ArrOfT s c ty := by
  obtain ⟨c, k, comp, h1, h2, h3⟩ := Cond.arrayClass_spec h
  exact ⟨c, h1, fun n z => ⟨fun k h => (by cases h), k, h2, comp, h3⟩⟩
theorem instT {t : Nat} (h : t < 8) : Cond.instantiable (zkR t) (nfl t) ∈ zkGw := by
  rcases (show t = 0 ∨ t = 1 ∨ t = 2 ∨ t = 3 ∨ t = 4 ∨ t = 5 ∨ t = 6 ∨ t = 7 by omega) with rfl | rfl | rfl | rfl | rfl | rfl | rfl | rfl <;> exact zkIn_use (by decide +kernel)
theorem lw_in {s : State} {b : Nat} (hts : ∀ w ∈ lw_tbl, w.before #[Value.ref b] s = true) (hgv : (Jvm.Cond.and given_1 narrow_1).before #[Value.ref b] s = true) : ∃ (Bn : nB) (ks vs : Nat → Nat), lwIn Bn ks vs s := by
  have hs : ∀ w ∈ fwS, w.before #[Value.ref b] s = true := flat_of_before _ hgv
  have hg : ∀ w ∈ zkGw, w.before #[Value.ref b] s = true := fun w hw => hts w (List.mem_filter.mp hw).1
  have hA : ∀ a : Nat, a < s.heap.size → ¬ s.heap.size ≤ a := fun a h => by omega
  -- classes
  have h0 : ∀ t : Nat, ∃ q : ClassId × (Nat → Nat), t < 8 → u_Kn s (zkR t) (zkT t) (nfl t) q.1 q.2 := by
    intro t
    by_cases h : t < 8
    · obtain ⟨cC, iS, hk⟩ := u_known (ws := zkGw) hg (zkLays h) (hg _ (instT h))
      exact ⟨(cC, iS), fun _ => hk⟩
    · exact ⟨(0, fun _ => 0), fun h2 => absurd h2 h⟩
  obtain ⟨f, hf⟩ := Classical.axiomOfChoice h0
  obtain ⟨c0, a0, b0⟩ := arr_cls (ty := .int) (hg (.arrayClass .int) (zkIn_use (by decide +kernel)))
  obtain ⟨c1, a1, b1⟩ := arr_cls (ty := .char) (hg (.arrayClass .char) (zkIn_use (by decide +kernel)))
  obtain ⟨c3, a3, b3⟩ := arr_cls (ty := .long) (hg (.arrayClass .long) (zkIn_use (by decide +kernel)))
  obtain ⟨c4, a4, b4⟩ := arr_cls (ty := .double) (hg (.arrayClass .double) (zkIn_use (by decide +kernel)))
  have hao : (Cond.arrayOver (.object "CeilingWorkbench$Task")).before #[Value.ref b] s = true := hts _ (by decide +kernel)
  obtain ⟨comp, c2, k2, p1, p2, p3, p4, p5⟩ := Cond.arrayOver_spec hao
  -- strings
  have h1 : ∀ i : Nat, ∃ q : Nat × Nat, i < 9 → (tmS i).eval #[Value.ref b] s none [] s = some (.ref q.1) ∧ va_O "java/lang/String" q.1 (fun q => s.heap.size ≤ q) s s.heap ∧ va_OF "java/lang/String" "coder" "B" (.int 0) q.1 (fun q => s.heap.size ≤ q) s s.heap ∧ va_OF "java/lang/String" "value" "[B" (.ref q.2) q.1 (fun q => s.heap.size ≤ q) s s.heap ∧ va_T .byte q.2 (zkLn.getD i 0) (fun j => .int ((zkBy.getD i []).getD j 0)) (fun q => s.heap.size ≤ q) s s.heap := by
    intro i
    by_cases hi : i < 9
    · have w1 := fw_0 hi
      have w2 := fw_1 hi
      have w3 := fw_2 hi
      have w4 := fw_3 hi
      obtain ⟨a, c, cA, kA, q1, q2, q3, q4, q5, q6, -⟩ := Cond.exactly_spec (args := #[Value.ref b]) (first := s) (o := none) (s := s) (idx := []) (t := tmS i) (cls := "java/lang/String") (hs _ w1)
      have hlt : zkLn.getD i 0 < 2 ^ 31 := (show ∀ i, i < 9 → zkLn.getD i 0 < 2 ^ 31 by decide +kernel) i hi
      obtain ⟨t, ht, hT⟩ := va_Tof (tm := tmV i) (ty := .byte) (N := zkLn.getD i 0) (f := fun j => .int ((zkBy.getD i []).getD j 0)) (A := fun q => s.heap.size ≤ q) hlt (hs _ w3) (va_eqt (hs _ w4)) (fun j hj => va_eqt (hs _ (fw_4 hi hj))) hA
      exact ⟨(a, t), fun _ => ⟨q1, ⟨cA, q3, q5, by rw [q6]; exact q2, hA a (Array.getElem?_eq_some_iff.mp q3).1⟩, vk_OFof q1 (va_eqt (hs _ w2)) hA, vk_OFof q1 ht hA, hT⟩⟩
    · exact ⟨(0, 0), fun h => absurd h hi⟩
  obtain ⟨ad, had⟩ := Classical.axiomOfChoice h1
  refine ⟨((fun t => (f t).1, fun t => (f t).2), fun k => match k with | 0 => c0 | 1 => c1 | 2 => c2 | 3 => c3 | _ => c4), fun i => (ad i).1, fun i => (ad i).2, ⟨⟨fun c q hq => ?_, fun k q hk => ?_⟩, fun w hw => ?_, va_AO.of hao⟩, ⟨?_, ?_⟩, fun q hq => ?_, fun q hq => ?_, ⟨fun i hi => (had i hi).2, str_ne fun i hi => (had i hi).2⟩, ⟨?_, ?_⟩, fun a ha b' hb hab => ?_, fun a ha => ?_⟩
  · have hc : c < 8 := (List.getElem?_eq_some_iff.mp hq).1
    rw [zkCl_at hc] at hq
    cases hq
    exact hf c hc
  · have hk5 : k < 5 := (List.getElem?_eq_some_iff.mp hk).1
    rcases (show k = 0 ∨ k = 1 ∨ k = 2 ∨ k = 3 ∨ k = 4 by omega) with rfl | rfl | rfl | rfl | rfl
    · cases hk; exact ⟨b0, a0⟩
    · cases hk; exact ⟨b1, a1⟩
    · cases hk
      exact ⟨fun n z => ⟨fun k h => (by cases h), k2, p3, comp, p4⟩, k2, comp, p3, p4, p1, p5⟩
    · cases hk; exact ⟨b3, a3⟩
    · cases hk; exact ⟨b4, a4⟩
  · have hm := List.mem_filter.mp hw
    have hz := hts w hm.1
    have hn := hm.2
    cases w <;> first
      | exact va_Nw.of rfl hz
      | exact absurd hn (by simp [zkNest])
  · exact vx_Zqof (hts _ (by decide +kernel)) (hg _ (zkIn_use (by decide +kernel))) (hs _ (by decide +kernel)) hA
  · exact vx_Zqof (hts _ (by decide +kernel)) (hg _ (zkIn_use (by decide +kernel))) (hs _ (by decide +kernel)) hA
  · have hw := List.all_eq_true.mp fw_d q hq
    simp only [Bool.and_eq_true, decide_eq_true_eq] at hw
    obtain ⟨a, c, cA, kA, q1, -⟩ := Cond.exactly_spec (args := #[Value.ref b]) (first := s) (o := none) (s := s) (idx := []) (t := Term.string q.1 q.2.1) (cls := "java/lang/String") (hs _ hw.2)
    exact ⟨a, vk_R.of (hts _ hw.1) q1⟩
  · have hw := List.all_eq_true.mp fw_e q hq
    simp only [Bool.and_eq_true, decide_eq_true_eq] at hw
    have := (had _ hw.2).1
    rw [← hw.1.2] at this
    exact vk_R.of (hts _ hw.1.1) this
  · exact va_Zof (hts _ (by decide +kernel)) (hg _ (zkIn_use (by decide +kernel))) (va_eqt (hs _ (by decide +kernel))) hA
  · exact va_Zqof (hts _ (by decide +kernel)) (hg _ (zkIn_use (by decide +kernel))) (hs _ (by decide +kernel)) hA
  · have hw := List.all_eq_true.mp (List.all_eq_true.mp fw_c a ha) b' hb
    simp only [Bool.or_eq_true, decide_eq_true_eq] at hw
    rcases hw with hw | hw
    · exact absurd hw hab
    · exact va_Nc.of (hs _ hw)
  · obtain ⟨b', hb, hab⟩ : ∃ b' ∈ zkEx, a ≠ b' := by
      by_cases h : a = "java/lang/IndexOutOfBoundsException"
      · exact ⟨"java/lang/IllegalArgumentException", by decide, by rw [h]; decide⟩
      · exact ⟨"java/lang/IndexOutOfBoundsException", by decide, h⟩
    have hw := List.all_eq_true.mp (List.all_eq_true.mp fw_c a ha) b' hb
    simp only [Bool.or_eq_true, decide_eq_true_eq] at hw
    rcases hw with hw | hw
    · exact absurd hw hab
    · obtain ⟨c, t, g1, -, -⟩ := va_Nc.of (hs _ hw)
      exact ⟨c, c, g1, g1, va_asg _ _⟩
