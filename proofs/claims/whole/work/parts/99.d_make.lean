/-! the law makes its objects -/
def tbL_start : List (Nat × Instr × Nat) := [(0, .new 8, 3), (3, .dup, 4), (4, .invokespecial 105, 7), (7, .astore_n 1, 8), (8, .new 106, 11), (11, .dup, 12), (12, .invokespecial 108, 15), (15, .astore_n 2, 16), (16, .iconst 1, 17), (17, .newarray .long, 19), (19, .astore_n 3, 20), (20, .iconst 1, 21), (21, .newarray .double, 23), (23, .astore 4, 25), (25, .iconst 0, 26), (26, .istore 5, 28)]
theorem okL_start : zkOk (iLaw tbL_start) := by unfold zkOk; decide +kernel
theorem decS {pc nx n : Nat} {ins : Instr} (h : tbL_start.lookup pc = some (ins, nx)) (hn : nx = pc + n) : decode code pc = .ok (ins, n) := zk_dec (i := iLaw tbL_start) okL_start h hn
section LMAKE
variable {p : Program} {l : Launch} {e : Env} {s : State} {m : MethodId} {args : Array Value} {below : List Frame} {meth : Method} {c : Code} {Q : State → Prop} {Bn : nB} {A : Nat → Prop} {H : Heap} {locs : List Loc} {a : Array Slot} {lv : List (Nat × Value)} {ws : va_W} {cu su pc : Nat}
/-- new, dup, the constructor, astore -/
theorem lw_mk {in1 in2 t d mc ms : Nat} {k : Fin 4} {ci : zkI} {fs : List Value} {post : Nat → va_W → Prop} (isR : List Nat) (hx : p.tables.exec = Jvm.exec) (hb : c.code = code) (hml : c.maxLocals = 10) (hown : s.vm.findClass RL = some m.cls) (hts : ∀ w ∈ zkGw, w.before args s = true) (hF : nF Bn s) (hA : ∀ q : Nat, s.heap.size ≤ q → A q) (hP : va_P Bn.1 zkCl ws H) (hD : va_D A ws) (hS : va_S A s.heap H locs) (hl : lv_has a 10 lv)
    (d1 : decode code pc = .ok (.new in1, 3)) (d2 : decode code (pc + 3) = .ok (.dup, 1)) (d3 : decode code (pc + 4) = .ok (.invokespecial in2, 3)) (d4 : decode code (pc + 7) = .ok (.astore_n k, 1))
    (ht : t < 8) (h1 : Cond.classLink RL in1 (zkR t) ∈ zkGw) (h3 : Cond.initialized (zkR t) ∈ zkGw) (hfs : ∀ j, j < nfl t → defaultValue (zkty t j) = vp_V fs j)
    (hc : ∀ h : Nat, nCt l Bn ci d mc ms h t fs (post h)) (g1 : Cond.methodLink RL in2 (iY ci) ∈ zkGw) (g2 : Cond.code (iY ci) (iC ci) (iL ci) (iR ci) ∈ zkGw) (g3 : Cond.initialized (iY ci).cls ∈ zkGw) (g4 : Cond.instanceMethod (iY ci) ∈ zkGw) (hnm : (iY ci).name = "<init>") (hr : iR ci = none) (hds : (iY ci).cls ≠ "java/lang/invoke/MethodHandle" ∧ (iY ci).cls ≠ "java/lang/invoke/VarHandle" ∧ (parseMethodDescriptor (iY ci).desc).map (fun d => d.parameters.length) = some 0)
    (hR : ∀ q : Nat, isR.map (fun i => (ws ++ [((q, .inr (t, fs)) : Nat × va_E)])[i]?) = ws.map some) (hC : ∀ q : Nat, [ws.length].map (fun i => (ws ++ [((q, .inr (t, fs)) : Nat × va_E)])[i]?) = [((q, .inr (t, fs)) : Nat × va_E)].map some) (hC2 : ∀ q : Nat, [ws.length].filterMap (fun i => (ws ++ [((q, .inr (t, fs)) : Nat × va_E)])[i]?) = [((q, .inr (t, fs)) : Nat × va_E)]) (hRn : va_nd isR = true) (hdis : ∀ i ∈ isR, i ∉ [ws.length]) (hf : d + 1 ≤ 20) (hlo : 8 + (iL ci + 11) + (40 * d + 100) ≤ 10824) (hcl : cu + 1 + mc ≤ 603072) (hsl : su + nfl t + ms ≤ 7186538)
    (kk : ∀ (q : Nat) (w1 : va_W) (H1 : Heap) (locs1 : List Loc) (a1 : Array Slot), post q w1 → va_P Bn.1 zkCl (ws ++ w1) H1 → va_D A (ws ++ w1) → va_S A s.heap H1 locs1 → lv_has a1 10 (((k : Nat), Value.ref q) :: lv.filter (fun z => !(z.1 == (k : Nat)) && !(z.1 + 1 == (k : Nat) && z.2.category == 2))) → W p l e room_1 s m args below meth c H1 locs1 (cu + 1 + mc) (su + nfl t + ms) Q (F0 m (pc + 8) a1 [])) : W p l e room_1 s m args below meth c H locs cu su Q (F0 m pc a []) := by
  refine va_new (ci := t) (fs := fs) (C := zkR t) (T := zkT t) (N := nfl t) hx hb hts (zkLays ht) (zkty t) (zkTy_ok ht) hown (hts _ h1) (hts _ (instT ht)) (hts _ h3) hF.1 hP hD hS hA (zkCl_at ht) hfs (show cu + 1 ≤ 603072 by omega) (show su + nfl t ≤ 7186538 by omega) d1 (fun q H1 hP1 hD1 hS1 => ?_)
  refine lv_dup hx hb d2 rfl ?_
  have hG : GoodIn zkGw (.code (iY ci) (iC ci) (iL ci) (iR ci) :: zkGw) := by
    intro w hw
    rcases List.mem_cons.mp hw with rfl | hw
    · exact zkGw_good _ g2
    · exact zkGw_good w hw
  have hPc := hP1.sub [ws.length] (hC2 q)
  have hDc := hD1.sub [ws.length] rfl (hC q)
  have hFc := va_free hD1 hS1 hA [ws.length] (hC q)
  refine va_callv (va_runI (As := []) (rest := [.ref q]) ⟨hx, hb, hml, hown, hts⟩ (hc q H1.size) (by rw [hr] at *; exact cwI 0 hts hG rfl rfl rfl (hts _ g3) (hts _ g1) (hts _ g4) hnm hds ⟨hf, hlo⟩) ⟨fun a U g mk q => by obtain ⟨q0, q1, qP, qF, qD⟩ := q; exact ⟨q0, q1, qP, nF_go (s := U) (U := U.calling g mk a) (State.WarmedH.refl U) qF, qD⟩, fun U hU hW => ⟨rfl, by rw [hU], by rw [hU]; exact hPc, nF_go hW hF, hDc.weaken (fun _ _ _ _ => trivial)⟩⟩ rfl rfl hl.1 rfl (lv_room (Nat.le_of_ble_eq_true rfl)) d3 ⟨hcl, hsl⟩) hS1 (fun q _ h => hFc q h) hFc (fun u t H2 locs2 ht hvm hw hB hz1 hk1 hS2 => ?_)
  obtain ⟨hP2, hD2⟩ := hB
  rw [ht] at hP2
  obtain ⟨hP3, hD3⟩ := va_join hP1 hD1 [ws.length] isR (hC q) (hR q) hRn hdis hk1 hFc hP2 hD2
  exact lv_astore_n hx hb d4 rfl hl (by have := k.isLt; omega) rfl (fun a1 h1 => kk q u H2 locs2 a1 hw hP3 hD3 hS2 h1)
end LMAKE
theorem rng_map {α : Type} (ws : List α) (x : α) : (List.range ws.length).map (fun i => (ws ++ [x])[i]?) = ws.map some := by
  apply List.ext_getElem?
  intro i
  rw [List.getElem?_map, List.getElem?_map]
  by_cases h : i < ws.length
  · rw [List.getElem?_range h, Option.map_some, List.getElem?_append_left h, List.getElem?_eq_getElem h]
    rfl
  · rw [List.getElem?_eq_none (by rw [List.length_range]; omega), List.getElem?_eq_none (by omega)]
    rfl
theorem one_map {α : Type} (ws : List α) (x : α) : [ws.length].map (fun i => (ws ++ [x])[i]?) = [x].map some := by
  simp
theorem one_fil {α : Type} (ws : List α) (x : α) : [ws.length].filterMap (fun i => (ws ++ [x])[i]?) = [x] := by
  simp
theorem p_Cw_len {B : nB} {h : Nat} {w : va_W} (hw : p_Cw B h w) : w.length = 88 := by
  obtain ⟨_, _, _, _, _, _, _, _, _, _, _, _, _, _, _, _, _, _, _, _, _, _, _, _, _, _, _, _, _, _, _, _, _, _, _, _, _, _, _, _, _, _, _, _, _, _, _, _, _, _, _, _, _, _, _, _, _, _, _, _, _, _, _, _, _, _, _, _, _, _, _, _, _, _, _, _, _, _, _, _, _, _, _, _, _, _, _, rfl⟩ := hw
  rfl
section LMAKE2
variable {p : Program} {l : Launch} {e : Env} {s : State} {m : MethodId} {below : List Frame} {meth : Method} {c : Code} {Q : State → Prop} {Bn : nB} {b : Nat}
abbrev w5E (Bn : nB) : va_E := .inl (Bn.2 3, (1, Sum.inr (Sum.inl (fun _ => 0))))
abbrev w6E (Bn : nB) : va_E := .inl (Bn.2 4, (1, Sum.inr (Sum.inr (Sum.inr (Sum.inl (fun _ => 0))))))
/-- from the entry to the loop's head -/
theorem lw_make (hl : l.stackTraces = false) (hx : p.tables.exec = Jvm.exec) (hb : c.code = code) (hml : c.maxLocals = 10) (hown : s.vm.findClass RL = some m.cls) (hts : ∀ w ∈ zkGw, w.before #[Value.ref b] s = true) (hF : nF Bn s)
    (kk : ∀ (hC hM o5 o6 : Nat) (w1 w2 : va_W) (H1 : Heap) (locs1 : List Loc) (a1 : Array Slot), p_Cw Bn hC w1 → p_Mo Bn hM w2 → va_P Bn.1 zkCl (((w1 ++ w2) ++ [(o5, w5E Bn)]) ++ [(o6, w6E Bn)]) H1 → va_D (fun q => s.heap.size ≤ q) (((w1 ++ w2) ++ [(o5, w5E Bn)]) ++ [(o6, w6E Bn)]) → va_S (fun q => s.heap.size ≤ q) s.heap H1 locs1 → lv_has a1 10 [(5, .int 0), (4, .ref o6), (3, .ref o5), (2, .ref hM), (1, .ref hC), (0, .ref b)] → W p l e room_1 s m #[Value.ref b] below meth c H1 locs1 108 12524 Q (F0 m 28 a1 [])) : W p l e room_1 s m #[Value.ref b] below meth c s.heap [] 0 0 Q (entryFrame m ([Value.ref b] : List Value).toArray 10) := by
  have hA : ∀ q : Nat, s.heap.size ≤ q → s.heap.size ≤ q := fun q h => h
  have hlv := lv_entry ([Value.ref b]) (n := 10) (Nat.le_of_ble_eq_true rfl)
  rw [lg_entry_eq]
  generalize (lg_sl ([Value.ref b]) ++ List.replicate (10 - (lg_sl ([Value.ref b])).length) Slot.unset).toArray = a0 at hlv ⊢
  refine lw_mk (A := fun q => s.heap.size ≤ q) (ws := []) (t := 6) (ci := i_Cw_init) (d := 4) (mc := 87) (ms := 5427) (fs := [.null, .null, .null, .int 0, .int 0]) (post := fun h => p_Cw Bn h) (lv := [(0, .ref b)]) [] hx hb hml hown hts hF hA (fun k q h => (by cases h)) ⟨fun i j p q h => (by cases h), fun k q h => (by cases h)⟩ va_S.rf hlv (decS rfl rfl) (decS rfl rfl) (decS rfl rfl) (decS rfl rfl) (by decide) (zkIn_use (by decide +kernel)) (zkIn_use (by decide +kernel)) nd6 (fun h => c_Cw_init hl h) (zkIn_use (by decide +kernel)) (zkIn_use (by decide +kernel)) (zkIn_use (by decide +kernel)) (zkIn_use (by decide +kernel)) rfl rfl (by decide +kernel) (fun q => rfl) (fun q => rfl) (fun q => rfl) rfl (fun i h => by cases h) (by decide) (by decide) (by decide) (by decide) (fun hC w1 H1 locs1 a1 hp1 hP1 hD1 hS1 hl1 => ?_)
  have hlen := p_Cw_len hp1
  have hP1 : va_P Bn.1 zkCl w1 H1 := hP1
  have hD1 : va_D (fun q => s.heap.size ≤ q) w1 := hD1
  refine lw_mk (A := fun q => s.heap.size ≤ q) (ws := w1) (t := 7) (ci := i_Mo_init) (d := 1) (mc := 17) (ms := 7052) (fs := [.int 0, .int 0, .int 0, .null, .null, .null, .int 0, .int 0, .int 0, .int 0, .null, .int 0, .null, .null, .null, .null, .null, .null, .null, .int 0, .int 0, .int 0, .int 0, .null, .null, .null, .int 0, .null, .int 0, .int 0, .int 0, .int 0, .int 0, .null, .int 0, .null, .int 0, .int 0]) (post := fun h => p_Mo Bn h) (lv := [(1, .ref hC), (0, .ref b)]) (List.range 88) hx hb hml hown hts hF hA hP1 hD1 hS1 hl1 (decS rfl rfl) (decS rfl rfl) (decS rfl rfl) (decS rfl rfl) (by decide) (zkIn_use (by decide +kernel)) (zkIn_use (by decide +kernel)) nd7 (fun h => c_Mo_init hl h) (zkIn_use (by decide +kernel)) (zkIn_use (by decide +kernel)) (zkIn_use (by decide +kernel)) (zkIn_use (by decide +kernel)) rfl rfl (by decide +kernel) (fun q => by rw [← hlen]; exact rng_map _ _) (fun q => one_map _ _) (fun q => one_fil _ _) (by decide +kernel) (fun i h => by rw [hlen]; have := List.mem_range.mp h; intro q; cases List.mem_singleton.mp q; omega) (by decide) (by decide) (by decide) (by decide) (fun hM w2 H2 locs2 a2 hp2 hP2 hD2 hS2 hl2 => ?_)
  refine lv_iconst hx hb (decS (pc := 16) rfl rfl) rfl ?_
  refine va_newa (a0 := (1, Sum.inr (Sum.inl (fun _ => 0)))) (N' := 1) hx hb (hts _ (zkIn_use (by decide +kernel))) (ty := .long) rfl hF.1 hP2 hD2 hS2 hA (fun _ => rfl) (by decide) (by decide) (by decide) (Nat.le_of_ble_eq_true rfl) (Nat.le_of_ble_eq_true rfl) (decS (pc := 17) rfl rfl) (fun o5 cA5 H3 hK5 hP3 hD3 hS3 => ?_)
  have e5 : cA5 = Bn.2 3 := by
    have e1 := (hK5.2 (nTy Bn).length (cA5, .long) (by rw [List.getElem?_append_right (Nat.le_refl _), Nat.sub_self]; rfl)).2
    have e2 := (hF.1.2 3 (Bn.2 3, .long) rfl).2
    exact Option.some.inj (e1.symm.trans e2)
  subst e5
  refine lv_astore_n (x := o5) (lv' := [(3, .ref o5), (2, .ref hM), (1, .ref hC), (0, .ref b)]) hx hb (decS (pc := 19) rfl rfl) rfl hl2 (by decide) rfl (fun a3 hl3 => ?_)
  refine lv_iconst hx hb (decS (pc := 20) rfl rfl) rfl ?_
  refine va_newa (a0 := (1, Sum.inr (Sum.inr (Sum.inr (Sum.inl (fun _ => 0)))))) (N' := 1) hx hb (hts _ (zkIn_use (by decide +kernel))) (ty := .double) rfl hF.1 hP3 hD3 hS3 hA (fun _ => rfl) (by decide) (by decide) (by decide) (Nat.le_of_ble_eq_true rfl) (Nat.le_of_ble_eq_true rfl) (decS (pc := 21) rfl rfl) (fun o6 cA6 H4 hK6 hP4 hD4 hS4 => ?_)
  have e6 : cA6 = Bn.2 4 := by
    have e1 := (hK6.2 (nTy Bn).length (cA6, .double) (by rw [List.getElem?_append_right (Nat.le_refl _), Nat.sub_self]; rfl)).2
    have e2 := (hF.1.2 4 (Bn.2 4, .double) rfl).2
    exact Option.some.inj (e1.symm.trans e2)
  subst e6
  refine lv_astore (x := o6) (lv' := [(4, .ref o6), (3, .ref o5), (2, .ref hM), (1, .ref hC), (0, .ref b)]) hx hb (decS (pc := 23) rfl rfl) hl3 (by decide) rfl (fun a4 hl4 => ?_)
  refine lv_iconst hx hb (decS (pc := 25) rfl rfl) rfl ?_
  refine lv_istore (x := 0) (lv' := [(5, .int 0), (4, .ref o6), (3, .ref o5), (2, .ref hM), (1, .ref hC), (0, .ref b)]) hx hb (decS (pc := 26) rfl rfl) hl4 (by decide) rfl (fun a5 hl5 => ?_)
  exact kk hC hM o5 o6 w1 w2 H4 _ a5 hp1 hp2 hP4 hD4 hS4 hl5
end LMAKE2
