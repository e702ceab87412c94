/-! the JDK's String -/
def tb_J0_length : List (Nat × Instr × Nat) := [(0, .aload_n 0, 1), (1, .getfield 9, 4), (4, .arraylength, 5), (5, .aload_n 0, 6), (6, .invokevirtual 335, 9), (9, .ishr, 10), (10, .ireturn, 11)]
def i_J0_length : zkI := (⟨"java/lang/String", "length", "()I"⟩, prog_22_method_54_code, 1, (some .int), 10, tb_J0_length, [])
theorem ok_J0_length : zkOk i_J0_length := by unfold zkOk; decide +kernel
def tb_J0_coder : List (Nat × Instr × Nat) := [(0, .getstatic 38, 3), (3, .ifCond .eq 10, 6), (6, .aload_n 0, 7), (7, .getfield 15, 10), (10, .goto 4, 13), (13, .iconst 1, 14), (14, .ireturn, 15)]
def i_J0_coder : zkI := (⟨"java/lang/String", "coder", "()B"⟩, prog_22_method_152_code, 1, (some .byte), 10, tb_J0_coder, [])
theorem ok_J0_coder : zkOk i_J0_coder := by unfold zkOk; decide +kernel
def tb_J0_isLatin1 : List (Nat × Instr × Nat) := [(0, .getstatic 38, 3), (3, .ifCond .eq 14, 6), (6, .aload_n 0, 7), (7, .getfield 15, 10), (10, .ifCond .ne 7, 13), (13, .iconst 1, 14), (14, .goto 4, 17), (17, .iconst 0, 18), (18, .ireturn, 19)]
def i_J0_isLatin1 : zkI := (⟨"java/lang/String", "isLatin1", "()Z"⟩, prog_22_method_154_code, 1, (some .boolean), 10, tb_J0_isLatin1, [])
theorem ok_J0_isLatin1 : zkOk i_J0_isLatin1 := by unfold zkOk; decide +kernel
def tb_J0_checkIndex : List (Nat × Instr × Nat) := [(0, .iload_n 0, 1), (1, .iload_n 1, 2), (2, .getstatic 1053, 5), (5, .invokestatic 1059, 8), (8, .pop, 9), (9, .return_, 10)]
def i_J0_checkIndex : zkI := (⟨"java/lang/String", "checkIndex", "(II)V"⟩, prog_22_method_155_code, 2, none, 10, tb_J0_checkIndex, [])
theorem ok_J0_checkIndex : zkOk i_J0_checkIndex := by unfold zkOk; decide +kernel
def tb_J0_charAt : List (Nat × Instr × Nat) := [(0, .aload_n 0, 1), (1, .invokevirtual 492, 4), (4, .ifCond .eq 12, 7), (7, .aload_n 0, 8), (8, .getfield 9, 11), (11, .iload_n 1, 12), (12, .invokestatic 495, 15), (15, .ireturn, 16), (16, .aload_n 0, 17), (17, .getfield 9, 20), (20, .iload_n 1, 21), (21, .invokestatic 498, 24), (24, .ireturn, 25)]
def i_J0_charAt : zkI := (⟨"java/lang/String", "charAt", "(I)C"⟩, prog_22_method_56_code, 2, (some .char), 10, tb_J0_charAt, [])
theorem ok_J0_charAt : zkOk i_J0_charAt := by unfold zkOk; decide +kernel
def tb_J1_charAt : List (Nat × Instr × Nat) := [(0, .iload_n 1, 1), (1, .aload_n 0, 2), (2, .arraylength, 3), (3, .invokestatic 9, 6), (6, .aload_n 0, 7), (7, .iload_n 1, 8), (8, .baload, 9), (9, .sipush 255, 12), (12, .iand, 13), (13, .i2c, 14), (14, .ireturn, 15)]
def i_J1_charAt : zkI := (⟨"java/lang/StringLatin1", "charAt", "([BI)C"⟩, prog_23_method_2_code, 2, (some .char), 11, tb_J1_charAt, [])
theorem ok_J1_charAt : zkOk i_J1_charAt := by unfold zkOk; decide +kernel
def tb_J3_checkIndex : List (Nat × Instr × Nat) := [(0, .iload_n 0, 1), (1, .ifCond .lt 8, 4), (4, .iload_n 0, 5), (5, .iload_n 1, 6), (6, .if_icmp .lt 10, 9), (9, .aload_n 2, 10), (10, .iload_n 0, 11), (11, .iload_n 1, 12), (12, .invokestatic 95, 15), (15, .athrow, 16), (16, .iload_n 0, 17), (17, .ireturn, 18)]
def i_J3_checkIndex : zkI := (⟨"jdk/internal/util/Preconditions", "checkIndex", "(IILjava/util/function/BiFunction;)I"⟩, prog_31_method_11_code, 3, (some .int), 12, tb_J3_checkIndex, [])
theorem ok_J3_checkIndex : zkOk i_J3_checkIndex := by unfold zkOk; decide +kernel
theorem lk_10_335 : zkLk 10 335 i_J0_coder false false 0 := zkLk_of 794 797 125 795 796 (by decide +kernel)
theorem lk_10_492 : zkLk 10 492 i_J0_isLatin1 false false 0 := zkLk_of 804 807 125 805 806 (by decide +kernel)
theorem lk_10_495 : zkLk 10 495 i_J1_charAt true false 2 := zkLk_of 808 810 127 809 0 (by decide +kernel)
theorem lk_11_9 : zkLk 11 9 i_J0_checkIndex true false 2 := zkLk_of 811 813 125 812 0 (by decide +kernel)
theorem lk_10_1059 : zkLk 10 1059 i_J3_checkIndex true false 3 := zkLk_of 816 818 128 817 0 (by decide +kernel)
theorem lk_2_63 : zkLk 2 63 i_J0_length false false 0 := zkLk_of 790 793 125 791 792 (by decide +kernel)
theorem lk_2_68 : zkLk 2 68 i_J0_charAt false false 1 := zkLk_of 800 803 125 801 802 (by decide +kernel)
def zkCh (k n : Nat) : Int := ((zkBy.getD k []).getD n 0).toInt
theorem ch_tab : ∀ k, k < 9 → (Int32.ofNat (zkLn.getD k 0) = Int32.ofInt (zkLn.getD k 0 : Nat)) ∧ (Int32.ofInt (zkLn.getD k 0 : Nat) >>> (Int32.ofInt 0 &&& 31) = Int32.ofInt (zkLn.getD k 0 : Nat)) ∧ zkLn.getD k 0 ≤ 16 := by decide +kernel
theorem ch_tab2 : ∀ k, k < 9 → ∀ n, n < zkLn.getD k 0 → ¬ (Int32.ofInt (n : Nat) < 0 ∨ zkLn.getD k 0 ≤ (Int32.ofInt (n : Nat)).toNatClampNeg) ∧ (Int32.ofInt (n : Nat)).toNatClampNeg = n ∧ (zkBy.getD k []).getD n 0 = Int32.ofInt (zkCh k n) ∧ (Int32.ofInt (zkCh k n) &&& Int32.ofInt 255) = Int32.ofInt (zkCh k n) ∧ ((Int32.ofInt (zkCh k n)).toUInt32 % 65536).toInt32 = Int32.ofInt (zkCh k n) ∧ (32 ≤ zkCh k n ∧ zkCh k n ≤ 126) := by decide +kernel
section ZSTR
variable {l : Launch} {G : zkG} {i ci : zkI} {K : zkK} {cu su pc nx : Nat} {ls : List (Option zkV)} {st : List zkV} {mem : zkM}
theorem m_callVs {idx d mc ms n j : Nat} {ne : Bool} {as stk : List zkV} {Q : zkO → zkM → Prop} (hd : (iT i).lookup pc = some (.invokevirtual idx, nx)) (hn : nx = pc + 3) (hk : zkLk (iO i) idx ci false ne n) (hc : zkCt l G ci d mc ms (vr 60 j :: as) mem Q) (hst : stk = as.reverse ++ vr 60 j :: st) (hj : j < 9) (ho : iO ci = 10) (ha : as.length = n) (hw : (st.map catV).sum ≤ 8) (hf : d + 1 ≤ K.1.frames) (hlo : 40 * d + 119 + iL ci ≤ K.1.locals) (h1 : cu + mc ≤ K.1.cells) (h2 : su + ms ≤ K.1.slots)
    (kr : ∀ (v : Option zkV) (m' : zkM), Q (Sum.inl v) m' → zkW l G i K (cu + mc) (su + ms) nx ls (v.toList ++ st) m') (kx : ∀ (E : String) (m' : zkM), Q (Sum.inr E) m' → zkX l G i K (cu + mc) (su + ms) pc ls E m') : zkW l G i K cu su pc ls stk mem := by
  intro p e s m args below meth c C H locs a hP hS hl T hT X
  subst hn
  have hst2 : stk = (vr 60 j :: as).reverse ++ st := by rw [hst, List.reverse_cons, List.append_assoc]; rfl
  clear hst
  subst hst2
  obtain ⟨k1, k2, k3, k4, k5, k6, k7⟩ := hk
  rw [if_neg (by decide)] at k4
  obtain ⟨hx, hb, hr0, hml, hown, hts, hF, -⟩ := id C
  obtain ⟨mk, methM, hnamed, hmethM, hsigM⟩ := zk_named (hts _ k2)
  obtain ⟨mk', methM', hnamed', hmethM', hstM, habM⟩ := Cond.instanceMethod_spec (hts _ k4.1)
  cases hnamed.symm.trans hnamed'
  cases hmethM.symm.trans hmethM'
  -- the receiver
  obtain ⟨cell, q1, q3, q2⟩ := vk_recv hF.2.2.2.2.2.2.2.1 hj hS
  have hclsB : s.vm.findClass (iY ci).cls = some cell.cls := by
    rw [k7, ho]
    exact q2
  obtain ⟨c2, r2, m2, p1, p2, p3, p4, kP, hkP, hkPi⟩ := Cond.selects_spec (hts _ k4.2)
  cases hclsB.symm.trans p1
  cases (State.methodFound?_of_named hnamed k5).symm.trans p2
  cases hnamed.symm.trans p3
  have hselP : selectMethod e.platform s.vm cell.cls mk = .method mk := by rw [Launch.admits_selectMethod X.admits]; exact p4
  have hlen : (as.map (tau G)).length = methM.sig.parameters.length := by
    rw [hsigM] at k6
    rw [List.length_map, ha]
    exact (Option.some.inj k6).symm
  have hdec : decode c.code pc = .ok (.invokevirtual idx, 3) := by rw [hb]; exact zkC_dec C hd rfl
  have hstk : ((vr 60 j :: as).reverse ++ st).map (tau G) = (as.map (tau G)).reverse ++ .ref (ga G (60, j)) :: st.map (tau G) := by
    rw [List.reverse_cons, List.append_assoc, zk_tau_rev]
    rfl
  have hobj : ∀ z, cell.vm ≠ .statics z := fun z h => by rw [h] at q3; cases q3
  have hstep : ∃ vm₁, Stand p l e K.1 s m args below meth c (T.setVm vm₁) locs cu su ∧ ∀ target, (∀ acts, Steps p.tables e below (doInvoke e ((T.setVm vm₁).setTop { (F0 m pc a (((vr 60 j :: as).reverse ++ st).map (tau G))) with stack := st.map (tau G) }) acts mk ((vr 60 j :: as).map (tau G)).toArray).1 target) → Steps p.tables e below (T.setTop (F0 m pc a (((vr 60 j :: as).reverse ++ st).map (tau G)))) target := by
    cases ne with
    | true => exact X.invokevirtualNest hx hown (va_Nw.use rfl (hF.2.1 _ k1)) hnamed hmethM hstM hkP hkPi k5 (a := ga G (60, j)) (cell := cell) (by rw [hT]; exact q1) hobj hselP hmethM habM hkP hkPi (g := F0 m pc a (((vr 60 j :: as).reverse ++ st).map (tau G))) rfl hlen hstk hdec
    | false => exact X.invokevirtual hx hown (hts _ k1) hnamed hmethM hstM hkP hkPi k5 (a := ga G (60, j)) (cell := cell) (by rw [hT]; exact q1) hobj hselP hmethM habM hkP hkPi (g := F0 m pc a (((vr 60 j :: as).reverse ++ st).map (tau G))) rfl hlen hstk hdec
  obtain ⟨vm₁, X₁, hstep₁⟩ := hstep
  have hK := zk_back (p := p) (e := e) (below := below) (hc H.size) hf hlo hts k2 k3
  have hwt : 2 * (F0 m pc a (st.map (tau G))).monitorRoom + ((st.map (tau G)).map fun v => v.category).sum ≤ 8 := lv_room (by rw [zk_wsum]; exact hw)
  have hB := hK m meth c ⟨T.setVm vm₁, locs, cu, su⟩ (F0 m pc a (st.map (tau G))) (.invokevirtual idx) mk ((vr 60 j :: as).map (tau G)).toArray X₁ rfl (hl.1.trans hml.symm) hdec hwt (X₁.named hnamed) ⟨h1, h2, zk_pre hF hP hS hT X₁.warmed⟩
  refine zk_behind C hS hl hT rfl kr kx (vm₁ := vm₁) (vs := ((vr 60 j :: as).map (tau G)).toArray) ?_
  rcases hB with ⟨v, B, X', hpost, hsteps⟩ | ⟨q, B, X', hpost, hsteps⟩
  · exact Or.inl ⟨v, B, X', hpost, fun target h => hstep₁ _ fun acts => by rw [doInvoke_state]; exact hsteps.trans h⟩
  · exact Or.inr ⟨q, B, X₁.warmed, X', hpost, hstep₁ _ fun acts => by rw [doInvoke_state]; exact hsteps⟩
theorem m_cvs1 {idx d n j : Nat} {ne : Bool} {as stk : List zkV} {v : zkV} {f : zkM} (hd : (iT i).lookup pc = some (.invokevirtual idx, nx)) (hn : nx = pc + 3) (hk : zkLk (iO i) idx ci false ne n) (hc : zkCt l G ci d 0 0 (vr 60 j :: as) mem (zkR1 v f)) (hst : stk = as.reverse ++ vr 60 j :: st) (hj : j < 9) (ho : iO ci = 10) (ha : as.length = n) (hw : (st.map catV).sum ≤ 8) (hf : d + 1 ≤ K.1.frames) (hlo : 40 * d + 119 + iL ci ≤ K.1.locals) (h1 : cu ≤ K.1.cells) (h2 : su ≤ K.1.slots) (k : zkW l G i K cu su nx ls (v :: st) f) : zkW l G i K cu su pc ls stk mem :=
  m_callVs hd hn hk hc hst hj ho ha hw hf hlo h1 h2 (fun _ _ h => by obtain ⟨e1, e2⟩ := h; cases e1; subst e2; exact k) (fun _ _ h => by obtain ⟨e1, -⟩ := h; cases e1)
theorem m_sval {j : Nat} (hd : (iT i).lookup pc = some (.getfield 9, nx)) (hn : nx = pc + 3) (ho : iO i = 10) (hj : j < 9) (kk : zkW l G i K cu su nx ls (vr 61 j :: st) mem) : zkW l G i K cu su pc ls (vr 60 j :: st) mem := by
  intro p e s m args below meth c C H locs a hP hS hl
  subst hn
  have hq := kk p e s m args below meth c C H locs a hP hS hl
  obtain ⟨hx, hb, -, hml, hown, hts, hF, -⟩ := id C
  rw [ho] at hown
  exact vk_getf (own := "java/lang/String") (ref := "java/lang/String") hx hb (hF.2.2.2.2.2.2.2.1.1 j hj).2.2.1 hS hown (hts _ (zkIn_use (by decide +kernel))) (fun _ h => h) (zkC_dec C hd rfl) hq
theorem m_scod {j : Nat} (hd : (iT i).lookup pc = some (.getfield 15, nx)) (hn : nx = pc + 3) (ho : iO i = 10) (hj : j < 9) (kk : zkW l G i K cu su nx ls (vi 0 :: st) mem) : zkW l G i K cu su pc ls (vr 60 j :: st) mem := by
  intro p e s m args below meth c C H locs a hP hS hl
  subst hn
  have hq := kk p e s m args below meth c C H locs a hP hS hl
  obtain ⟨hx, hb, -, hml, hown, hts, hF, -⟩ := id C
  rw [ho] at hown
  exact vk_getf (own := "java/lang/String") (ref := "java/lang/String") hx hb (hF.2.2.2.2.2.2.2.1.1 j hj).2.1 hS hown (hts _ (zkIn_use (by decide +kernel))) (fun _ h => h) (zkC_dec C hd rfl) hq
theorem m_gsC (hd : (iT i).lookup pc = some (.getstatic 38, nx)) (hn : nx = pc + 3) (ho : iO i = 10) (kk : zkW l G i K cu su nx ls (vi 1 :: st) mem) : zkW l G i K cu su pc ls st mem := by
  intro p e s m args below meth c C H locs a hP hS hl
  subst hn
  have hq := kk p e s m args below meth c C H locs a hP hS hl
  obtain ⟨hx, hb, -, hml, hown, hts, hF, -⟩ := id C
  rw [ho] at hown
  exact va_gets (own := "java/lang/String") (ref := "java/lang/String") hx hb hF.2.2.2.2.2.2.2.2.1.1 hS hown (hts _ (zkIn_use (by decide +kernel))) (fun _ h => h) (zkC_dec C hd rfl) hq
theorem m_gsF (hd : (iT i).lookup pc = some (.getstatic 1053, nx)) (hn : nx = pc + 3) (ho : iO i = 10) (kn : zkW l G i K cu su nx ls (vv .null :: st) mem) (kk : ∀ q : Nat, zkW l G i K cu su nx ls (vv (.ref q) :: st) mem) : zkW l G i K cu su pc ls st mem := by
  intro p e s m args below meth c C H locs a hP hS hl
  subst hn
  obtain ⟨hx, hb, -, hml, hown, hts, hF, -⟩ := id C
  rw [ho] at hown
  rcases hF.2.2.2.2.2.2.2.2.1.2 with hz | ⟨q, hz⟩
  · exact va_gets (own := "java/lang/String") (ref := "jdk/internal/util/Preconditions") hx hb hz hS hown (hts _ (zkIn_use (by decide +kernel))) (fun _ h => h) (zkC_dec C hd rfl) (kn p e s m args below meth c C H locs a hP hS hl)
  · exact va_gets (own := "java/lang/String") (ref := "jdk/internal/util/Preconditions") hx hb hz hS hown (hts _ (zkIn_use (by decide +kernel))) (fun _ h => h) (zkC_dec C hd rfl) (kk q p e s m args below meth c C H locs a hP hS hl)
theorem m_bln {j : Nat} (hd : (iT i).lookup pc = some (.arraylength, nx)) (hn : nx = pc + 1) (hj : j < 9) (kk : zkW l G i K cu su nx ls (vi (zkLn.getD j 0 : Nat) :: st) mem) : zkW l G i K cu su pc ls (vr 61 j :: st) mem := by
  intro p e s m args below meth c C H locs a hP hS hl
  subst hn
  have hq := kk p e s m args below meth c C H locs a hP hS hl
  obtain ⟨hx, hb, -, hml, hown, hts, hF, -⟩ := id C
  exact va_tlen hx hb (hF.2.2.2.2.2.2.2.1.1 j hj).2.2.2 hS (ch_tab j hj).1 (zkC_dec C hd rfl) hq
theorem m_bld {j n : Nat} {x : Int} (hd : (iT i).lookup pc = some (.baload, nx)) (hn : nx = pc + 1) (hj : j < 9) (hx0 : x = (n : Nat)) (h1 : n < zkLn.getD j 0) (kk : zkW l G i K cu su nx ls (vi (zkCh j n) :: st) mem) : zkW l G i K cu su pc ls (vi x :: vr 61 j :: st) mem := by
  intro p e s m args below meth c C H locs a hP hS hl
  subst hn
  subst hx0
  have hq := kk p e s m args below meth c C H locs a hP hS hl
  obtain ⟨hx, hb, -, hml, hown, hts, hF, -⟩ := id C
  obtain ⟨t1, t2, t3, -⟩ := ch_tab2 j hj n h1
  exact va_tb hx hb (hF.2.2.2.2.2.2.2.1.1 j hj).2.2.2 hS t1 (by rw [t2, t3]; rfl) (zkC_dec C hd rfl) hq
theorem m_ishrL {j : Nat} (hd : (iT i).lookup pc = some (.ishr, nx)) (hn : nx = pc + 1) (hj : j < 9) (kk : zkW l G i K cu su nx ls (vi (zkLn.getD j 0 : Nat) :: st) mem) : zkW l G i K cu su pc ls (vi 0 :: vi (zkLn.getD j 0 : Nat) :: st) mem := by
  intro p e s m args below meth c C H locs a hP hS hl
  subst hn
  have hq := kk p e s m args below meth c C H locs a hP hS hl
  have e1 : tau G (vi (zkLn.getD j 0 : Nat)) = .int (Int32.ofInt (zkLn.getD j 0 : Nat) >>> (Int32.ofInt 0 &&& 31)) := congrArg Value.int (ch_tab j hj).2.1.symm
  rw [List.map_cons, e1] at hq
  exact lv_ishr C.1 C.2.1 (zkC_dec C hd rfl) hq
theorem m_iandL {j n : Nat} (hd : (iT i).lookup pc = some (.iand, nx)) (hn : nx = pc + 1) (hj : j < 9) (h1 : n < zkLn.getD j 0) (kk : zkW l G i K cu su nx ls (vi (zkCh j n) :: st) mem) : zkW l G i K cu su pc ls (vi 255 :: vi (zkCh j n) :: st) mem := by
  intro p e s m args below meth c C H locs a hP hS hl
  subst hn
  have hq := kk p e s m args below meth c C H locs a hP hS hl
  have e1 : tau G (vi (zkCh j n)) = .int (Int32.ofInt (zkCh j n) &&& Int32.ofInt 255) := congrArg Value.int (ch_tab2 j hj n h1).2.2.2.1.symm
  rw [List.map_cons, e1] at hq
  exact lv_iand C.1 C.2.1 (zkC_dec C hd rfl) hq
theorem m_i2cL {j n : Nat} (hd : (iT i).lookup pc = some (.i2c, nx)) (hn : nx = pc + 1) (hj : j < 9) (h1 : n < zkLn.getD j 0) (kk : zkW l G i K cu su nx ls (vi (zkCh j n) :: st) mem) : zkW l G i K cu su pc ls (vi (zkCh j n) :: st) mem := by
  intro p e s m args below meth c C H locs a hP hS hl
  subst hn
  have hq := kk p e s m args below meth c C H locs a hP hS hl
  exact lv_i2c C.1 C.2.1 (zkC_dec C hd rfl) (ch_tab2 j hj n h1).2.2.2.2.1 hq
end ZSTR
section ZSTE
variable {l : Launch} {G : zkG} {i : zkI} {d mc ms cu su pc nx : Nat} {ls : List (Option zkV)} {mem : zkM} {Q : zkO → zkM → Prop}
theorem m_nret {x : Int} {ty : FieldType} (hd : (iT i).lookup pc = some (.ireturn, nx)) (hn : nx = pc + 1) (hr : iR i = some ty) (hna : narrow ty (.int (Int32.ofInt x)) = .int (Int32.ofInt x)) (hc : cu ≤ mc) (hs : su ≤ ms) (hq : Q (Sum.inl (some (vi x))) mem) : zkW l G i (zkKm G d mc ms Q) cu su pc ls [vi x] mem := by
  intro p e s m args below meth c C H locs a hP hS hl
  subst hn
  refine W.widen (k := mc) (n := ms) hc hs ?_
  exact vx_ret (W.zret (v := Int32.ofInt x) C.1 C.2.1 (C.2.2.1.trans hr) hna (fun t ht _ => zk_qc hq hP hS ht) hS.2.2 (zkC_dec C hd rfl) C.2.2.2.2.2.2.2.1)
end ZSTE
set_option maxRecDepth 10000 in
theorem c_strCoder {l : Launch} {G : zkG} {mem : zkM} (hl : l.stackTraces = false) {j : Nat} (hj : j < 9) : zkCt l G i_J0_coder 0 0 0 [vr 60 j] mem (zkR1 (vi 0) mem) := by
  refine zkCt_of hl ok_J0_coder (by decide +kernel) rfl rfl (List.forall_mem_cons.mpr ⟨rfl, fun _ h => nomatch h⟩) (Nat.le_of_ble_eq_true rfl) ?_
  refine m_gsC rfl rfl rfl ?_
  refine m_if_eq (tgt := 13) rfl rfl rfl (by omega) (fun c3 => ?_) (fun c3 => ?_)
  · exfalso; omega
  refine m_aload_n rfl rfl rfl ?_
  refine m_scod rfl rfl rfl hj ?_
  refine m_goto (tgt := 14) rfl rfl rfl ?_
  refine m_nret rfl rfl rfl rfl (Nat.le_of_ble_eq_true rfl) (Nat.le_of_ble_eq_true rfl) ?_
  exact ⟨rfl, rfl⟩
set_option maxRecDepth 10000 in
theorem c_strLen {l : Launch} {G : zkG} {mem : zkM} (hl : l.stackTraces = false) {j : Nat} (hj : j < 9) : zkCt l G i_J0_length 1 0 0 [vr 60 j] mem (zkR1 (vi (zkLn.getD j 0 : Nat)) mem) := by
  refine zkCt_of hl ok_J0_length (by decide +kernel) rfl rfl (List.forall_mem_cons.mpr ⟨rfl, fun _ h => nomatch h⟩) (Nat.le_of_ble_eq_true rfl) ?_
  refine m_aload_n rfl rfl rfl ?_
  refine m_sval rfl rfl rfl hj ?_
  refine m_bln rfl rfl hj ?_
  refine m_aload_n rfl rfl rfl ?_
  refine m_cvs1 rfl rfl lk_10_335 (c_strCoder hl hj) rfl hj rfl rfl (Nat.le_of_ble_eq_true rfl) (Nat.le_of_ble_eq_true rfl) (Nat.le_of_ble_eq_true rfl) (Nat.le_of_ble_eq_true rfl) (Nat.le_of_ble_eq_true rfl) ?_
  refine m_ishrL rfl rfl hj ?_
  refine m_iret rfl rfl rfl (Nat.le_of_ble_eq_true rfl) (Nat.le_of_ble_eq_true rfl) ?_
  exact ⟨rfl, rfl⟩
set_option maxRecDepth 10000 in
theorem c_strLat {l : Launch} {G : zkG} {mem : zkM} (hl : l.stackTraces = false) {j : Nat} (hj : j < 9) : zkCt l G i_J0_isLatin1 0 0 0 [vr 60 j] mem (zkR1 (vi 1) mem) := by
  refine zkCt_of hl ok_J0_isLatin1 (by decide +kernel) rfl rfl (List.forall_mem_cons.mpr ⟨rfl, fun _ h => nomatch h⟩) (Nat.le_of_ble_eq_true rfl) ?_
  refine m_gsC rfl rfl rfl ?_
  refine m_if_eq (tgt := 17) rfl rfl rfl (by omega) (fun c3 => ?_) (fun c3 => ?_)
  · exfalso; omega
  refine m_aload_n rfl rfl rfl ?_
  refine m_scod rfl rfl rfl hj ?_
  refine m_if_ne (tgt := 17) rfl rfl rfl (by omega) (fun c10 => ?_) (fun c10 => ?_)
  · exfalso; omega
  refine m_iconst rfl rfl ?_
  refine m_goto (tgt := 18) rfl rfl rfl ?_
  refine m_nret rfl rfl rfl rfl (Nat.le_of_ble_eq_true rfl) (Nat.le_of_ble_eq_true rfl) ?_
  exact ⟨rfl, rfl⟩
set_option maxRecDepth 10000 in
theorem c_chk3n {l : Launch} {G : zkG} {mem : zkM} (hl : l.stackTraces = false) {x y : Int} (hx : 0 ≤ x ∧ x < y) (hy : inR y) : zkCt l G i_J3_checkIndex 0 0 0 [vi x, vi y, vv .null] mem (zkR1 (vi x) mem) := by
  refine zkCt_of hl ok_J3_checkIndex (by decide +kernel) rfl rfl (List.forall_mem_cons.mpr ⟨rfl, (List.forall_mem_cons.mpr ⟨rfl, (List.forall_mem_cons.mpr ⟨rfl, fun _ h => nomatch h⟩)⟩)⟩) (Nat.le_of_ble_eq_true rfl) ?_
  refine m_iload_n rfl rfl rfl ?_
  refine m_if_lt (tgt := 9) rfl rfl rfl (by omega) (fun c1 => ?_) (fun c1 => ?_)
  · exfalso; omega
  refine m_iload_n rfl rfl rfl ?_
  refine m_iload_n rfl rfl rfl ?_
  refine m_icmp_lt (tgt := 16) rfl rfl rfl (by omega) (by omega) (fun c6 => ?_) (fun c6 => ?_)
  · refine m_iload_n rfl rfl rfl ?_
    refine m_iret rfl rfl rfl (Nat.le_of_ble_eq_true rfl) (Nat.le_of_ble_eq_true rfl) ?_
    exact ⟨rfl, rfl⟩
  exfalso; omega
set_option maxRecDepth 10000 in
theorem c_chk3r {l : Launch} {G : zkG} {mem : zkM} (hl : l.stackTraces = false) {x y : Int} {q : Nat} (hx : 0 ≤ x ∧ x < y) (hy : inR y) : zkCt l G i_J3_checkIndex 0 0 0 [vi x, vi y, vv (.ref q)] mem (zkR1 (vi x) mem) := by
  refine zkCt_of hl ok_J3_checkIndex (by decide +kernel) rfl rfl (List.forall_mem_cons.mpr ⟨rfl, (List.forall_mem_cons.mpr ⟨rfl, (List.forall_mem_cons.mpr ⟨rfl, fun _ h => nomatch h⟩)⟩)⟩) (Nat.le_of_ble_eq_true rfl) ?_
  refine m_iload_n rfl rfl rfl ?_
  refine m_if_lt (tgt := 9) rfl rfl rfl (by omega) (fun c1 => ?_) (fun c1 => ?_)
  · exfalso; omega
  refine m_iload_n rfl rfl rfl ?_
  refine m_iload_n rfl rfl rfl ?_
  refine m_icmp_lt (tgt := 16) rfl rfl rfl (by omega) (by omega) (fun c6 => ?_) (fun c6 => ?_)
  · refine m_iload_n rfl rfl rfl ?_
    refine m_iret rfl rfl rfl (Nat.le_of_ble_eq_true rfl) (Nat.le_of_ble_eq_true rfl) ?_
    exact ⟨rfl, rfl⟩
  exfalso; omega
set_option maxRecDepth 10000 in
theorem c_chk {l : Launch} {G : zkG} {mem : zkM} (hl : l.stackTraces = false) {x y : Int} (hx : 0 ≤ x ∧ x < y) (hy : inR y) : zkCt l G i_J0_checkIndex 1 0 0 [vi x, vi y] mem (zkR0 mem) := by
  refine zkCt_of hl ok_J0_checkIndex (by decide +kernel) rfl rfl (List.forall_mem_cons.mpr ⟨rfl, (List.forall_mem_cons.mpr ⟨rfl, fun _ h => nomatch h⟩)⟩) (Nat.le_of_ble_eq_true rfl) ?_
  refine m_iload_n rfl rfl rfl ?_
  refine m_iload_n rfl rfl rfl ?_
  refine m_gsF rfl rfl rfl ?_ (fun q => ?_)
  · refine m_cs1 rfl rfl lk_10_1059 (c_chk3n hl hx hy) rfl rfl (Nat.le_of_ble_eq_true rfl) (Nat.le_of_ble_eq_true rfl) (Nat.le_of_ble_eq_true rfl) (Nat.le_of_ble_eq_true rfl) (Nat.le_of_ble_eq_true rfl) ?_
    refine m_pop rfl rfl rfl ?_
    refine m_vret rfl rfl rfl (Nat.le_of_ble_eq_true rfl) (Nat.le_of_ble_eq_true rfl) ?_
    exact ⟨rfl, rfl⟩
  · refine m_cs1 rfl rfl lk_10_1059 (c_chk3r hl hx hy) rfl rfl (Nat.le_of_ble_eq_true rfl) (Nat.le_of_ble_eq_true rfl) (Nat.le_of_ble_eq_true rfl) (Nat.le_of_ble_eq_true rfl) (Nat.le_of_ble_eq_true rfl) ?_
    refine m_pop rfl rfl rfl ?_
    refine m_vret rfl rfl rfl (Nat.le_of_ble_eq_true rfl) (Nat.le_of_ble_eq_true rfl) ?_
    exact ⟨rfl, rfl⟩
set_option maxRecDepth 10000 in
theorem c_latAt {l : Launch} {G : zkG} {mem : zkM} (hl : l.stackTraces = false) {j n : Nat} {x : Int} (hj : j < 9) (hx0 : x = (n : Nat)) (h1 : n < zkLn.getD j 0) : zkCt l G i_J1_charAt 2 0 0 [vr 61 j, vi x] mem (zkR1 (vi (zkCh j n)) mem) := by
  refine zkCt_of hl ok_J1_charAt (by decide +kernel) rfl rfl (List.forall_mem_cons.mpr ⟨rfl, (List.forall_mem_cons.mpr ⟨rfl, fun _ h => nomatch h⟩)⟩) (Nat.le_of_ble_eq_true rfl) ?_
  have t1 := (ch_tab j hj).2.2
  have t2 := (ch_tab2 j hj n h1).2.2.2.2.1
  refine m_iload_n rfl rfl rfl ?_
  refine m_aload_n rfl rfl rfl ?_
  refine m_bln rfl rfl hj ?_
  refine m_cs0 rfl rfl lk_11_9 (c_chk hl (by omega) (by omega)) rfl rfl (Nat.le_of_ble_eq_true rfl) (Nat.le_of_ble_eq_true rfl) (Nat.le_of_ble_eq_true rfl) (Nat.le_of_ble_eq_true rfl) (Nat.le_of_ble_eq_true rfl) ?_
  refine m_aload_n rfl rfl rfl ?_
  refine m_iload_n rfl rfl rfl ?_
  refine m_bld rfl rfl hj hx0 h1 ?_
  refine m_sipush rfl rfl (by decide) ?_
  refine m_iandL rfl rfl hj h1 ?_
  refine m_i2cL rfl rfl hj h1 ?_
  refine m_nret rfl rfl rfl (congrArg Value.int t2) (Nat.le_of_ble_eq_true rfl) (Nat.le_of_ble_eq_true rfl) ?_
  exact ⟨rfl, rfl⟩
set_option maxRecDepth 10000 in
theorem c_strAt {l : Launch} {G : zkG} {mem : zkM} (hl : l.stackTraces = false) {j n : Nat} {x : Int} (hj : j < 9) (hx0 : x = (n : Nat)) (h1 : n < zkLn.getD j 0) : zkCt l G i_J0_charAt 3 0 0 [vr 60 j, vi x] mem (zkR1 (vi (zkCh j n)) mem) := by
  refine zkCt_of hl ok_J0_charAt (by decide +kernel) rfl rfl (List.forall_mem_cons.mpr ⟨rfl, (List.forall_mem_cons.mpr ⟨rfl, fun _ h => nomatch h⟩)⟩) (Nat.le_of_ble_eq_true rfl) ?_
  have t2 := (ch_tab2 j hj n h1).2.2.2.2.1
  refine m_aload_n rfl rfl rfl ?_
  refine m_cvs1 rfl rfl lk_10_492 (c_strLat hl hj) rfl hj rfl rfl (Nat.le_of_ble_eq_true rfl) (Nat.le_of_ble_eq_true rfl) (Nat.le_of_ble_eq_true rfl) (Nat.le_of_ble_eq_true rfl) (Nat.le_of_ble_eq_true rfl) ?_
  refine m_if_eq (tgt := 16) rfl rfl rfl (by omega) (fun c4 => ?_) (fun c4 => ?_)
  · exfalso; omega
  refine m_aload_n rfl rfl rfl ?_
  refine m_sval rfl rfl rfl hj ?_
  refine m_iload_n rfl rfl rfl ?_
  refine m_cs1 rfl rfl lk_10_495 (c_latAt hl hj hx0 h1) rfl rfl (Nat.le_of_ble_eq_true rfl) (Nat.le_of_ble_eq_true rfl) (Nat.le_of_ble_eq_true rfl) (Nat.le_of_ble_eq_true rfl) (Nat.le_of_ble_eq_true rfl) ?_
  refine m_nret rfl rfl rfl (congrArg Value.int t2) (Nat.le_of_ble_eq_true rfl) (Nat.le_of_ble_eq_true rfl) ?_
  exact ⟨rfl, rfl⟩
