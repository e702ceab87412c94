/-! THE CLAIM OUT OF ONE WALK OF THE LAW'S BODY. Your part is whole_start (and what it stands on); all else here is the same for every law, but numbers. -/
def R_law : String := "CeilingWorkbenchLaw"
def lw_P (b : Addr) (xs : List Int32) (args : Array Value) (s : State) : Prop := args = #[.ref b] ∧ s.IntsAt b xs ∧ xs.length ≤ 2560 ∧ (Jvm.Cond.and given_1 narrow_1).before args s = true
/-- what a walk over the start with the record d0 says of its end, said of the start itself -/
theorem lw_closed {s t : State} {o : Outcome} {d0 : Drawn} {L : List Loc} {k n : Nat} (hd0 : s.drawn.sameBut d0 lw_cs) (hv : ∃ v, o = .returned v) (hW : (s.setDrawn d0).WarmedH t.vm) (hs : (s.setDrawn d0).sameButNew ({ t with vm := s.vm } : State) L k n) : State.butDraws s t lw_cs (fun t1 => Framed s o t1 L k n) := by
  have h2 : t.drawn = d0 := congrArg State.drawn hs.1
  refine ⟨⟨hv, hW, State.sameButNew.setDrawn hs s.drawn⟩, ?_, by decide⟩
  rw [h2]
  exact hd0
def lw_Q (_ : Array Value) (s : State) (o : Outcome) (t : State) : Prop := o = .returned (some (.int 1)) ∧ State.butDraws s t lw_cs (fun t1 => Framed s o t1 [] 603072 7186538)
def lw_Z (below : List Frame) (a : Array Value) (s : State) : State → Prop := fun t => ∃ o, t.status = .running ∧ Ended t below o ∧ lw_Q a s o t
/-- the law's own end, with 1 on the stack, nothing written that was there before, its room as the claim has it; d0: the record of draws at this point (at the entry s.drawn: begin with 'refine W.base ?_' and 'have hd0 := Drawn.sameBut.refl s.drawn lw_cs') -/
theorem lw_ret {p : Program} {l : Launch} {e : Env} {s : State} {m : MethodId} {below : List Frame} {meth : Method} {c : Code} {b : Nat} {d0 : Drawn} (hd0 : s.drawn.sameBut d0 lw_cs) (hx : p.tables.exec = Jvm.exec) (hb : c.code = code) (hr : meth.sig.returnType = ret) (hlocks : meth.locks = false) {pc : Nat} {H : Heap} {ls : Array Slot} (hdg : decode code pc = .ok (.ireturn, 1)) : W p l e room_1 (s.setDrawn d0) m #[Value.ref b] below meth c H [] 603072 7186538 (lw_Z below #[Value.ref b] s) (F0 m pc ls [.int 1]) := by
  intro T hT X
  obtain ⟨fs, hret, hrun, hended, hW, hframe⟩ := X.leave (v := some (.int 1)) (hlocks := hlocks) (fun h => by rw [hr] at h; cases h)
  have hmeth' : T.vm.method? m = some meth := X.method'
  refine ⟨T.setFrames fs, ?_, .returned (some (.int 1)), hrun, hended, rfl, lw_closed hd0 ⟨_, rfl⟩ hW hframe⟩
  jvm_step X.here [X.here.top, hx, hb, hdg, hmeth', hr, ret, narrow_b1]
  (try refine ⟨rfl, ?_⟩); (try refine ⟨rfl, ?_⟩)
  first | (intro acts; rw [hret _ acts rfl rfl rfl]) | rw [hret _ _ rfl rfl rfl]
  exact Steps.refl _
/-- what holds at the law's entry: the machine, the code, the tables' words (any of lw_tbl by 'hts w (by decide +kernel)'), the script of L ints xs at the cell b, what the Statement gives of the start (any of its parts by flat_of_before) -/
def lw_At (p : Program) (s : State) (m : MethodId) (meth : Method) (c : Code) (b L : Nat) (xs : Nat → Int32) : Prop :=
  p.tables.exec = Jvm.exec ∧ c.code = code ∧ meth.sig.returnType = ret ∧ c.maxLocals = 10 ∧ s.vm.findClass R_law = some m.cls ∧ (∀ w ∈ lw_tbl, w.before #[Value.ref b] s = true) ∧ va_X b L xs s s.heap ∧ b < s.heap.size ∧ meth.locks = false ∧ (Jvm.Cond.and given_1 narrow_1).before #[Value.ref b] s = true ∧ c.exceptionTable.toList = []

/-! the law's method: pieces of its table, the script, the compares -/
abbrev iLaw (T : List (Nat × Instr × Nat)) : zkI := (x, code, 10, some .boolean, 9, T, [])
def lw_K (G : zkG) (b L : Nat) (xs : Nat → Int32) : zkK := (room_1, fun below args s => lw_Z below args s, fun args s => args = #[Value.ref b] ∧ va_X b L xs s s.heap ∧ b < s.heap.size ∧ ¬ zkA G s.heap.size b ∧ ∀ v ∈ zkL, s.heap.size ≤ ga G v)
theorem ok_nil : zkOk (iLaw []) := fun q h => nomatch h
theorem zkW_sub {l : Launch} {G : zkG} {K : zkK} {cu su pc : Nat} {ls : List (Option zkV)} {st : List zkV} {mem : zkM} {T T' : List (Nat × Instr × Nat)} (hO : zkOk (iLaw T)) (h : zkW l G (iLaw T) K cu su pc ls st mem) : zkW l G (iLaw T') K cu su pc ls st mem := by
  intro p e s m args below meth c C
  obtain ⟨c1, c2, c3, c4, c5, c6, c7, c8, c9, c10, c11, c12⟩ := C
  exact h p e s m args below meth c ⟨c1, c2, c3, c4, c5, c6, c7, c8, c9, c10, hO, c12⟩
theorem i32_back (a : Int32) : Int32.ofInt a.toInt = a := Int32.ofInt_toInt a
theorem i32_inR (a : Int32) : inR a.toInt := ⟨Int32.le_toInt a, Int32.toInt_lt a⟩
def i2cV (x : Int) : Int := (((Int32.ofInt x).toUInt32 % 65536).toInt32).toInt
theorem bv_small {v : BitVec 32} (h : v.toNat < 2 ^ 31) : v.toInt = (v.toNat : Int) := BitVec.toInt_eq_toNat_of_lt (by omega)
theorem i2cV_r (x : Int) : 0 ≤ i2cV x ∧ i2cV x < 65536 := by
  unfold i2cV
  generalize (Int32.ofInt x).toUInt32 = u
  have h1 : (u % 65536).toNat < 65536 := by
    rw [UInt32.toNat_mod]
    exact Nat.mod_lt _ (by decide)
  have h2 : ((u % 65536).toInt32).toInt = ((u % 65536).toBitVec).toInt := rfl
  have h3 : ((u % 65536).toBitVec).toNat = (u % 65536).toNat := rfl
  rw [h2, bv_small (by rw [h3]; omega), h3]
  omega
def and63 (x : Int) : Int := (Int32.ofInt x &&& Int32.ofInt 63).toInt
theorem and63_r (x : Int) : 0 ≤ and63 x ∧ and63 x < 64 := by
  unfold and63
  generalize Int32.ofInt x = u
  have h2 : (u &&& Int32.ofInt 63).toInt = (u.toBitVec &&& 63#32).toInt := rfl
  have h3 : (u.toBitVec &&& 63#32).toNat ≤ 63 := by
    rw [BitVec.toNat_and]
    exact Nat.and_le_right
  rw [h2, bv_small (by omega)]
  omega
theorem n64_ne {a : UInt64} (h : vf_n64 a) : FP.Core.val64 a ≠ .nan := by
  rw [FP.Core.ne_nan]
  unfold vf_n64 at h
  rw [UInt64.le_iff_toNat_le, UInt64.toNat_and] at h
  have h2 : a.toNat &&& (2 ^ 63 - 1) ≤ 9218868437227405312 := h
  rw [Nat.and_two_pow_sub_one_eq_mod] at h2
  exact h2
theorem dc_self {a : UInt64} (h : vf_n64 a) : FP.dcmp a a = some .eq := FP.Core.dcmp_self (n64_ne h)
section LROWS
variable {l : Launch} {G : zkG} {i ci : zkI} {K : zkK} {cu su pc nx : Nat} {ls : List (Option zkV)} {st : List zkV} {mem f : zkM} {b L : Nat} {xs : Nat → Int32}
theorem m_fgt {ls' : List (Option zkV)} (h : ∀ (k : Nat) (v : zkV), ls'[k]? = some (some v) → ls[k]? = some (some v)) (kk : zkW l G i K cu su pc ls' st mem) : zkW l G i K cu su pc ls st mem :=
  fun p e s m args below meth c C H locs a hP hS hl => kk p e s m args below meth c C H locs a hP hS ⟨hl.1, hl.2.1, fun k v hv => hl.2.2 k v (h k v hv)⟩
theorem m_wid {cu' su' : Nat} (h1 : cu ≤ cu') (h2 : su ≤ su') (kk : zkW l G i K cu' su' pc ls st mem) : zkW l G i K cu su pc ls st mem :=
  fun p e s m args below meth c C H locs a hP hS hl => W.widen h1 h2 (kk p e s m args below meth c C H locs a hP hS hl)
theorem m_sld {x : Int} (hd : (iT i).lookup pc = some (.iaload, nx)) (hn : nx = pc + 1) (h0 : 0 ≤ x) (h1 : x < L) (hL : L ≤ 2560) (kk : zkW l G i (lw_K G b L xs) cu su nx ls (vi (xs x.toNat).toInt :: st) mem) : zkW l G i (lw_K G b L xs) cu su pc ls (vi x :: vv (.ref b) :: st) mem := by
  intro p e s m args below meth c C H locs a hP hS hl
  subst hn
  obtain ⟨-, hX, hb, hnA, -⟩ := C.2.2.2.2.2.2.2.2.2.2.2
  refine va_sld (i := Int32.ofInt x) C.1 C.2.1 hX hb hnA hS (zk_in h0 h1 (by omega)) (zkC_dec C hd rfl) ?_
  rw [zk_cl h0 (by omega), ← i32_back (xs x.toNat)]
  exact kk p e s m args below meth c C H locs a hP hS hl
theorem m_slen (hd : (iT i).lookup pc = some (.arraylength, nx)) (hn : nx = pc + 1) (kk : zkW l G i (lw_K G b L xs) cu su nx ls (vi (L : Int) :: st) mem) : zkW l G i (lw_K G b L xs) cu su pc ls (vv (.ref b) :: st) mem := by
  intro p e s m args below meth c C H locs a hP hS hl
  subst hn
  obtain ⟨-, hX, hb, hnA, -⟩ := C.2.2.2.2.2.2.2.2.2.2.2
  refine va_slen C.1 C.2.1 hX hb hnA hS (zkC_dec C hd rfl) ?_
  exact kk p e s m args below meth c C H locs a hP hS hl
theorem m_arg {j k : Nat} (h : (iT i).lookup pc = some (.aload_n 0, pc + 1) ∧ (iT i).lookup (pc + 1) = some (.iload 5, pc + 3) ∧ (iT i).lookup (pc + 3) = some (.iconst (k : Int), pc + 4) ∧ (iT i).lookup (pc + 4) = some (.iadd, pc + 5) ∧ (iT i).lookup (pc + 5) = some (.iaload, pc + 6)) (hl0 : ls[0]? = some (some (vv (.ref b)))) (hl5 : ls[5]? = some (some (vi (5 * (j : Int))))) (hk : 5 * j + k < L) (hL : L ≤ 2560) (kk : zkW l G i (lw_K G b L xs) cu su (pc + 6) ls (vi (xs (5 * j + k)).toInt :: st) mem) : zkW l G i (lw_K G b L xs) cu su pc ls st mem := by
  obtain ⟨h1, h2, h3, h4, h5⟩ := h
  refine m_aload_nv h1 rfl hl0 ?_
  refine m_iload h2 rfl hl5 ?_
  refine m_iconst h3 rfl ?_
  refine m_iadd h4 rfl ?_
  refine m_sld h5 rfl (by omega) (by omega) hL ?_
  have e : (5 * (j : Int) + (k : Int)).toNat = 5 * j + k := by omega
  rw [e]
  exact kk
theorem m_i2c {x : Int} (hd : (iT i).lookup pc = some (.i2c, nx)) (hn : nx = pc + 1) (k : zkW l G i K cu su nx ls (vi (i2cV x) :: st) mem) : zkW l G i K cu su pc ls (vi x :: st) mem := by
  intro p e s m args below meth c C H locs a hP hS hl
  subst hn
  exact lv_i2c (x := Int32.ofInt x) (v := Int32.ofInt (i2cV x)) C.1 C.2.1 (zkC_dec C hd rfl) (by unfold i2cV; rw [i32_back]) (k p e s m args below meth c C H locs a hP hS hl)
theorem m_and {x : Int} (hd : (iT i).lookup pc = some (.iand, nx)) (hn : nx = pc + 1) (k : zkW l G i K cu su nx ls (vi (and63 x) :: st) mem) : zkW l G i K cu su pc ls (vi 63 :: vi x :: st) mem := by
  intro p e s m args below meth c C H locs a hP hS hl
  subst hn
  refine lv_iand (x := Int32.ofInt x) (y := Int32.ofInt 63) C.1 C.2.1 (zkC_dec C hd rfl) ?_
  rw [← i32_back (Int32.ofInt x &&& Int32.ofInt 63)]
  exact k p e s m args below meth c C H locs a hP hS hl
theorem m_lceq {x : Int} (hd : (iT i).lookup pc = some (.lcmp, nx)) (hn : nx = pc + 1) (k : zkW l G i K cu su nx ls (vi 0 :: st) mem) : zkW l G i K cu su pc ls (vl x :: vl x :: st) mem := by
  intro p e s m args below meth c C H locs a hP hS hl
  subst hn
  refine W.lcmp (x := Int64.ofInt x) (y := Int64.ofInt x) C.1 C.2.1 (zkC_dec C hd rfl) ?_
  rw [show lg_cmp (Int64.ofInt x) (Int64.ofInt x) = 0 from by simp [lg_cmp]]
  exact k p e s m args below meth c C H locs a hP hS hl
theorem m_dceq {x : UInt64} {op : CmpOp} (hd : (iT i).lookup pc = some (.dcmp op, nx)) (hn : nx = pc + 1) (hx : vf_n64 x) (k : zkW l G i K cu su nx ls (vi 0 :: st) mem) : zkW l G i K cu su pc ls (vd x :: vd x :: st) mem := by
  intro p e s m args below meth c C H locs a hP hS hl
  subst hn
  refine lv_dcmp (x := x) (y := x) C.1 C.2.1 (zkC_dec C hd rfl) ?_
  rw [dc_self hx]
  exact k p e s m args below meth c C H locs a hP hS hl
/-- calls that make cells -/
theorem m_csw {idx d mc ms n : Nat} {ne : Bool} {as stk : List zkV} {v : zkV} (hd : (iT i).lookup pc = some (.invokestatic idx, nx)) (hn : nx = pc + 3) (hk : zkLk (iO i) idx ci true ne n) (hc : zkCt l G ci d mc ms as mem (zkR1 v f)) (hst : stk = as.reverse ++ st) (ha : as.length = n) (hw : (st.map catV).sum ≤ 8) (hf : d + 1 ≤ K.1.frames) (hlo : 40 * d + 119 + iL ci ≤ K.1.locals) (h1 : cu + mc ≤ K.1.cells) (h2 : su + ms ≤ K.1.slots) (k : zkW l G i K (cu + mc) (su + ms) nx ls (v :: st) f) : zkW l G i K cu su pc ls stk mem :=
  m_callS hd hn hk hc hst ha hw hf hlo h1 h2 (fun v' m' q => by obtain ⟨q1, rfl⟩ := q; cases q1; exact k) (fun E m' q => by obtain ⟨q1, -⟩ := q; cases q1)
end LROWS
abbrev lsL (b j : Nat) (x6 x7 x8 x9 : Option zkV) : List (Option zkV) := [some (vv (.ref b)), some (vr 6 0), some (vr 7 0), some (vr 50 0), some (vr 51 0), some (vi (5 * (j : Int))), x6, x7, x8, x9]
theorem lsL_f {b j : Nat} {x6 x7 x8 x9 : Option zkV} : ∀ (k : Nat) (v : zkV), (lsL b j none none none none)[k]? = some (some v) → (lsL b j x6 x7 x8 x9)[k]? = some (some v) := by
  intro k v h
  rcases (show k = 0 ∨ k = 1 ∨ k = 2 ∨ k = 3 ∨ k = 4 ∨ k = 5 ∨ k = 6 ∨ k = 7 ∨ k = 8 ∨ k = 9 ∨ 10 ≤ k by omega) with rfl | rfl | rfl | rfl | rfl | rfl | rfl | rfl | rfl | rfl | hk
  · exact h
  · exact h
  · exact h
  · exact h
  · exact h
  · exact h
  · cases h
  · cases h
  · cases h
  · cases h
  · rw [List.getElem?_eq_none (by exact hk)] at h
    cases h
section LTAIL
variable {l : Launch} {G : zkG} {cu su pc nx : Nat} {mem : zkM} {b L j : Nat} {xs : Nat → Int32} {T : List (Nat × Instr × Nat)} {x6 x7 x8 x9 : Option zkV}
theorem lw_end (hd : T.lookup pc = some (.ireturn, pc + 1)) (hc : cu ≤ 603072) (hs : su ≤ 7186538) {ls : List (Option zkV)} : zkW l G (iLaw T) (lw_K G b L xs) cu su pc ls [vi 1] mem := by
  intro p e s m args below meth c C H locs a hP hS hl
  obtain ⟨rfl, hX, hb, hnA, hga⟩ := C.2.2.2.2.2.2.2.2.2.2.2
  refine W.widen (k := 603072) (n := 7186538) hc hs ?_
  refine va_forget (fun q hq => ?_) ?_
  · rcases hS.2.2 q hq with ⟨v, hv, e⟩ | h
    · rw [e]; exact hga v hv
    · exact h
  · refine W.base ?_
    exact lw_ret (Drawn.sameBut.refl s.drawn lw_cs) C.1 C.2.1 C.2.2.1 C.2.2.2.2.2.2.2.1 (zkC_dec C hd rfl)
def tailT (T : List (Nat × Instr × Nat)) (pc : Nat) (off : Int) : Prop := T.lookup pc = some (.istore 7, pc + 2) ∧ T.lookup (pc + 2) = some (.aload_n 2, pc + 3) ∧ T.lookup (pc + 3) = some (.invokevirtual 119, pc + 6) ∧ T.lookup (pc + 6) = some (.iload 6, pc + 8) ∧ T.lookup (pc + 8) = some (.if_icmp .eq 5, pc + 11) ∧ T.lookup (pc + 13) = some (.iload 6, pc + 15) ∧ T.lookup (pc + 15) = some (.ifCond .ne 15, pc + 18) ∧ T.lookup (pc + 18) = some (.aload_n 3, pc + 19) ∧ T.lookup (pc + 19) = some (.iconst 0, pc + 20) ∧ T.lookup (pc + 20) = some (.laload, pc + 21) ∧ T.lookup (pc + 21) = some (.iload 7, pc + 23) ∧ T.lookup (pc + 23) = some (.i2l, pc + 24) ∧ T.lookup (pc + 24) = some (.lcmp, pc + 25) ∧ T.lookup (pc + 25) = some (.ifCond .eq 5, pc + 28) ∧ T.lookup (pc + 30) = some (.goto off, pc + 33)
/-- behind both calls: the codes and the answers are alike -/
theorem lw_tail {off c ans : Int} (hl : l.stackTraces = false) (h : tailT T pc off) (hoff : ((pc + 30 : Nat) : Int) + off = 1852) (h7 : mem 7 0 0 = c ∧ inR c) (ha : c = 0 → mem 50 0 0 = ans ∧ inR ans) (hc : cu ≤ 603072) (hs : su ≤ 7186538) (kk : zkW l G (iLaw T) (lw_K G b L xs) cu su 1852 (lsL b j none none none none) [] mem) : zkW l G (iLaw T) (lw_K G b L xs) cu su pc (lsL b j (some (vi c)) none none none) [vi ans] mem := by
  obtain ⟨t0, t1, t2, t3, t4, t5, t6, t7, t8, t9, t10, t11, t12, t13, t14⟩ := h
  have k2 : zkW l G (iLaw T) (lw_K G b L xs) cu su (pc + 30) (lsL b j (some (vi c)) (some (vi ans)) none none) [] mem := by
    refine m_goto (tgt := 1852) t14 rfl hoff ?_
    exact m_fgt lsL_f kk
  refine m_istore t0 rfl (Nat.le_of_ble_eq_true rfl) rfl ?_
  refine m_aload_n t1 rfl rfl ?_
  refine m_cv1 t2 rfl lk_9_119 (c_thrown hl) (as := []) (st := []) rfl (Nat.le_of_ble_eq_true rfl) (Nat.le_of_ble_eq_true rfl) rfl rfl (Nat.le_of_ble_eq_true rfl) (Nat.le_of_ble_eq_true rfl) (Nat.le_of_ble_eq_true rfl) hc hs ?_
  refine m_iload t3 rfl (x := c) rfl ?_
  refine m_icmp_eq (tgt := pc + 13) t4 rfl (by omega) (by rw [h7.1]; exact h7.2) h7.2 (fun _ => ?_) (fun q => absurd h7.1 q)
  refine m_iload t5 rfl (x := c) rfl ?_
  refine m_if_ne (tgt := pc + 30) t6 rfl (by omega) h7.2 (fun _ => k2) (fun q => ?_)
  obtain ⟨a1, a2⟩ := ha q
  refine m_aload_n t7 rfl rfl ?_
  refine m_iconst t8 rfl ?_
  refine m_lald t9 rfl ?_
  refine m_iload t10 rfl (x := ans) rfl ?_
  refine m_i2l t11 rfl a2 ?_
  rw [a1]
  refine m_lceq t12 rfl ?_
  exact m_if_eq (tgt := pc + 30) t13 rfl (by omega) inR_0 (fun _ => k2) (fun q => absurd rfl q)
/-- two numbers are compared at once -/
theorem lw_cmp2 {off x y : Int} {ls : List (Option zkV)} (hd : T.lookup pc = some (.if_icmp .eq off, pc + 3)) (hoff : (pc : Int) + off = 1852) (hxy : x = y) (hx : inR x) (kk : zkW l G (iLaw T) (lw_K G b L xs) cu su 1852 ls [] mem) : zkW l G (iLaw T) (lw_K G b L xs) cu su pc ls [vi y, vi x] mem :=
  m_icmp_eq (tgt := 1852) hd rfl hoff hx (by rw [← hxy]; exact hx) (fun _ => kk) (fun q => absurd hxy q)
end LTAIL
