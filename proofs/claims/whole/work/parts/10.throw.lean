/-! throws and catches; Math.max, Math.min; System.arraycopy -/
/-- the exceptions that the class throws: name, the link of the class, the link of its constructor -/
def zkEt : List (String × Nat × Nat) := [("java/lang/IndexOutOfBoundsException", 161, 165), ("java/lang/IllegalArgumentException", 60, 64), ("java/lang/IllegalStateException", 71, 75), ("java/lang/UnsupportedOperationException", 255, 259), ("java/lang/ArithmeticException", 195, 199)]
abbrev zkSup : List String := ["java/lang/RuntimeException", "java/lang/Exception"]
def zkIn (w : Cond) : Bool := decide (w ∈ lw_tbl) && goodWord w
theorem zkIn_use {w : Cond} (h : zkIn w = true) : w ∈ zkGw := by
  simp only [zkIn, Bool.and_eq_true, decide_eq_true_eq] at h
  exact List.mem_filter.mpr h
def zkDc : List Cond := [.declares ⟨"java/lang/RuntimeException", "<init>", "(Ljava/lang/String;)V"⟩, .declares ⟨"java/lang/Exception", "<init>", "(Ljava/lang/String;)V"⟩, .declares ⟨"java/lang/Throwable", "<init>", "(Ljava/lang/String;)V"⟩]
theorem zkDc_in : ∀ w ∈ zkDc, w ∈ lw_tbl := by decide +kernel
theorem zkDc_nw {w : Cond} (h : w ∈ zkDc) : w ∈ zkNw := List.mem_filter.mpr ⟨zkDc_in w h, by rcases List.mem_cons.mp h with rfl | h; rfl; rcases List.mem_cons.mp h with rfl | h; rfl; rcases List.mem_cons.mp h with rfl | h; rfl; cases h⟩
def zkEq (E : String) (ik ic : Nat) : Prop := zkIn (.classLink RX7 ik E) = true ∧ zkIn (.initialized E) = true ∧ Bundle.fit E = true ∧ E ∈ zkEx ∧ vx_ot (.classLink RX7 ik E) = true ∧ vx_ot (.initialized E) = true ∧ (vx_atS RX7 ic E zkSup).all vx_ot = true ∧ (∀ w ∈ (vx_atS RX7 ic E zkSup).filter goodWord, w ∈ lw_tbl) ∧ (∀ w ∈ (vx_atS RX7 ic E zkSup).filter (fun w => !goodWord w), w ∈ Cond.castable E E :: zkDc)
theorem zkEq_0 : zkEq "java/lang/IndexOutOfBoundsException" 161 165 := ⟨by decide +kernel, by decide +kernel, by decide +kernel, by decide +kernel, by decide +kernel, by decide +kernel, by decide +kernel, by decide +kernel, by decide +kernel⟩
theorem zkEq_1 : zkEq "java/lang/IllegalArgumentException" 60 64 := ⟨by decide +kernel, by decide +kernel, by decide +kernel, by decide +kernel, by decide +kernel, by decide +kernel, by decide +kernel, by decide +kernel, by decide +kernel⟩
theorem zkEq_2 : zkEq "java/lang/IllegalStateException" 71 75 := ⟨by decide +kernel, by decide +kernel, by decide +kernel, by decide +kernel, by decide +kernel, by decide +kernel, by decide +kernel, by decide +kernel, by decide +kernel⟩
theorem zkEq_3 : zkEq "java/lang/UnsupportedOperationException" 255 259 := ⟨by decide +kernel, by decide +kernel, by decide +kernel, by decide +kernel, by decide +kernel, by decide +kernel, by decide +kernel, by decide +kernel, by decide +kernel⟩
theorem zkEq_5 : zkEq "java/lang/ArithmeticException" 195 199 := ⟨by decide +kernel, by decide +kernel, by decide +kernel, by decide +kernel, by decide +kernel, by decide +kernel, by decide +kernel, by decide +kernel, by decide +kernel⟩
theorem zkEt_ok : ∀ q ∈ zkEt, zkEq q.1 q.2.1 q.2.2 := List.forall_mem_cons.mpr ⟨zkEq_0, List.forall_mem_cons.mpr ⟨zkEq_1, List.forall_mem_cons.mpr ⟨zkEq_2, List.forall_mem_cons.mpr ⟨zkEq_3, List.forall_mem_cons.mpr ⟨zkEq_5, fun _ h => nomatch h⟩⟩⟩⟩⟩
theorem zkSup_ok : ∀ n ∈ zkSup, Bundle.fit n = true := by decide +kernel
section ZTHROW
variable {l : Launch} {G : zkG} {i : zkI} {d mc ms cu su pc : Nat} {ls : List (Option zkV)} {st : List zkV} {mem : zkM} {Q : zkO → zkM → Prop}
theorem zk_xc {s t : State} {H : Heap} {locs : List Loc} {E : String} (hq : Q (Sum.inr E) mem) (hP : va_P (gD G) zkCl (wl G mem) H) (hS : va_S (zkA G s.heap.size) s.heap H locs) (h1 : H.size ≤ t.heap.size) (h2 : ∀ q : Nat, q < H.size → t.heap[q]? = H[q]?) : zkXc G Q E s t := by
  refine ⟨mem, hq, hP.kept (fun k q hk => h2 q.1 (hP k q hk).lt), Nat.le_trans hS.1 h1, fun q hq1 hq2 => ?_⟩
  rw [h2 q (Nat.lt_of_lt_of_le hq1 hS.1)]
  exact hS.2.1 q hq1 hq2
theorem zk_thr {E : String} {ik ic : Nat} (hE : (E, ik, ic) ∈ zkEt) {args : Array Value} {s : State} (hts : ∀ w ∈ zkGw, w.before args s = true) (hN : ∀ w ∈ zkNw, va_Nw w s) (hc : zkCs s) : Bundle.fit E = true ∧ (Cond.classLink RX7 ik E).before args s = true ∧ (Cond.initialized E).before args s = true ∧ (∀ w ∈ vx_atS RX7 ic E zkSup, w.before args s = true) ∧ ∀ w ∈ Cond.classLink RX7 ik E :: Cond.initialized E :: vx_atS RX7 ic E zkSup, vx_ot w = true := by
  obtain ⟨a1, a2, a3, a4, a5, a6, a7, a8, a9⟩ := zkEt_ok _ hE
  refine ⟨a3, hts _ (zkIn_use a1), hts _ (zkIn_use a2), fun w hw => ?_, fun w hw => ?_⟩
  · by_cases hg : goodWord w = true
    · exact hts _ (List.mem_filter.mpr ⟨a8 w (List.mem_filter.mpr ⟨hw, hg⟩), hg⟩)
    · have h9 := a9 w (List.mem_filter.mpr ⟨hw, by simp only [hg, Bool.not_eq_true', Bool.not_false]⟩)
      rcases List.mem_cons.mp h9 with rfl | h9
      · exact zkCs_use hc a4 args
      · have h10 := zkDc_nw h9
        have h11 := hN w h10
        rcases List.mem_cons.mp h9 with rfl | h9
        · exact va_Nw.use rfl h11
        · rcases List.mem_cons.mp h9 with rfl | h9
          · exact va_Nw.use rfl h11
          · rcases List.mem_cons.mp h9 with rfl | h9
            · exact va_Nw.use rfl h11
            · cases h9
  · rcases List.mem_cons.mp hw with rfl | hw
    · exact a5
    · rcases List.mem_cons.mp hw with rfl | hw
      · exact a6
      · exact List.all_eq_true.mp a7 w hw
theorem m_throw {E text : String} {ik is ic n0 n3 n4 n6 n9 : Nat} (h0 : (iT i).lookup pc = some (.new ik, n0)) (e0 : n0 = pc + 3) (h3 : (iT i).lookup n0 = some (.dup, n3)) (e3 : n3 = n0 + 1) (h4 : (iT i).lookup n3 = some (.ldc is, n4)) (e4 : n4 = n3 + 2) (h6 : (iT i).lookup n4 = some (.invokespecial ic, n6)) (e6 : n6 = n4 + 3) (h9 : (iT i).lookup n6 = some (.athrow, n9)) (e9 : n9 = n6 + 1)
    (hO : iO i = 6) (hH : iH i = []) (hE : (E, ik, ic) ∈ zkEt) (hs : (RX7, is, text) ∈ zkSc) (hd : 6 ≤ d) (hw : (st.map catV).sum ≤ 8) (hc1 : cu + 1 ≤ mc) (hs1 : su + 6 ≤ ms) (hq : Q (Sum.inr E) mem) : zkW l G i (zkKm G d mc ms Q) cu su pc ls st mem := by
  intro p e s m args below meth c C H locs a hP hS hl
  subst e0 e3 e4 e6 e9
  obtain ⟨hx, hb, hr, hml, hown, hts, hF, hlk, htab, hlt, hok, -⟩ := id C
  obtain ⟨-, hNw, -, hU, hN, hS1, -, -, -, -, hCs⟩ := hF
  obtain ⟨sa, hsa⟩ := hS1 _ hs
  obtain ⟨b1, b2, b3, b4, b5⟩ := zk_thr hE hts hNw hCs
  rw [hO] at hown
  have hout : ∀ x ∈ c.exceptionTable.toList, covers x (pc + 9) = false := by rw [htab, hH]; intro x h; cases h
  refine vx_throwS hx hb hlt hown b1 zkSup_ok b2 b3 hsa b4 b5 hU hN hS (hl.1.trans hml.symm) (zk_dec hok h0 rfl) (zk_dec hok h3 rfl) (zk_dec hok h4 rfl) (zk_dec hok h6 rfl) (zk_dec hok h9 rfl) hout ?_ ?_ ?_ ?_ hlk (fun t _ h1 h2 => zk_xc hq hP hS h1 h2) hS.2.2 hc1 hs1
  · show 2 + 3 < d
    omega
  · rw [zk_wsum]
    show (st.map catV).sum + 82 ≤ 40 * d + 100
    omega
  · exact hc1
  · exact hs1
theorem m_throwW {E text : String} {ik is ic n0 n3 n4 n6 n9 : Nat} (h0 : (iT i).lookup pc = some (.new ik, n0)) (e0 : n0 = pc + 3) (h3 : (iT i).lookup n0 = some (.dup, n3)) (e3 : n3 = n0 + 1) (h4 : (iT i).lookup n3 = some (.ldc_w is, n4)) (e4 : n4 = n3 + 3) (h6 : (iT i).lookup n4 = some (.invokespecial ic, n6)) (e6 : n6 = n4 + 3) (h9 : (iT i).lookup n6 = some (.athrow, n9)) (e9 : n9 = n6 + 1)
    (hO : iO i = 6) (hH : iH i = []) (hE : (E, ik, ic) ∈ zkEt) (hs : (RX7, is, text) ∈ zkSc) (hd : 6 ≤ d) (hw : (st.map catV).sum ≤ 8) (hc1 : cu + 1 ≤ mc) (hs1 : su + 6 ≤ ms) (hq : Q (Sum.inr E) mem) : zkW l G i (zkKm G d mc ms Q) cu su pc ls st mem := by
  intro p e s m args below meth c C H locs a hP hS hl
  subst e0 e3 e4 e6 e9
  obtain ⟨hx, hb, hr, hml, hown, hts, hF, hlk, htab, hlt, hok, -⟩ := id C
  obtain ⟨-, hNw, -, hU, hN, hS1, -, -, -, -, hCs⟩ := hF
  obtain ⟨sa, hsa⟩ := hS1 _ hs
  obtain ⟨b1, b2, b3, b4, b5⟩ := zk_thr hE hts hNw hCs
  rw [hO] at hown
  have hout : ∀ x ∈ c.exceptionTable.toList, covers x (pc + 10) = false := by rw [htab, hH]; intro x h; cases h
  refine vx_throwSW hx hb hlt hown b1 zkSup_ok b2 b3 hsa b4 b5 hU hN hS (hl.1.trans hml.symm) (zk_dec hok h0 rfl) (zk_dec hok h3 rfl) (zk_dec hok h4 rfl) (zk_dec hok h6 rfl) (zk_dec hok h9 rfl) hout ?_ ?_ ?_ ?_ hlk (fun t _ h1 h2 => zk_xc hq hP hS h1 h2) hS.2.2 hc1 hs1
  · show 2 + 3 < d
    omega
  · rw [zk_wsum]
    show (st.map catV).sum + 82 ≤ 40 * d + 100
    omega
  · exact hc1
  · exact hs1
/-- an exception of a callee goes on to the caller -/
theorem x_out {E : String} (hH : iH i = []) (hc1 : cu ≤ mc) (hs1 : su ≤ ms) (hq : Q (Sum.inr E) mem) : zkX l G i (zkKm G d mc ms Q) cu su pc ls E mem := by
  intro p e s m args below meth c C H locs a q ce rest hP hS hl hce hcv hcl
  obtain ⟨hx, hb, hr, hml, hown, hts, hF, hlk, htab, hlt, hok, -⟩ := id C
  refine vx_out (by rw [htab, hH]; intro x h; cases h) hlk hce hcv hcl (fun t ht _ => zk_xc hq hP hS (by rw [ht]; exact Nat.le_refl _) (fun q _ => by rw [ht])) hS.2.2 hc1 hs1
end ZTHROW
/-- it is caught by a row of the method's own table -/
theorem x_catch {l : Launch} {G : zkG} {i : zkI} {K : zkK} {cu su pc : Nat} {ls : List (Option zkV)} {mem : zkM} {E : String} {A B : List (Nat × Nat × Nat × Nat)} {s0 e0 hp ct : Nat} (hsp : iH i = A ++ (s0, e0, hp, ct) :: B) (hcv : covers ⟨s0, e0, hp, ct⟩ pc = true) (h0 : ct ≠ 0) (hE : E ∈ zkEx) (hl0 : Cond.classLink (zkR (iO i)) ct E ∈ zkGw)
    (hA : ∀ z ∈ A, z.2.2.2 ≠ 0 ∧ ∃ nm ∈ zkEx, E ≠ nm ∧ Cond.classLink (zkR (iO i)) z.2.2.2 nm ∈ zkGw) (k : ∀ q : Nat, zkW l G i K cu su hp ls [vv (.ref q)] mem) : zkX l G i K cu su pc ls E mem := by
  intro p e s m args below meth c C H locs a q ce rest hP hS hl hce hcv2 hcl
  obtain ⟨hx, hb, hr, hml, hown, hts, hF, hlk, htab, hlt, hok, -⟩ := id C
  obtain ⟨-, -, -, -, -, -, -, -, -, hNc, hCs⟩ := hF
  refine vx_catch (name := E) hown (tableOf A) ⟨s0, e0, hp, ct⟩ (tableOf B) ?_ ?_ hcv h0 (hts _ hl0) (zkCs_use hCs hE args) hce hcv2 hcl (k q p e s m args below meth c C H locs a hP hS hl)
  · rw [htab, hsp]
    unfold tableOf
    rw [List.map_append, List.map_cons]
  · intro z hz
    obtain ⟨y, hy, rfl⟩ := List.mem_map.mp hz
    obtain ⟨h1, nm, h2, h3, h4⟩ := hA y hy
    exact Or.inr ⟨h1, nm, hts _ h4, hNc E hE nm h2 h3⟩
/-! Math, arraycopy -/
theorem zkMath : zkIn (.static Lib.Math.max.name) && zkIn (.initialized "java/lang/Math") && zkIn (.code Lib.Math.max.name Lib.Math.max.code 2 (some .int)) && zkIn (.static Lib.Math.min.name) && zkIn (.code Lib.Math.min.name Lib.Math.min.code 2 (some .int)) && zkIn (.native arraycopyName) && zkIn (.static arraycopyName) && zkIn (.initialized "java/lang/System") = true := by decide +kernel
section ZJDK
variable {l : Launch} {G : zkG} {i : zkI} {K : zkK} {cu su pc nx : Nat} {ls : List (Option zkV)} {st : List zkV} {mem : zkM}
theorem m_max {idx : Nat} {x y : Int} (hd : (iT i).lookup pc = some (.invokestatic idx, nx)) (hn : nx = pc + 3) (hk : zkIn (.methodLink (zkR (iO i)) idx Lib.Math.max.name) = true) (hx0 : inR x) (hy0 : inR y) (hf : 1 ≤ K.1.frames) (hw : (st.map catV).sum + 13 ≤ K.1.locals) (h1 : cu ≤ K.1.cells) (h2 : su ≤ K.1.slots) (k : zkW l G i K cu su nx ls (vi (max x y) :: st) mem) : zkW l G i K cu su pc ls (vi y :: vi x :: st) mem := by
  intro p e s m args below meth c C H locs a hP hS hl
  subst hn
  obtain ⟨hx, hb, hr, hml, hown, hts, -⟩ := id C
  have hm := zkMath
  simp only [Bool.and_eq_true] at hm
  obtain ⟨⟨⟨⟨⟨⟨⟨m1, m2⟩, m3⟩, m4⟩, m5⟩, m6⟩, m7⟩, m8⟩ := hm
  have hq := k p e s m args below meth c C H locs a hP hS hl
  have e1 : tau G (vi (max x y)) = .int (if Int32.ofInt x < Int32.ofInt y then Int32.ofInt y else Int32.ofInt x) := by
    show Value.int (Int32.ofInt (max x y)) = _
    by_cases h : x < y
    · rw [if_pos ((i32_lt hx0 hy0).mpr h), Int.max_eq_right (Int.le_of_lt h)]
    · rw [if_neg (fun q => h ((i32_lt hx0 hy0).mp q)), Int.max_eq_left (by omega)]
  rw [List.map_cons, e1] at hq
  exact va_mmax hx hb (hml.trans hl.1.symm) hown (hts _ (zkIn_use hk)) (hts _ (zkIn_use m1)) (hts _ (zkIn_use m2)) (hts _ (zkIn_use m3)) hf (by rw [zk_wsum]; exact hw) h1 h2 (zkC_dec C hd rfl) hq
theorem m_min {idx : Nat} {x y : Int} (hd : (iT i).lookup pc = some (.invokestatic idx, nx)) (hn : nx = pc + 3) (hk : zkIn (.methodLink (zkR (iO i)) idx Lib.Math.min.name) = true) (hx0 : inR x) (hy0 : inR y) (hf : 1 ≤ K.1.frames) (hw : (st.map catV).sum + 13 ≤ K.1.locals) (h1 : cu ≤ K.1.cells) (h2 : su ≤ K.1.slots) (k : zkW l G i K cu su nx ls (vi (min x y) :: st) mem) : zkW l G i K cu su pc ls (vi y :: vi x :: st) mem := by
  intro p e s m args below meth c C H locs a hP hS hl
  subst hn
  obtain ⟨hx, hb, hr, hml, hown, hts, -⟩ := id C
  have hm := zkMath
  simp only [Bool.and_eq_true] at hm
  obtain ⟨⟨⟨⟨⟨⟨⟨m1, m2⟩, m3⟩, m4⟩, m5⟩, m6⟩, m7⟩, m8⟩ := hm
  have hq := k p e s m args below meth c C H locs a hP hS hl
  have e1 : tau G (vi (min x y)) = .int (if Int32.ofInt y < Int32.ofInt x then Int32.ofInt y else Int32.ofInt x) := by
    show Value.int (Int32.ofInt (min x y)) = _
    by_cases h : y < x
    · rw [if_pos ((i32_lt hy0 hx0).mpr h), Int.min_eq_right (Int.le_of_lt h)]
    · rw [if_neg (fun q => h ((i32_lt hy0 hx0).mp q)), Int.min_eq_left (by omega)]
  rw [List.map_cons, e1] at hq
  exact va_mmin hx hb (hml.trans hl.1.symm) hown (hts _ (zkIn_use hk)) (hts _ (zkIn_use m4)) (hts _ (zkIn_use m2)) (hts _ (zkIn_use m5)) hf (by rw [zk_wsum]; exact hw) h1 h2 (zkC_dec C hd rfl) hq
/-- a whole row is copied onto another of its kind -/
theorem m_acopy {idx t j j2 : Nat} (hd : (iT i).lookup pc = some (.invokestatic idx, nx)) (hn : nx = pc + 3) (hk : zkIn (.methodLink (zkR (iO i)) idx arraycopyName) = true) (h8 : 8 ≤ t) (hka : akd t = 0) (hj : j < cnt t) (hj2 : j2 < cnt t) (hf : 1 ≤ K.1.frames) (hw : (st.map catV).sum + (nativeFrameWords "java/lang/System" "arraycopy" 5 + 11) ≤ K.1.locals)
    (k : zkW l G i K cu su nx ls st (mrow mem t j2 (fun x => if x < aln t then mem t j x else mem t j2 x))) : zkW l G i K cu su pc ls (vi (aln t) :: vi 0 :: vr t j2 :: vi 0 :: vr t j :: st) mem := by
  intro p e s m args below meth c C H locs a hP hS hl
  subst hn
  obtain ⟨hx, hb, hr, hml, hown, hts, hF, -⟩ := id C
  have hm := zkMath
  simp only [Bool.and_eq_true] at hm
  obtain ⟨⟨⟨⟨⟨⟨⟨m1, m2⟩, m3⟩, m4⟩, m5⟩, m6⟩, m7⟩, m8⟩ := hm
  obtain ⟨q0, hq0, he0⟩ := wl_at G mem hj
  obtain ⟨q1, hq1, he1⟩ := wl_at G mem hj2
  rw [zkE_ari h8 (Or.inl hka), hka] at he0 he1
  have hl2 := aln_lt t
  have c0 : (Int32.ofInt 0).toNatClampNeg = 0 := zk_cl (by decide) (by decide)
  have cn : (Int32.ofInt (aln t : Int)).toNatClampNeg = aln t := by rw [zk_cl (by omega) (by omega)]; omega
  have n0 : ¬ Int32.ofInt 0 < 0 := by decide
  have nn : ¬ Int32.ofInt (aln t : Int) < 0 := by
    rw [i32_0, i32_lt ⟨by omega, by omega⟩ inR_0]
    omega
  refine va_copyi hx hb (hml.trans hl.1.symm) hown (hts _ (zkIn_use hk)) (hts _ (zkIn_use m6)) (hts _ (zkIn_use m7)) (hts _ (zkIn_use m8)) hF.2.2.1 hP (wl_D hF.1 mem _) hS q0 q1 0 0 he0 he1 rfl rfl rfl n0 n0 nn (by rw [c0, cn]; omega) (by rw [c0, cn]; omega) (fun _ _ => rfl) hf (by rw [zk_wsum]; exact hw) (zkC_dec C hd rfl) (fun H1 locs1 hP1 _ hS1 => k p e s m args below meth c C H1 locs1 a ?_ hS1 hl)
  rw [c0, cn] at hP1
  have e0 : va_cpy (fun y => Int32.ofInt (mem t j y)) (fun y => Int32.ofInt (mem t j2 y)) 0 0 (aln t) = fun y => Int32.ofInt (mrow mem t j2 (fun x => if x < aln t then mem t j x else mem t j2 x) t j2 y) := by
    funext y
    unfold va_cpy mrow
    by_cases e : y < aln t <;> simp [e]
  rw [e0] at hP1
  have e1 := wl_set (G := G) (m := mem) (m' := mrow mem t j2 (fun x => if x < aln t then mem t j x else mem t j2 x)) hq1 (fun u hu hne => zkE_off (fun k' => mrow_off hne k'))
  rw [zkE_ari h8 (Or.inl hka), hka] at e1
  exact e1 ▸ hP1
end ZJDK
