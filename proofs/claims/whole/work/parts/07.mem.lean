/-! fields and arrays -/
/-- the links of fields: 1000 * own + index, the tag, the field, the word's place, whether by nest -/
def zkFT : List (Nat × Nat × Nat × Nat × Bool) := [(4009, 4, 0, 156, false), (4015, 4, 1, 157, false), (4041, 4, 2, 158, false), (4018, 4, 3, 159, false), (51, 4, 3, 160, true), (8079, 4, 3, 161, true), (6281, 4, 3, 162, true), (4022, 4, 4, 163, false), (8083, 4, 4, 164, true), (148, 4, 4, 165, true), (4026, 4, 5, 166, false), (8073, 4, 5, 167, true), (4029, 4, 6, 168, false), (8078, 4, 6, 169, true), (4035, 4, 7, 170, false), (6207, 4, 7, 171, true), (4038, 4, 8, 172, false), (4044, 4, 9, 173, false), (4047, 4, 10, 174, false), (3009, 3, 0, 205, false), (3015, 3, 1, 206, false), (3018, 3, 2, 207, false), (3021, 3, 3, 208, false), (6226, 3, 3, 209, true), (3024, 3, 4, 210, false), (6219, 3, 4, 211, true), (1009, 1, 0, 234, false), (1015, 1, 1, 235, false), (1019, 1, 2, 236, false), (5009, 5, 0, 244, false), (8039, 5, 0, 245, true), (5015, 5, 1, 246, false), (8046, 5, 1, 247, true), (5021, 5, 2, 248, false), (149, 5, 2, 249, true), (6169, 5, 2, 250, true), (5025, 5, 3, 251, false), (168, 5, 3, 252, true), (6192, 5, 3, 253, true), (5028, 5, 4, 254, false), (8019, 5, 4, 255, true), (79, 5, 4, 256, true), (5032, 5, 5, 257, false), (8059, 5, 5, 258, true), (5035, 5, 6, 259, false), (8094, 5, 6, 260, true), (5038, 5, 7, 261, false), (5041, 5, 8, 262, false), (8036, 5, 8, 263, true), (85, 5, 8, 264, true), (6272, 5, 8, 265, true), (5044, 5, 9, 266, false), (8053, 5, 9, 267, true), (5053, 5, 10, 268, false), (5056, 5, 11, 269, false), (5060, 5, 12, 270, false), (5063, 5, 13, 271, false), (5066, 5, 14, 272, false), (6200, 5, 14, 273, true), (11, 0, 0, 305, false), (8015, 0, 0, 306, true), (6268, 0, 0, 307, true), (20, 0, 1, 308, false), (8069, 0, 1, 309, true), (6277, 0, 1, 310, true), (27, 0, 2, 311, false), (6215, 0, 2, 312, true), (31, 0, 3, 313, false), (8043, 0, 3, 314, true), (6112, 0, 3, 315, true), (35, 0, 4, 316, false), (6166, 0, 4, 317, true), (39, 0, 5, 318, false), (8009, 0, 5, 319, true), (6098, 0, 5, 320, true), (58, 0, 6, 321, false), (61, 0, 7, 322, false), (6150, 0, 7, 323, true), (2009, 2, 0, 347, false), (2015, 2, 1, 348, false), (2019, 2, 2, 349, false), (2027, 2, 3, 350, false), (2034, 2, 4, 351, false), (6083, 2, 4, 352, true), (6010, 6, 0, 365, false), (6016, 6, 1, 366, false), (6022, 6, 2, 367, false), (6240, 6, 3, 368, false), (6026, 6, 4, 369, false), (7066, 7, 0, 1192, false), (7101, 7, 1, 1193, false), (7072, 7, 2, 1194, false), (7007, 7, 3, 1195, false), (7013, 7, 4, 1196, false), (7016, 7, 5, 1197, false), (7069, 7, 6, 1198, false), (7086, 7, 7, 1199, false), (7128, 7, 8, 1200, false), (7104, 7, 9, 1201, false), (7019, 7, 10, 1202, false), (7083, 7, 11, 1203, false), (7022, 7, 12, 1204, false), (7025, 7, 13, 1205, false), (7028, 7, 14, 1206, false), (7031, 7, 15, 1207, false), (7034, 7, 16, 1208, false), (7037, 7, 17, 1209, false), (7040, 7, 18, 1210, false), (7089, 7, 19, 1211, false), (7092, 7, 20, 1212, false), (7183, 7, 21, 1213, false), (7095, 7, 22, 1214, false), (7043, 7, 23, 1215, false), (7046, 7, 24, 1216, false), (7049, 7, 25, 1217, false), (7098, 7, 26, 1218, false), (7052, 7, 27, 1219, false), (7218, 7, 28, 1220, false), (7224, 7, 29, 1221, false), (7221, 7, 30, 1222, false), (7227, 7, 31, 1223, false), (7056, 7, 32, 1224, false), (7060, 7, 33, 1225, false), (7290, 7, 34, 1226, false), (7063, 7, 35, 1227, false), (7280, 7, 36, 1228, false), (7276, 7, 37, 1229, false)]
def zkFw (q : Nat × Nat × Nat × Nat × Bool) : Cond := if q.2.2.2.2 then .fieldLinkNest (zkR (q.1 / 1000)) (q.1 % 1000) (zkR q.2.1) (zkT q.2.1 q.2.2.1).2.1 (zkT q.2.1 q.2.2.1).2.2.1 RX7 else .fieldLink (zkR (q.1 / 1000)) (q.1 % 1000) (zkR q.2.1) (zkT q.2.1 q.2.2.1).2.1 (zkT q.2.1 q.2.2.1).2.2.1
theorem zkFT_ok : zkFT.all (fun q => decide (q.2.2.1 < nfl q.2.1) && decide ((zkT q.2.1 q.2.2.1).1 = zkR q.2.1) && decide (lw_tbl[q.2.2.2.1]? = some (zkFw q)) && (if q.2.2.2.2 then zkNest (zkFw q) else goodWord (zkFw q))) = true := by decide +kernel
def zkLy : List (List Nat) := [[324, 326, 328, 330, 332, 334, 336, 338], [237, 239, 241], [353, 355, 357, 359, 361], [212, 214, 216, 218, 220], [175, 177, 179, 181, 183, 185, 187, 189, 191, 193, 195], [274, 276, 278, 280, 282, 284, 286, 288, 290, 292, 294, 296, 298, 300, 302], [370, 372, 374, 376, 378], [1230, 1232, 1234, 1236, 1238, 1240, 1242, 1244, 1246, 1248, 1250, 1252, 1254, 1256, 1258, 1260, 1262, 1264, 1266, 1268, 1270, 1272, 1274, 1276, 1278, 1280, 1282, 1284, 1286, 1288, 1290, 1292, 1294, 1296, 1298, 1300, 1302, 1304]]
theorem zkLy_ok : (List.range 8).all (fun t => (List.range (nfl t)).all (fun k => decide (lw_tbl[(zkLy.getD t []).getD k 0]? = some (u_lay (zkR t) (zkT t) k)) && goodWord (u_lay (zkR t) (zkT t) k))) = true := by decide +kernel
theorem zkLays {t : Nat} (h : t < 8) : ∀ w ∈ u_ws (zkR t) (zkT t) (nfl t), w ∈ zkGw := by
  intro w hw
  obtain ⟨k, hk, rfl⟩ := List.mem_map.mp hw
  have h1 := List.all_eq_true.mp zkLy_ok t (List.mem_range.mpr h)
  have h2 := List.all_eq_true.mp h1 k hk
  simp only [Bool.and_eq_true, decide_eq_true_eq] at h2
  exact zkGw_in _ h2.1 h2.2
def zkFl (o idx : Nat) : Option (Nat × Nat) := (zkFT.lookup (1000 * o + idx)).map (fun q => (q.1, q.2.1))
theorem zkFl_spec {o idx t k : Nat} (hi : idx < 1000) (h : zkFl o idx = some (t, k)) : k < nfl t ∧ (zkT t k).1 = zkR t ∧ (Cond.fieldLink (zkR o) idx (zkR t) (zkT t k).2.1 (zkT t k).2.2.1 ∈ zkGw ∨ Cond.fieldLinkNest (zkR o) idx (zkR t) (zkT t k).2.1 (zkT t k).2.2.1 RX7 ∈ zkNw) := by
  unfold zkFl at h
  obtain ⟨q, hq, he⟩ := Option.map_eq_some_iff.mp h
  obtain ⟨t', k', pl, b⟩ := q
  cases he
  have h1 := List.all_eq_true.mp zkFT_ok _ (zk_lk hq)
  simp only [Bool.and_eq_true, decide_eq_true_eq] at h1
  obtain ⟨⟨⟨a1, a2⟩, a3⟩, a4⟩ := h1
  refine ⟨a1, a2, ?_⟩
  have e1 : (1000 * o + idx) / 1000 = o := by omega
  have e2 : (1000 * o + idx) % 1000 = idx := by omega
  cases b with
  | true =>
    right
    simp only [zkFw, e1, e2, if_true] at a3 a4
    exact zkNw_in _ a3 a4
  | false =>
    left
    simp only [zkFw, e1, e2, Bool.false_eq_true, if_false] at a3 a4
    exact zkGw_in _ a3 a4
theorem zkE_obj {G : zkG} {m : zkM} {t j : Nat} (h : t < 8) : zkE G m (t, j) = Sum.inr (t, (List.range (nfl t)).map (fun k => zkF G m t j k)) := by
  unfold zkE
  rw [if_pos h]
theorem zk_rset {α : Type} {n k : Nat} {f g : Nat → α} (h : ∀ j, j ≠ k → g j = f j) : ((List.range n).map f).set k (g k) = (List.range n).map g := by
  apply List.ext_getElem?
  intro j
  rw [List.getElem?_set]
  by_cases e : k = j
  · subst e
    rw [if_pos rfl]
    split
    · next h1 =>
      rw [List.length_map, List.length_range] at h1
      rw [List.getElem?_map, List.getElem?_range h1]
      rfl
    · next h1 =>
      rw [List.length_map, List.length_range] at h1
      rw [List.getElem?_eq_none]
      rw [List.length_map, List.length_range]; omega
  · rw [if_neg e, List.getElem?_map, List.getElem?_map]
    by_cases h1 : j < n
    · rw [List.getElem?_range h1]
      exact congrArg some (h j (fun q => e q.symm)).symm
    · rw [List.getElem?_eq_none (by rw [List.length_range]; omega)]
      rfl
theorem zkE_mset {G : zkG} {m : zkM} {t j k : Nat} {x : Int} (h : t < 8) (hr : rfo t j k = none) : zkE G (mset m t j k x) (t, j) = Sum.inr (t, ((List.range (nfl t)).map (fun k => zkF G m t j k)).set k (.int (Int32.ofInt x))) := by
  rw [zkE_obj h]
  have e1 : zkF G (mset m t j k x) t j k = .int (Int32.ofInt x) := by
    unfold zkF
    rw [hr]
    simp only [mset_s]
  rw [← e1, zk_rset (g := fun k' => zkF G (mset m t j k x) t j k')]
  intro j' hj
  unfold zkF
  cases rfo t j j' with
  | some q => rfl
  | none => simp [mset, hj]
theorem zk_same {s : State} {a b c : String} (h : a = b) : ∀ x, s.fieldFound? a c b = some x → s.fieldFound? a c b = some x := fun _ q => q
section ZMEM
variable {l : Launch} {G : zkG} {i : zkI} {K : zkK} {cu su pc nx : Nat} {ls : List (Option zkV)} {st : List zkV} {mem : zkM}
theorem m_gv {t j k idx : Nat} (hd : (iT i).lookup pc = some (.getfield idx, nx)) (hn : nx = pc + 3) (hi : idx < 1000) (hf : zkFl (iO i) idx = some (t, k)) (hj : j < cnt t) {v : zkV} (hv : zkF G mem t j k = tau G v) (kk : zkW l G i K cu su nx ls (v :: st) mem) : zkW l G i K cu su pc ls (vr t j :: st) mem := by
  intro p e s m args below meth c C H locs a hP hS hl
  subst hn
  have hq := kk p e s m args below meth c C H locs a hP hS hl
  obtain ⟨h1, h2, h3⟩ := zkFl_spec hi hf
  have ht := nfl_pos h1
  obtain ⟨q0, -, he⟩ := wl_at G mem hj
  rw [zkE_obj ht] at he
  have hfs : ((List.range (nfl t)).map (fun k => zkF G mem t j k))[k]? = some (tau G v) := by
    rw [List.getElem?_map, List.getElem?_range h1, ← hv]
    rfl
  have hsame : ∀ x, s.fieldFound? (zkT t k).1 (zkT t k).2.1 (zkT t k).2.2.1 = some x → s.fieldFound? (zkR t) (zkT t k).2.1 (zkT t k).2.2.1 = some x := fun x hx => by rw [← h2]; exact hx
  obtain ⟨hx, hb, hr, hml, hown, hts, hF, -⟩ := id C
  obtain ⟨-, hN, hK, -⟩ := hF
  rcases h3 with h3 | h3
  · exact va_get hx hb hts (zkLays ht) hown hK hP q0 he (zkCl_at ht) k h1 (hts _ h3) hsame hfs (zkC_dec C hd rfl) hq
  · exact va_getN hx hb hts (zkLays ht) hown hK hP q0 he (zkCl_at ht) k h1 (va_Nw.use rfl (hN _ h3)) hsame hfs (zkC_dec C hd rfl) hq
theorem m_gi {t j k idx : Nat} (hd : (iT i).lookup pc = some (.getfield idx, nx)) (hn : nx = pc + 3) (hi : idx < 1000) (hf : zkFl (iO i) idx = some (t, k)) (hr : rfo t j k = none) (hj : j < cnt t) (kk : zkW l G i K cu su nx ls (vi (mem t j k) :: st) mem) : zkW l G i K cu su pc ls (vr t j :: st) mem :=
  m_gv hd hn hi hf hj (by unfold zkF; rw [hr]; rfl) kk
theorem m_gr {t j k idx t2 j2 : Nat} (hd : (iT i).lookup pc = some (.getfield idx, nx)) (hn : nx = pc + 3) (hi : idx < 1000) (hf : zkFl (iO i) idx = some (t, k)) (hr : rfo t j k = some (t2, j2)) (hj : j < cnt t) (kk : zkW l G i K cu su nx ls (vr t2 j2 :: st) mem) : zkW l G i K cu su pc ls (vr t j :: st) mem :=
  m_gv hd hn hi hf hj (by unfold zkF; rw [hr]; rfl) kk
theorem m_pv {t j k idx : Nat} {x : Int} (hd : (iT i).lookup pc = some (.putfield idx, nx)) (hn : nx = pc + 3) (hi : idx < 1000) (hf : zkFl (iO i) idx = some (t, k)) (hr : rfo t j k = none) (hfin : (zkT t k).2.2.2 = false) (hj : j < cnt t) (hna : narrow (zkty t k) (.int (Int32.ofInt x)) = .int (Int32.ofInt x)) (hfi : fits (zkty t k) (.int (Int32.ofInt x)) = true) (kk : zkW l G i K cu su nx ls st (mset mem t j k x)) : zkW l G i K cu su pc ls (vi x :: vr t j :: st) mem := by
  intro p e s m args below meth c C H locs a hP hS hl
  subst hn
  obtain ⟨h1, h2, h3⟩ := zkFl_spec hi hf
  have ht := nfl_pos h1
  obtain ⟨q0, hq0, he⟩ := wl_at G mem hj
  rw [zkE_obj ht] at he
  have hsame : ∀ x, s.fieldFound? (zkT t k).1 (zkT t k).2.1 (zkT t k).2.2.1 = some x → s.fieldFound? (zkR t) (zkT t k).2.1 (zkT t k).2.2.1 = some x := fun x hx => by rw [← h2]; exact hx
  obtain ⟨hx, hb, -, hml, hown, hts, hF, -⟩ := id C
  obtain ⟨hJ, hN, hK, -⟩ := hF
  have hset : (wl G mem).set q0 (ga G (t, j), Sum.inr (t, ((List.range (nfl t)).map (fun k => zkF G mem t j k)).set k (.int (Int32.ofInt x)))) = wl G (mset mem t j k x) := by
    rw [← zkE_mset ht hr]
    exact wl_set hq0 (fun u hu hne => zkE_off (fun k' => mset_off hne k'))
  have hlen : k < ((List.range (nfl t)).map (fun k => zkF G mem t j k)).length := by rw [List.length_map, List.length_range]; exact h1
  rcases h3 with h3 | h3
  · exact va_put hx hb hts (zkLays ht) (zkty t) (zkTy_ok ht) (zkNm ht) hown hK hP (wl_D hJ mem _) hS q0 he (zkCl_at ht) k h1 (hts _ h3) hsame hfin (zkTy_ok ht k h1) hna hfi hlen (zkC_dec C hd rfl) (fun H1 locs1 hP1 _ hS1 => kk p e s m args below meth c C H1 locs1 a (hset ▸ hP1) hS1 hl)
  · exact va_putN hx hb hts (zkLays ht) (zkty t) (zkTy_ok ht) (zkNm ht) hown hK hP (wl_D hJ mem _) hS q0 he (zkCl_at ht) k h1 (va_Nw.use rfl (hN _ h3)) hsame hfin (zkTy_ok ht k h1) hna hfi hlen (zkC_dec C hd rfl) (fun H1 locs1 hP1 _ hS1 => kk p e s m args below meth c C H1 locs1 a (hset ▸ hP1) hS1 hl)
theorem m_pi {t j k idx : Nat} {x : Int} (hd : (iT i).lookup pc = some (.putfield idx, nx)) (hn : nx = pc + 3) (hi : idx < 1000) (hf : zkFl (iO i) idx = some (t, k)) (hr : rfo t j k = none) (hfin : (zkT t k).2.2.2 = false) (hty : zkty t k = .int) (hj : j < cnt t) (kk : zkW l G i K cu su nx ls st (mset mem t j k x)) : zkW l G i K cu su pc ls (vi x :: vr t j :: st) mem :=
  m_pv hd hn hi hf hr hfin hj (by rw [hty]; rfl) (by rw [hty]; rfl) kk
theorem zk_nb (b : Bool) : narrow .boolean (.int (Int32.ofInt (b2i b))) = .int (Int32.ofInt (b2i b)) ∧ fits .boolean (.int (Int32.ofInt (b2i b))) = true := by
  cases b <;> exact ⟨by decide +kernel, by decide +kernel⟩
theorem m_pz {t j k idx : Nat} {b : Bool} (hd : (iT i).lookup pc = some (.putfield idx, nx)) (hn : nx = pc + 3) (hi : idx < 1000) (hf : zkFl (iO i) idx = some (t, k)) (hr : rfo t j k = none) (hfin : (zkT t k).2.2.2 = false) (hty : zkty t k = .boolean) (hj : j < cnt t) (kk : zkW l G i K cu su nx ls st (mset mem t j k (b2i b))) : zkW l G i K cu su pc ls (vi (b2i b) :: vr t j :: st) mem :=
  m_pv hd hn hi hf hr hfin hj (by rw [hty]; exact (zk_nb b).1) (by rw [hty]; exact (zk_nb b).2) kk
/-! arrays -/
theorem zk_in {x : Int} {n : Nat} (h0 : 0 ≤ x) (h1 : x < n) (hn : n < 2147483648) : vp_in (Int32.ofInt x) n := by
  have hx : inR x := ⟨by omega, by omega⟩
  rw [vp_in_iff, i32_toInt hx]
  exact ⟨h0, h1⟩
theorem zk_cl {x : Int} (h0 : 0 ≤ x) (h1 : x < 2147483648) : (Int32.ofInt x).toNatClampNeg = x.toNat := by
  have hx : inR x := ⟨by omega, h1⟩
  show (Int32.ofInt x).toInt.toNat = x.toNat
  rw [i32_toInt hx]
theorem aln_lt (t : Nat) : aln t < 2147483648 := by
  unfold aln
  split <;> omega
theorem zkE_ari {G : zkG} {m : zkM} {t j : Nat} (h : 8 ≤ t) (hk : akd t = 0 ∨ akd t = 1) : zkE G m (t, j) = Sum.inl (gA G (akd t), (aln t, Sum.inl (fun x => Int32.ofInt (m t j x)))) := by
  unfold zkE
  rw [if_neg (by show ¬ t < 8; omega)]
  rcases hk with hk | hk <;> simp only [hk]
theorem zkTy_at (G : zkG) {k : Nat} (h : k < 5) : (zkTy G)[k]? = some (gA G k, [FieldType.int, .char, .object "CeilingWorkbench$Task", .long, .double].getD k .int) := by
  rcases (show k = 0 ∨ k = 1 ∨ k = 2 ∨ k = 3 ∨ k = 4 by omega) with rfl | rfl | rfl | rfl | rfl <;> rfl
theorem zk_upd {m : zkM} {t j k : Nat} {x : Int} : upd (fun y => Int32.ofInt (m t j y)) k (Int32.ofInt x) = fun y => Int32.ofInt (mset m t j k x t j y) := by
  funext y
  unfold upd mset
  by_cases e : y = k
  · simp [e]
  · simp [e]
theorem zk_seti {G : zkG} {m : zkM} {q0 t j k : Nat} {x : Int} (h : 8 ≤ t) (hk : akd t = 0 ∨ akd t = 1) (hq : zkL[q0]? = some (t, j)) : (wl G m).set q0 (ga G (t, j), Sum.inl (gA G (akd t), (aln t, Sum.inl (upd (fun y => Int32.ofInt (m t j y)) k (Int32.ofInt x))))) = wl G (mset m t j k x) := by
  rw [zk_upd, ← zkE_ari (G := G) (m := mset m t j k x) h hk]
  exact wl_set hq (fun u hu hne => zkE_off (fun k' => mset_off hne k'))
theorem m_iald {t j : Nat} {x : Int} (hd : (iT i).lookup pc = some (.iaload, nx)) (hn : nx = pc + 1) (h8 : 8 ≤ t) (hk : akd t = 0) (hj : j < cnt t) (h0 : 0 ≤ x) (h1 : x < aln t) (kk : zkW l G i K cu su nx ls (vi (mem t j x.toNat) :: st) mem) : zkW l G i K cu su pc ls (vi x :: vr t j :: st) mem := by
  intro p e s m args below meth c C H locs a hP hS hl
  subst hn
  have hq := kk p e s m args below meth c C H locs a hP hS hl
  obtain ⟨q0, hq0, he⟩ := wl_at G mem hj
  rw [zkE_ari h8 (Or.inl hk), hk] at he
  have hl2 := aln_lt t
  refine va_iald C.1 C.2.1 C.2.2.2.2.2.2.1.2.2.1 hP q0 0 he rfl (zk_in h0 h1 hl2) (zkC_dec C hd rfl) ?_
  rw [zk_cl h0 (by omega)]
  exact hq
theorem m_cald {t j : Nat} {x : Int} (hd : (iT i).lookup pc = some (.caload, nx)) (hn : nx = pc + 1) (h8 : 8 ≤ t) (hk : akd t = 1) (hj : j < cnt t) (h0 : 0 ≤ x) (h1 : x < aln t) (kk : zkW l G i K cu su nx ls (vi (mem t j x.toNat) :: st) mem) : zkW l G i K cu su pc ls (vi x :: vr t j :: st) mem := by
  intro p e s m args below meth c C H locs a hP hS hl
  subst hn
  have hq := kk p e s m args below meth c C H locs a hP hS hl
  obtain ⟨q0, hq0, he⟩ := wl_at G mem hj
  rw [zkE_ari h8 (Or.inr hk), hk] at he
  have hl2 := aln_lt t
  refine va_cald C.1 C.2.1 C.2.2.2.2.2.2.1.2.2.1 hP q0 1 he rfl (zk_in h0 h1 hl2) (zkC_dec C hd rfl) ?_
  rw [zk_cl h0 (by omega)]
  exact hq
theorem m_iast {t j : Nat} {x y : Int} (hd : (iT i).lookup pc = some (.iastore, nx)) (hn : nx = pc + 1) (h8 : 8 ≤ t) (hk : akd t = 0) (hj : j < cnt t) (h0 : 0 ≤ x) (h1 : x < aln t) (kk : zkW l G i K cu su nx ls st (mset mem t j x.toNat y)) : zkW l G i K cu su pc ls (vi y :: vi x :: vr t j :: st) mem := by
  intro p e s m args below meth c C H locs a hP hS hl
  subst hn
  obtain ⟨q0, hq0, he⟩ := wl_at G mem hj
  rw [zkE_ari h8 (Or.inl hk), hk] at he
  have hl2 := aln_lt t
  refine va_iast C.1 C.2.1 C.2.2.2.2.2.2.1.2.2.1 hP (wl_D C.2.2.2.2.2.2.1.1 mem _) hS q0 0 he rfl (zk_in h0 h1 hl2) (zkC_dec C hd rfl) (fun H1 locs1 hP1 _ hS1 => kk p e s m args below meth c C H1 locs1 a ?_ hS1 hl)
  rw [zk_cl h0 (by omega)] at hP1
  have e1 := zk_seti (G := G) (m := mem) (k := x.toNat) (x := y) h8 (Or.inl hk) hq0
  rw [hk] at e1
  exact e1 ▸ hP1
theorem m_cast {t j : Nat} {x y : Int} (hd : (iT i).lookup pc = some (.castore, nx)) (hn : nx = pc + 1) (h8 : 8 ≤ t) (hk : akd t = 1) (hj : j < cnt t) (h0 : 0 ≤ x) (h1 : x < aln t) (hy0 : 0 ≤ y) (hy1 : y < 65536) (kk : zkW l G i K cu su nx ls st (mset mem t j x.toNat y)) : zkW l G i K cu su pc ls (vi y :: vi x :: vr t j :: st) mem := by
  intro p e s m args below meth c C H locs a hP hS hl
  subst hn
  obtain ⟨q0, hq0, he⟩ := wl_at G mem hj
  rw [zkE_ari h8 (Or.inr hk), hk] at he
  have hl2 := aln_lt t
  refine va_cast C.1 C.2.1 C.2.2.2.2.2.2.1.2.2.1 hP (wl_D C.2.2.2.2.2.2.1.1 mem _) hS q0 1 he rfl (zk_in h0 h1 hl2) (zkC_dec C hd rfl) (fun H1 locs1 hP1 _ hS1 => kk p e s m args below meth c C H1 locs1 a ?_ hS1 hl)
  have e2 : vp_nar .char (Int32.ofInt y) = Int32.ofInt y := by
    obtain ⟨n, rfl⟩ : ∃ n : Nat, y = n := ⟨y.toNat, by omega⟩
    have h3 := (pk_charN (q := n) (by omega)).1
    unfold vp_nar
    rw [show Int32.ofInt (n : Int) = nI n from rfl, h3]
  rw [zk_cl h0 (by omega), e2] at hP1
  have e1 := zk_seti (G := G) (m := mem) (k := x.toNat) (x := y) h8 (Or.inr hk) hq0
  rw [hk] at e1
  exact e1 ▸ hP1
theorem m_aald {j : Nat} {x : Int} (hd : (iT i).lookup pc = some (.aaload, nx)) (hn : nx = pc + 1) (hj : j < 2) (h0 : 0 ≤ x) (h1 : x < 5) (kk : zkW l G i K cu su nx ls (vr 5 (5 * j + x.toNat) :: st) mem) : zkW l G i K cu su pc ls (vi x :: vr 10 j :: st) mem := by
  intro p e s m args below meth c C H locs a hP hS hl
  subst hn
  have hq := kk p e s m args below meth c C H locs a hP hS hl
  obtain ⟨q0, hq0, he⟩ := wl_at G mem (t := 10) hj
  refine va_aldq C.1 C.2.1 C.2.2.2.2.2.2.1.2.2.1 hP q0 2 he rfl (zk_in h0 h1 (aln_lt 10)) (zkC_dec C hd rfl) ?_
  rw [zk_cl h0 (by omega)]
  exact hq
theorem m_alen {t j : Nat} (hd : (iT i).lookup pc = some (.arraylength, nx)) (hn : nx = pc + 1) (h8 : 8 ≤ t) (hk : akd t = 0 ∨ akd t = 1) (hj : j < cnt t) (kk : zkW l G i K cu su nx ls (vi (aln t) :: st) mem) : zkW l G i K cu su pc ls (vr t j :: st) mem := by
  intro p e s m args below meth c C H locs a hP hS hl
  subst hn
  have hq := kk p e s m args below meth c C H locs a hP hS hl
  obtain ⟨q0, hq0, he⟩ := wl_at G mem hj
  rw [zkE_ari h8 hk] at he
  rcases hk with hk | hk
  · rw [hk] at he
    exact va_alen C.1 C.2.1 C.2.2.2.2.2.2.1.2.2.1 hP q0 0 he (ty := .int) rfl rfl (zkC_dec C hd rfl) hq
  · rw [hk] at he
    exact va_alen C.1 C.2.1 C.2.2.2.2.2.2.1.2.2.1 hP q0 1 he (ty := .char) rfl rfl (zkC_dec C hd rfl) hq
theorem m_lald (hd : (iT i).lookup pc = some (.laload, nx)) (hn : nx = pc + 1) (kk : zkW l G i K cu su nx ls (vl (mem 50 0 0) :: st) mem) : zkW l G i K cu su pc ls (vi 0 :: vr 50 0 :: st) mem := by
  intro p e s m args below meth c C H locs a hP hS hl
  subst hn
  have hq := kk p e s m args below meth c C H locs a hP hS hl
  obtain ⟨q0, hq0, he⟩ := wl_at G mem (t := 50) (i := 0) (by decide)
  refine va_lald C.1 C.2.1 C.2.2.2.2.2.2.1.2.2.1 hP q0 3 he rfl (zk_in (x := 0) (by decide) (by decide) (by decide)) (zkC_dec C hd rfl) ?_
  rw [zk_cl (by decide) (by decide)]
  exact hq
theorem m_dald (hd : (iT i).lookup pc = some (.daload, nx)) (hn : nx = pc + 1) (kk : zkW l G i K cu su nx ls (vd (UInt64.ofNat (mem 51 0 0).toNat) :: st) mem) : zkW l G i K cu su pc ls (vi 0 :: vr 51 0 :: st) mem := by
  intro p e s m args below meth c C H locs a hP hS hl
  subst hn
  have hq := kk p e s m args below meth c C H locs a hP hS hl
  obtain ⟨q0, hq0, he⟩ := wl_at G mem (t := 51) (i := 0) (by decide)
  refine va_dald C.1 C.2.1 C.2.2.2.2.2.2.1.2.2.1 hP q0 4 he rfl (zk_in (x := 0) (by decide) (by decide) (by decide)) (zkC_dec C hd rfl) ?_
  rw [zk_cl (by decide) (by decide)]
  exact hq
theorem m_last {y : Int} (hd : (iT i).lookup pc = some (.lastore, nx)) (hn : nx = pc + 1) (kk : zkW l G i K cu su nx ls st (mset mem 50 0 0 y)) : zkW l G i K cu su pc ls (vl y :: vi 0 :: vr 50 0 :: st) mem := by
  intro p e s m args below meth c C H locs a hP hS hl
  subst hn
  obtain ⟨q0, hq0, he⟩ := wl_at G mem (t := 50) (i := 0) (by decide)
  refine va_last C.1 C.2.1 C.2.2.2.2.2.2.1.2.2.1 hP (wl_D C.2.2.2.2.2.2.1.1 mem _) hS q0 3 he rfl (zk_in (x := 0) (by decide) (by decide) (by decide)) (zkC_dec C hd rfl) (fun H1 locs1 hP1 _ hS1 => kk p e s m args below meth c C H1 locs1 a ?_ hS1 hl)
  rw [zk_cl (by decide) (by decide)] at hP1
  have e0 : vp_updL (fun x => Int64.ofInt (mem 50 0 x)) 0 (Int64.ofInt y) = fun x => Int64.ofInt (mset mem 50 0 0 y 50 0 x) := by
    funext z
    unfold vp_updL mset
    by_cases e : z = 0 <;> simp [e]
  have e1 : (wl G mem).set q0 (ga G (50, 0), Sum.inl (gA G 3, (1, Sum.inr (Sum.inl (vp_updL (fun x => Int64.ofInt (mem 50 0 x)) 0 (Int64.ofInt y)))))) = wl G (mset mem 50 0 0 y) := by
    rw [e0]
    exact wl_set (m' := mset mem 50 0 0 y) hq0 (fun u hu hne => zkE_off (fun k' => mset_off hne k'))
  exact e1 ▸ hP1
theorem m_dast {y : UInt64} (hd : (iT i).lookup pc = some (.dastore, nx)) (hn : nx = pc + 1) (kk : zkW l G i K cu su nx ls st (mset mem 51 0 0 (y.toNat : Int))) : zkW l G i K cu su pc ls (vd y :: vi 0 :: vr 51 0 :: st) mem := by
  intro p e s m args below meth c C H locs a hP hS hl
  subst hn
  obtain ⟨q0, hq0, he⟩ := wl_at G mem (t := 51) (i := 0) (by decide)
  refine va_dast C.1 C.2.1 C.2.2.2.2.2.2.1.2.2.1 hP (wl_D C.2.2.2.2.2.2.1.1 mem _) hS q0 4 he rfl (zk_in (x := 0) (by decide) (by decide) (by decide)) (zkC_dec C hd rfl) (fun H1 locs1 hP1 _ hS1 => kk p e s m args below meth c C H1 locs1 a ?_ hS1 hl)
  rw [zk_cl (by decide) (by decide)] at hP1
  have e0 : vf_upd (fun x => UInt64.ofNat (mem 51 0 x).toNat) 0 y = fun x => UInt64.ofNat (mset mem 51 0 0 (y.toNat : Int) 51 0 x).toNat := by
    funext z
    unfold vf_upd mset
    by_cases e : z = 0 <;> simp [e]
  have e1 : (wl G mem).set q0 (ga G (51, 0), Sum.inl (gA G 4, (1, Sum.inr (Sum.inr (Sum.inr (Sum.inl (vf_upd (fun x => UInt64.ofNat (mem 51 0 x).toNat) 0 y))))))) = wl G (mset mem 51 0 0 (y.toNat : Int)) := by
    rw [e0]
    exact wl_set (m' := mset mem 51 0 0 (y.toNat : Int)) hq0 (fun u hu hne => zkE_off (fun k' => mset_off hne k'))
  exact e1 ▸ hP1
end ZMEM

