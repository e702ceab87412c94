/-! the law's calls, one by one (1) -/
def tbL_clear : List (Nat × Instr × Nat) := [(192, .aload_n 1, 193), (193, .invokevirtual 109, 196), (196, .aload_n 2, 197), (197, .invokevirtual 112, 200), (200, .if_icmp .eq 1652, 203)]
theorem okL_clear : zkOk (iLaw tbL_clear) := by unfold zkOk; decide +kernel
set_option maxRecDepth 10000 in
theorem lw_clear {l : Launch} {G : zkG} {b L j cu su : Nat} {xs : Nat → Int32} {mem : zkM} (hl : l.stackTraces = false) (hL : L ≤ 2560) (hj : 5 * j + 5 ≤ L) (hI : zInv mem) (hcu : cu + 3 ≤ 603072) (hsu : su + 18 ≤ 7186538) (kk : ∀ m2 : zkM, zInv m2 → zkW l G (iLaw []) (lw_K G b L xs) (cu + 3) (su + 18) 1852 (lsL b j none none none none) [] m2) : zkW l G (iLaw []) (lw_K G b L xs) cu su 192 (lsL b j none none none none) [] mem := by
  refine zkW_sub okL_clear ?_
  obtain ⟨T0, hT0⟩ := hI.1
  obtain ⟨hA, hP, h34, h16, h18, h07, hsn, h42, h22, h511, h48⟩ := pm_c hT0
  obtain ⟨nA, n9, n11, n36, n39, n34, n26, n43, n42⟩ := pm_m hT0
  have kf := fun m2 h => zkW_sub (T' := tbL_clear) ok_nil (kk m2 h)
  have hx := op_clear hI
  refine m_aload_n rfl rfl rfl ?_
  refine m_cv1 rfl rfl lk_9_109 (c_caClear hl hA.1 h34) (as := []) (st := []) rfl (Nat.le_of_ble_eq_true rfl) (Nat.le_of_ble_eq_true rfl) rfl rfl (Nat.le_of_ble_eq_true rfl) (Nat.le_of_ble_eq_true rfl) (Nat.le_of_ble_eq_true rfl) (show cu ≤ 603072 by omega) (show su ≤ 7186538 by omega) ?_
  refine m_aload_n rfl rfl rfl ?_
  refine m_cv1 rfl rfl lk_9_112 (c_moclear hl) (as := []) (st := _) rfl (Nat.le_of_ble_eq_true rfl) (Nat.le_of_ble_eq_true rfl) rfl rfl (Nat.le_of_ble_eq_true rfl) (Nat.le_of_ble_eq_true rfl) (Nat.le_of_ble_eq_true rfl) (show cu ≤ 603072 by omega) (show su ≤ 7186538 by omega) ?_
  exact lw_cmp2 rfl (by decide) hx.1 hx.2.1 (m_wid (cu' := cu + 3) (su' := su + 18) (by omega) (by omega) (kf _ hx.2.2))

def tbL_addTask : List (Nat × Instr × Nat) := [(205, .aload_n 1, 206), (206, .aload_n 0, 207), (207, .iload 5, 209), (209, .iconst 1, 210), (210, .iadd, 211), (211, .iaload, 212), (212, .aload_n 0, 213), (213, .iload 5, 215), (215, .iconst 2, 216), (216, .iadd, 217), (217, .iaload, 218), (218, .aload_n 0, 219), (219, .iload 5, 221), (221, .iconst 3, 222), (222, .iadd, 223), (223, .iaload, 224), (224, .aload_n 0, 225), (225, .iload 5, 227), (227, .iconst 4, 228), (228, .iadd, 229), (229, .iaload, 230), (230, .aload_n 3, 231), (231, .invokestatic 113, 234), (234, .istore 6, 236), (236, .aload_n 2, 237), (237, .aload_n 0, 238), (238, .iload 5, 240), (240, .iconst 1, 241), (241, .iadd, 242), (242, .iaload, 243), (243, .aload_n 0, 244), (244, .iload 5, 246), (246, .iconst 2, 247), (247, .iadd, 248), (248, .iaload, 249), (249, .aload_n 0, 250), (250, .iload 5, 252), (252, .iconst 3, 253), (253, .iadd, 254), (254, .iaload, 255), (255, .aload_n 0, 256), (256, .iload 5, 258), (258, .iconst 4, 259), (259, .iadd, 260), (260, .iaload, 261), (261, .invokevirtual 118, 264), (264, .istore 7, 266), (266, .aload_n 2, 267), (267, .invokevirtual 119, 270), (270, .iload 6, 272), (272, .if_icmp .eq 5, 275), (277, .iload 6, 279), (279, .ifCond .ne 15, 282), (282, .aload_n 3, 283), (283, .iconst 0, 284), (284, .laload, 285), (285, .iload 7, 287), (287, .i2l, 288), (288, .lcmp, 289), (289, .ifCond .eq 5, 292), (294, .goto 1558, 297)]
theorem okL_addTask : zkOk (iLaw tbL_addTask) := by unfold zkOk; decide +kernel
set_option maxRecDepth 10000 in
theorem lw_addTask {l : Launch} {G : zkG} {b L j cu su : Nat} {xs : Nat → Int32} {mem : zkM} (hl : l.stackTraces = false) (hL : L ≤ 2560) (hj : 5 * j + 5 ≤ L) (hI : zInv mem) (hcu : cu + 3 ≤ 603072) (hsu : su + 18 ≤ 7186538) (kk : ∀ m2 : zkM, zInv m2 → zkW l G (iLaw []) (lw_K G b L xs) (cu + 3) (su + 18) 1852 (lsL b j none none none none) [] m2) : zkW l G (iLaw []) (lw_K G b L xs) cu su 205 (lsL b j none none none none) [] mem := by
  refine zkW_sub okL_addTask ?_
  obtain ⟨T0, hT0⟩ := hI.1
  obtain ⟨hA, hP, h34, h16, h18, h07, hsn, h42, h22, h511, h48⟩ := pm_c hT0
  have r1 := i32_inR (xs (5 * j + 1))
  have r2 := i32_inR (xs (5 * j + 2))
  have r3 := i32_inR (xs (5 * j + 3))
  have r4 := i32_inR (xs (5 * j + 4))
  obtain ⟨g, c, hr, ho, hx1⟩ := op_addTask hI (xs (5 * j + 1)).toInt (xs (5 * j + 2)).toInt (xs (5 * j + 3)).toInt (xs (5 * j + 4)).toInt
  obtain ⟨h7, ha, hz, T1, hT1, hT2⟩ := ho
  obtain ⟨nA, n9, n11, n36, n39, n34, n26, n43, n42⟩ := pm_m hT2
  have kf := fun m2 h => zkW_sub (T' := tbL_addTask) ok_nil (kk m2 h)
  refine m_aload_n rfl rfl rfl ?_
  refine m_arg (j := j) (k := 1) ⟨rfl, rfl, rfl, rfl, rfl⟩ rfl rfl (by omega) hL ?_
  refine m_arg (j := j) (k := 2) ⟨rfl, rfl, rfl, rfl, rfl⟩ rfl rfl (by omega) hL ?_
  refine m_arg (j := j) (k := 3) ⟨rfl, rfl, rfl, rfl, rfl⟩ rfl rfl (by omega) hL ?_
  refine m_arg (j := j) (k := 4) ⟨rfl, rfl, rfl, rfl, rfl⟩ rfl rfl (by omega) hL ?_
  refine m_aload_n rfl rfl rfl ?_
  refine m_csw rfl rfl lk_9_113 (c_la_addTask hl (c_caAddTask hl hA.1 r1 r2 r3 r4 (fun i hi => (hP.2.1 i hi).2.2.2.1) (by unfold inR; omega) hA.2.2.2.1 hP.2.2.2 hx1) hr) (st := []) rfl rfl (Nat.le_of_ble_eq_true rfl) (Nat.le_of_ble_eq_true rfl) (Nat.le_of_ble_eq_true rfl) (show cu + 1 ≤ 603072 by omega) (show su + 6 ≤ 7186538 by omega) ?_
  refine m_istore rfl rfl (Nat.le_of_ble_eq_true rfl) rfl ?_
  refine m_aload_n rfl rfl rfl ?_
  refine m_arg (j := j) (k := 1) ⟨rfl, rfl, rfl, rfl, rfl⟩ rfl rfl (by omega) hL ?_
  refine m_arg (j := j) (k := 2) ⟨rfl, rfl, rfl, rfl, rfl⟩ rfl rfl (by omega) hL ?_
  refine m_arg (j := j) (k := 3) ⟨rfl, rfl, rfl, rfl, rfl⟩ rfl rfl (by omega) hL ?_
  refine m_arg (j := j) (k := 4) ⟨rfl, rfl, rfl, rfl, rfl⟩ rfl rfl (by omega) hL ?_
  refine m_cv1 rfl rfl lk_9_118 (c_moaddTask hl nA r1 r2 r3 r4 (by unfold inR; omega)) (st := []) rfl (Nat.le_of_ble_eq_true rfl) (Nat.le_of_ble_eq_true rfl) rfl rfl (Nat.le_of_ble_eq_true rfl) (Nat.le_of_ble_eq_true rfl) (Nat.le_of_ble_eq_true rfl) (show cu + 1 ≤ 603072 by omega) (show su + 6 ≤ 7186538 by omega) ?_
  exact lw_tail (off := 1558) hl ⟨rfl, rfl, rfl, rfl, rfl, rfl, rfl, rfl, rfl, rfl, rfl, rfl, rfl, rfl, rfl⟩ (by decide) h7 ha (by omega) (by omega) (m_wid (cu' := cu + 3) (su' := su + 18) (by omega) (by omega) (kf _ hz))

def tbL_addSegment : List (Nat × Instr × Nat) := [(297, .aload_n 1, 298), (298, .aload_n 0, 299), (299, .iload 5, 301), (301, .iconst 1, 302), (302, .iadd, 303), (303, .iaload, 304), (304, .aload_n 0, 305), (305, .iload 5, 307), (307, .iconst 2, 308), (308, .iadd, 309), (309, .iaload, 310), (310, .aload_n 0, 311), (311, .iload 5, 313), (313, .iconst 3, 314), (314, .iadd, 315), (315, .iaload, 316), (316, .aload_n 3, 317), (317, .invokestatic 122, 320), (320, .istore 6, 322), (322, .aload_n 2, 323), (323, .aload_n 0, 324), (324, .iload 5, 326), (326, .iconst 1, 327), (327, .iadd, 328), (328, .iaload, 329), (329, .aload_n 0, 330), (330, .iload 5, 332), (332, .iconst 2, 333), (333, .iadd, 334), (334, .iaload, 335), (335, .aload_n 0, 336), (336, .iload 5, 338), (338, .iconst 3, 339), (339, .iadd, 340), (340, .iaload, 341), (341, .invokevirtual 125, 344), (344, .istore 7, 346), (346, .aload_n 2, 347), (347, .invokevirtual 119, 350), (350, .iload 6, 352), (352, .if_icmp .eq 5, 355), (357, .iload 6, 359), (359, .ifCond .ne 15, 362), (362, .aload_n 3, 363), (363, .iconst 0, 364), (364, .laload, 365), (365, .iload 7, 367), (367, .i2l, 368), (368, .lcmp, 369), (369, .ifCond .eq 5, 372), (374, .goto 1478, 377)]
theorem okL_addSegment : zkOk (iLaw tbL_addSegment) := by unfold zkOk; decide +kernel
set_option maxRecDepth 10000 in
theorem lw_addSegment {l : Launch} {G : zkG} {b L j cu su : Nat} {xs : Nat → Int32} {mem : zkM} (hl : l.stackTraces = false) (hL : L ≤ 2560) (hj : 5 * j + 5 ≤ L) (hI : zInv mem) (hcu : cu + 3 ≤ 603072) (hsu : su + 18 ≤ 7186538) (kk : ∀ m2 : zkM, zInv m2 → zkW l G (iLaw []) (lw_K G b L xs) (cu + 3) (su + 18) 1852 (lsL b j none none none none) [] m2) : zkW l G (iLaw []) (lw_K G b L xs) cu su 297 (lsL b j none none none none) [] mem := by
  refine zkW_sub okL_addSegment ?_
  obtain ⟨T0, hT0⟩ := hI.1
  obtain ⟨hA, hP, h34, h16, h18, h07, hsn, h42, h22, h511, h48⟩ := pm_c hT0
  have r1 := i32_inR (xs (5 * j + 1))
  have r2 := i32_inR (xs (5 * j + 2))
  have r3 := i32_inR (xs (5 * j + 3))
  obtain ⟨g, c, hr, ho, hx1⟩ := op_addSegment hI (xs (5 * j + 1)).toInt (xs (5 * j + 2)).toInt (xs (5 * j + 3)).toInt
  obtain ⟨h7, ha, hz, T1, hT1, hT2⟩ := ho
  obtain ⟨nA, n9, n11, n36, n39, n34, n26, n43, n42⟩ := pm_m hT2
  have kf := fun m2 h => zkW_sub (T' := tbL_addSegment) ok_nil (kk m2 h)
  refine m_aload_n rfl rfl rfl ?_
  refine m_arg (j := j) (k := 1) ⟨rfl, rfl, rfl, rfl, rfl⟩ rfl rfl (by omega) hL ?_
  refine m_arg (j := j) (k := 2) ⟨rfl, rfl, rfl, rfl, rfl⟩ rfl rfl (by omega) hL ?_
  refine m_arg (j := j) (k := 3) ⟨rfl, rfl, rfl, rfl, rfl⟩ rfl rfl (by omega) hL ?_
  refine m_aload_n rfl rfl rfl ?_
  refine m_csw rfl rfl lk_9_122 (c_la_addSegment hl (c_caAddSeg hl hA.1 r1 r2 r3 (by unfold inR; omega) (fun i hi => (hA.2.1 i hi).1.2.2.2.1) hP.2.2.1 (fun i hi => (hP.2.1 i hi).2.2.2.1) hx1) hr) (st := []) rfl rfl (Nat.le_of_ble_eq_true rfl) (Nat.le_of_ble_eq_true rfl) (Nat.le_of_ble_eq_true rfl) (show cu + 1 ≤ 603072 by omega) (show su + 6 ≤ 7186538 by omega) ?_
  refine m_istore rfl rfl (Nat.le_of_ble_eq_true rfl) rfl ?_
  refine m_aload_n rfl rfl rfl ?_
  refine m_arg (j := j) (k := 1) ⟨rfl, rfl, rfl, rfl, rfl⟩ rfl rfl (by omega) hL ?_
  refine m_arg (j := j) (k := 2) ⟨rfl, rfl, rfl, rfl, rfl⟩ rfl rfl (by omega) hL ?_
  refine m_arg (j := j) (k := 3) ⟨rfl, rfl, rfl, rfl, rfl⟩ rfl rfl (by omega) hL ?_
  refine m_cv1 rfl rfl lk_9_125 (c_moaddSegment hl nA r1 r2 r3 (by unfold inR; omega)) (st := []) rfl (Nat.le_of_ble_eq_true rfl) (Nat.le_of_ble_eq_true rfl) rfl rfl (Nat.le_of_ble_eq_true rfl) (Nat.le_of_ble_eq_true rfl) (Nat.le_of_ble_eq_true rfl) (show cu + 1 ≤ 603072 by omega) (show su + 6 ≤ 7186538 by omega) ?_
  exact lw_tail (off := 1478) hl ⟨rfl, rfl, rfl, rfl, rfl, rfl, rfl, rfl, rfl, rfl, rfl, rfl, rfl, rfl, rfl⟩ (by decide) h7 ha (by omega) (by omega) (m_wid (cu' := cu + 3) (su' := su + 18) (by omega) (by omega) (kf _ hz))

def tbL_setServer : List (Nat × Instr × Nat) := [(377, .aload_n 1, 378), (378, .aload_n 0, 379), (379, .iload 5, 381), (381, .iconst 1, 382), (382, .iadd, 383), (383, .iaload, 384), (384, .aload_n 0, 385), (385, .iload 5, 387), (387, .iconst 2, 388), (388, .iadd, 389), (389, .iaload, 390), (390, .aload_n 0, 391), (391, .iload 5, 393), (393, .iconst 3, 394), (394, .iadd, 395), (395, .iaload, 396), (396, .aload_n 3, 397), (397, .invokestatic 126, 400), (400, .istore 6, 402), (402, .aload_n 2, 403), (403, .aload_n 0, 404), (404, .iload 5, 406), (406, .iconst 1, 407), (407, .iadd, 408), (408, .iaload, 409), (409, .aload_n 0, 410), (410, .iload 5, 412), (412, .iconst 2, 413), (413, .iadd, 414), (414, .iaload, 415), (415, .aload_n 0, 416), (416, .iload 5, 418), (418, .iconst 3, 419), (419, .iadd, 420), (420, .iaload, 421), (421, .invokevirtual 128, 424), (424, .istore 7, 426), (426, .aload_n 2, 427), (427, .invokevirtual 119, 430), (430, .iload 6, 432), (432, .if_icmp .eq 5, 435), (437, .iload 6, 439), (439, .ifCond .ne 22, 442), (442, .aload_n 3, 443), (443, .iconst 0, 444), (444, .laload, 445), (445, .iload 7, 447), (447, .ifCond .eq 7, 450), (450, .lconst 1, 451), (451, .goto 4, 454), (454, .lconst 0, 455), (455, .lcmp, 456), (456, .ifCond .eq 5, 459), (461, .goto 1391, 464)]
theorem okL_setServer : zkOk (iLaw tbL_setServer) := by unfold zkOk; decide +kernel
set_option maxRecDepth 10000 in
theorem lw_setServer {l : Launch} {G : zkG} {b L j cu su : Nat} {xs : Nat → Int32} {mem : zkM} (hl : l.stackTraces = false) (hL : L ≤ 2560) (hj : 5 * j + 5 ≤ L) (hI : zInv mem) (hcu : cu + 3 ≤ 603072) (hsu : su + 18 ≤ 7186538) (kk : ∀ m2 : zkM, zInv m2 → zkW l G (iLaw []) (lw_K G b L xs) (cu + 3) (su + 18) 1852 (lsL b j none none none none) [] m2) : zkW l G (iLaw []) (lw_K G b L xs) cu su 377 (lsL b j none none none none) [] mem := by
  refine zkW_sub okL_setServer ?_
  obtain ⟨T0, hT0⟩ := hI.1
  obtain ⟨hA, hP, h34, h16, h18, h07, hsn, h42, h22, h511, h48⟩ := pm_c hT0
  have r1 := i32_inR (xs (5 * j + 1))
  have r2 := i32_inR (xs (5 * j + 2))
  have r3 := i32_inR (xs (5 * j + 3))
  obtain ⟨g, c, hr, ho, hx1⟩ := op_setServer hI (xs (5 * j + 1)).toInt (xs (5 * j + 2)).toInt (xs (5 * j + 3)).toInt
  obtain ⟨h7, ha, hz, T1, hT1, hT2⟩ := ho
  obtain ⟨nA, n9, n11, n36, n39, n34, n26, n43, n42⟩ := pm_m hT2
  have kf := fun m2 h => zkW_sub (T' := tbL_setServer) ok_nil (kk m2 h)
  refine m_aload_n rfl rfl rfl ?_
  refine m_arg (j := j) (k := 1) ⟨rfl, rfl, rfl, rfl, rfl⟩ rfl rfl (by omega) hL ?_
  refine m_arg (j := j) (k := 2) ⟨rfl, rfl, rfl, rfl, rfl⟩ rfl rfl (by omega) hL ?_
  refine m_arg (j := j) (k := 3) ⟨rfl, rfl, rfl, rfl, rfl⟩ rfl rfl (by omega) hL ?_
  refine m_aload_n rfl rfl rfl ?_
  refine m_csw rfl rfl lk_9_126 (c_la_setServer hl (c_caServer hl hA.1 r1 r2 r3 (fun i hi => (hP.2.1 i hi).2.2.2.1) (by unfold inR; omega) hA.2.2.2.1 hx1) hr) (st := []) rfl rfl (Nat.le_of_ble_eq_true rfl) (Nat.le_of_ble_eq_true rfl) (Nat.le_of_ble_eq_true rfl) (show cu + 1 ≤ 603072 by omega) (show su + 6 ≤ 7186538 by omega) ?_
  refine m_istore rfl rfl (Nat.le_of_ble_eq_true rfl) rfl ?_
  refine m_aload_n rfl rfl rfl ?_
  refine m_arg (j := j) (k := 1) ⟨rfl, rfl, rfl, rfl, rfl⟩ rfl rfl (by omega) hL ?_
  refine m_arg (j := j) (k := 2) ⟨rfl, rfl, rfl, rfl, rfl⟩ rfl rfl (by omega) hL ?_
  refine m_arg (j := j) (k := 3) ⟨rfl, rfl, rfl, rfl, rfl⟩ rfl rfl (by omega) hL ?_
  refine m_cv1 rfl rfl lk_9_128 (c_mosetServer hl nA r1 r2 r3 (by unfold inR; omega)) (st := []) rfl (Nat.le_of_ble_eq_true rfl) (Nat.le_of_ble_eq_true rfl) rfl rfl (Nat.le_of_ble_eq_true rfl) (Nat.le_of_ble_eq_true rfl) (Nat.le_of_ble_eq_true rfl) (show cu + 1 ≤ 603072 by omega) (show su + 6 ≤ 7186538 by omega) ?_
  refine m_istore rfl rfl (Nat.le_of_ble_eq_true rfl) rfl ?_
  have k2 : zkW l G (iLaw tbL_setServer) (lw_K G b L xs) (cu + 1) (su + 6) 461 (lsL b j (some (vi c)) (some (vi (b2i (moSetS g (xs (5 * j + 1)).toInt (xs (5 * j + 2)).toInt (xs (5 * j + 3)).toInt).1))) none none) [] _ := m_goto (tgt := 1852) rfl rfl (by decide) (m_fgt lsL_f (m_wid (cu' := cu + 3) (su' := su + 18) (by omega) (by omega) (kf _ hz)))
  refine m_aload_n rfl rfl rfl ?_
  refine m_cv1 rfl rfl lk_9_119 (c_thrown hl) (as := []) (st := []) rfl (Nat.le_of_ble_eq_true rfl) (Nat.le_of_ble_eq_true rfl) rfl rfl (Nat.le_of_ble_eq_true rfl) (Nat.le_of_ble_eq_true rfl) (Nat.le_of_ble_eq_true rfl) (show cu + 1 ≤ 603072 by omega) (show su + 6 ≤ 7186538 by omega) ?_
  refine m_iload rfl rfl (x := c) rfl ?_
  refine m_icmp_eq (tgt := 437) rfl rfl (by decide) (by rw [h7.1]; exact h7.2) h7.2 (fun _ => ?_) (fun q => absurd h7.1 q)
  refine m_iload rfl rfl (x := c) rfl ?_
  refine m_if_ne (tgt := 461) rfl rfl (by decide) h7.2 (fun _ => k2) (fun q => ?_)
  obtain ⟨a1, a2⟩ := ha q
  refine m_aload_n rfl rfl rfl ?_
  refine m_iconst rfl rfl ?_
  refine m_lald rfl rfl ?_
  refine m_iload rfl rfl rfl ?_
  rw [a1]
  have k3 : ∀ z : Int, z = b2i (moSetS g (xs (5 * j + 1)).toInt (xs (5 * j + 2)).toInt (xs (5 * j + 3)).toInt).1 → zkW l G (iLaw tbL_setServer) (lw_K G b L xs) (cu + 1) (su + 6) 455 (lsL b j (some (vi c)) (some (vi (b2i (moSetS g (xs (5 * j + 1)).toInt (xs (5 * j + 2)).toInt (xs (5 * j + 3)).toInt).1))) none none) [vl z, vl (b2i (moSetS g (xs (5 * j + 1)).toInt (xs (5 * j + 2)).toInt (xs (5 * j + 3)).toInt).1)] (moSetS g (xs (5 * j + 1)).toInt (xs (5 * j + 2)).toInt (xs (5 * j + 3)).toInt).2 := by
    intro z hz2
    subst hz2
    refine m_lceq rfl rfl ?_
    exact m_if_eq (tgt := 461) rfl rfl (by decide) inR_0 (fun _ => k2) (fun q => absurd rfl q)
  refine m_if_eq_b (tgt := 454) rfl rfl (by decide) (fun hb => ?_) (fun hb => ?_)
  · refine m_lconst (x := 0) rfl rfl rfl ?_
    exact k3 0 (by rw [hb]; rfl)
  · refine m_lconst (x := 1) rfl rfl rfl ?_
    refine m_goto (tgt := 455) rfl rfl (by decide) ?_
    exact k3 1 (by rw [hb]; rfl)

def tbL_request : List (Nat × Instr × Nat) := [(464, .aload_n 1, 465), (465, .aload_n 0, 466), (466, .iload 5, 468), (468, .iconst 1, 469), (469, .iadd, 470), (470, .iaload, 471), (471, .aload_n 0, 472), (472, .iload 5, 474), (474, .iconst 2, 475), (475, .iadd, 476), (476, .iaload, 477), (477, .aload_n 3, 478), (478, .invokestatic 129, 481), (481, .istore 6, 483), (483, .aload_n 2, 484), (484, .aload_n 0, 485), (485, .iload 5, 487), (487, .iconst 1, 488), (488, .iadd, 489), (489, .iaload, 490), (490, .aload_n 0, 491), (491, .iload 5, 493), (493, .iconst 2, 494), (494, .iadd, 495), (495, .iaload, 496), (496, .invokevirtual 132, 499), (499, .istore 7, 501), (501, .aload_n 2, 502), (502, .invokevirtual 119, 505), (505, .iload 6, 507), (507, .if_icmp .eq 5, 510), (512, .iload 6, 514), (514, .ifCond .ne 15, 517), (517, .aload_n 3, 518), (518, .iconst 0, 519), (519, .laload, 520), (520, .iload 7, 522), (522, .i2l, 523), (523, .lcmp, 524), (524, .ifCond .eq 5, 527), (529, .goto 1323, 532)]
theorem okL_request : zkOk (iLaw tbL_request) := by unfold zkOk; decide +kernel
set_option maxRecDepth 10000 in
theorem lw_request {l : Launch} {G : zkG} {b L j cu su : Nat} {xs : Nat → Int32} {mem : zkM} (hl : l.stackTraces = false) (hL : L ≤ 2560) (hj : 5 * j + 5 ≤ L) (hI : zInv mem) (hcu : cu + 3 ≤ 603072) (hsu : su + 18 ≤ 7186538) (kk : ∀ m2 : zkM, zInv m2 → zkW l G (iLaw []) (lw_K G b L xs) (cu + 3) (su + 18) 1852 (lsL b j none none none none) [] m2) : zkW l G (iLaw []) (lw_K G b L xs) cu su 464 (lsL b j none none none none) [] mem := by
  refine zkW_sub okL_request ?_
  obtain ⟨T0, hT0⟩ := hI.1
  obtain ⟨hA, hP, h34, h16, h18, h07, hsn, h42, h22, h511, h48⟩ := pm_c hT0
  have r1 := i32_inR (xs (5 * j + 1))
  have r2 := i32_inR (xs (5 * j + 2))
  obtain ⟨g, c, hr, ho, hx1⟩ := op_request hI (xs (5 * j + 1)).toInt (xs (5 * j + 2)).toInt
  obtain ⟨h7, ha, hz, T1, hT1, hT2⟩ := ho
  obtain ⟨nA, n9, n11, n36, n39, n34, n26, n43, n42⟩ := pm_m hT2
  have kf := fun m2 h => zkW_sub (T' := tbL_request) ok_nil (kk m2 h)
  refine m_aload_n rfl rfl rfl ?_
  refine m_arg (j := j) (k := 1) ⟨rfl, rfl, rfl, rfl, rfl⟩ rfl rfl (by omega) hL ?_
  refine m_arg (j := j) (k := 2) ⟨rfl, rfl, rfl, rfl, rfl⟩ rfl rfl (by omega) hL ?_
  refine m_aload_n rfl rfl rfl ?_
  refine m_csw rfl rfl lk_9_129 (c_la_request hl (c_caRequest hl r1 r2 (by unfold inR; omega) h34 hx1) hr) (st := []) rfl rfl (Nat.le_of_ble_eq_true rfl) (Nat.le_of_ble_eq_true rfl) (Nat.le_of_ble_eq_true rfl) (show cu + 1 ≤ 603072 by omega) (show su + 6 ≤ 7186538 by omega) ?_
  refine m_istore rfl rfl (Nat.le_of_ble_eq_true rfl) rfl ?_
  refine m_aload_n rfl rfl rfl ?_
  refine m_arg (j := j) (k := 1) ⟨rfl, rfl, rfl, rfl, rfl⟩ rfl rfl (by omega) hL ?_
  refine m_arg (j := j) (k := 2) ⟨rfl, rfl, rfl, rfl, rfl⟩ rfl rfl (by omega) hL ?_
  refine m_cv1 rfl rfl lk_9_132 (c_morequest hl r1 r2 n9 (by unfold inR; omega)) (st := []) rfl (Nat.le_of_ble_eq_true rfl) (Nat.le_of_ble_eq_true rfl) rfl rfl (Nat.le_of_ble_eq_true rfl) (Nat.le_of_ble_eq_true rfl) (Nat.le_of_ble_eq_true rfl) (show cu + 1 ≤ 603072 by omega) (show su + 6 ≤ 7186538 by omega) ?_
  exact lw_tail (off := 1323) hl ⟨rfl, rfl, rfl, rfl, rfl, rfl, rfl, rfl, rfl, rfl, rfl, rfl, rfl, rfl, rfl⟩ (by decide) h7 ha (by omega) (by omega) (m_wid (cu' := cu + 3) (su' := su + 18) (by omega) (by omega) (kf _ hz))

def tbL_setPolicy : List (Nat × Instr × Nat) := [(532, .aload_n 1, 533), (533, .aload_n 0, 534), (534, .iload 5, 536), (536, .iconst 1, 537), (537, .iadd, 538), (538, .iaload, 539), (539, .aload_n 3, 540), (540, .invokestatic 133, 543), (543, .istore 6, 545), (545, .aload_n 2, 546), (546, .aload_n 0, 547), (547, .iload 5, 549), (549, .iconst 1, 550), (550, .iadd, 551), (551, .iaload, 552), (552, .invokevirtual 136, 555), (555, .istore 7, 557), (557, .aload_n 2, 558), (558, .invokevirtual 119, 561), (561, .iload 6, 563), (563, .if_icmp .eq 5, 566), (568, .iload 6, 570), (570, .ifCond .ne 15, 573), (573, .aload_n 3, 574), (574, .iconst 0, 575), (575, .laload, 576), (576, .iload 7, 578), (578, .i2l, 579), (579, .lcmp, 580), (580, .ifCond .eq 5, 583), (585, .goto 1267, 588)]
theorem okL_setPolicy : zkOk (iLaw tbL_setPolicy) := by unfold zkOk; decide +kernel
set_option maxRecDepth 10000 in
theorem lw_setPolicy {l : Launch} {G : zkG} {b L j cu su : Nat} {xs : Nat → Int32} {mem : zkM} (hl : l.stackTraces = false) (hL : L ≤ 2560) (hj : 5 * j + 5 ≤ L) (hI : zInv mem) (hcu : cu + 3 ≤ 603072) (hsu : su + 18 ≤ 7186538) (kk : ∀ m2 : zkM, zInv m2 → zkW l G (iLaw []) (lw_K G b L xs) (cu + 3) (su + 18) 1852 (lsL b j none none none none) [] m2) : zkW l G (iLaw []) (lw_K G b L xs) cu su 532 (lsL b j none none none none) [] mem := by
  refine zkW_sub okL_setPolicy ?_
  obtain ⟨T0, hT0⟩ := hI.1
  obtain ⟨hA, hP, h34, h16, h18, h07, hsn, h42, h22, h511, h48⟩ := pm_c hT0
  have r1 := i32_inR (xs (5 * j + 1))
  obtain ⟨g, c, hr, ho, hx1⟩ := op_setPolicy hI (xs (5 * j + 1)).toInt
  obtain ⟨h7, ha, hz, T1, hT1, hT2⟩ := ho
  obtain ⟨nA, n9, n11, n36, n39, n34, n26, n43, n42⟩ := pm_m hT2
  have kf := fun m2 h => zkW_sub (T' := tbL_setPolicy) ok_nil (kk m2 h)
  refine m_aload_n rfl rfl rfl ?_
  refine m_arg (j := j) (k := 1) ⟨rfl, rfl, rfl, rfl, rfl⟩ rfl rfl (by omega) hL ?_
  refine m_aload_n rfl rfl rfl ?_
  refine m_csw rfl rfl lk_9_133 (c_la_setPolicy hl (c_caPolicy hl r1 hx1) hr) (st := []) rfl rfl (Nat.le_of_ble_eq_true rfl) (Nat.le_of_ble_eq_true rfl) (Nat.le_of_ble_eq_true rfl) (show cu + 1 ≤ 603072 by omega) (show su + 6 ≤ 7186538 by omega) ?_
  refine m_istore rfl rfl (Nat.le_of_ble_eq_true rfl) rfl ?_
  refine m_aload_n rfl rfl rfl ?_
  refine m_arg (j := j) (k := 1) ⟨rfl, rfl, rfl, rfl, rfl⟩ rfl rfl (by omega) hL ?_
  refine m_cv1 rfl rfl lk_9_136 (c_mosetPolicy hl r1) (st := []) rfl (Nat.le_of_ble_eq_true rfl) (Nat.le_of_ble_eq_true rfl) rfl rfl (Nat.le_of_ble_eq_true rfl) (Nat.le_of_ble_eq_true rfl) (Nat.le_of_ble_eq_true rfl) (show cu + 1 ≤ 603072 by omega) (show su + 6 ≤ 7186538 by omega) ?_
  exact lw_tail (off := 1267) hl ⟨rfl, rfl, rfl, rfl, rfl, rfl, rfl, rfl, rfl, rfl, rfl, rfl, rfl, rfl, rfl⟩ (by decide) h7 ha (by omega) (by omega) (m_wid (cu' := cu + 3) (su' := su + 18) (by omega) (by omega) (kf _ hz))

def tbL_append : List (Nat × Instr × Nat) := [(588, .aload_n 1, 589), (589, .aload_n 0, 590), (590, .iload 5, 592), (592, .iconst 1, 593), (593, .iadd, 594), (594, .iaload, 595), (595, .i2c, 596), (596, .aload_n 3, 597), (597, .invokestatic 137, 600), (600, .istore 6, 602), (602, .aload_n 2, 603), (603, .aload_n 0, 604), (604, .iload 5, 606), (606, .iconst 1, 607), (607, .iadd, 608), (608, .iaload, 609), (609, .i2c, 610), (610, .invokevirtual 140, 613), (613, .istore 7, 615), (615, .aload_n 2, 616), (616, .invokevirtual 119, 619), (619, .iload 6, 621), (621, .if_icmp .eq 5, 624), (626, .iload 6, 628), (628, .ifCond .ne 15, 631), (631, .aload_n 3, 632), (632, .iconst 0, 633), (633, .laload, 634), (634, .iload 7, 636), (636, .i2l, 637), (637, .lcmp, 638), (638, .ifCond .eq 5, 641), (643, .goto 1209, 646)]
theorem okL_append : zkOk (iLaw tbL_append) := by unfold zkOk; decide +kernel
set_option maxRecDepth 10000 in
theorem lw_append {l : Launch} {G : zkG} {b L j cu su : Nat} {xs : Nat → Int32} {mem : zkM} (hl : l.stackTraces = false) (hL : L ≤ 2560) (hj : 5 * j + 5 ≤ L) (hI : zInv mem) (hcu : cu + 3 ≤ 603072) (hsu : su + 18 ≤ 7186538) (kk : ∀ m2 : zkM, zInv m2 → zkW l G (iLaw []) (lw_K G b L xs) (cu + 3) (su + 18) 1852 (lsL b j none none none none) [] m2) : zkW l G (iLaw []) (lw_K G b L xs) cu su 588 (lsL b j none none none none) [] mem := by
  refine zkW_sub okL_append ?_
  obtain ⟨T0, hT0⟩ := hI.1
  obtain ⟨hA, hP, h34, h16, h18, h07, hsn, h42, h22, h511, h48⟩ := pm_c hT0
  have r1 := i32_inR (xs (5 * j + 1))
  obtain ⟨g, c, hr, h7, ha, hz, hx1⟩ := op_append hI (i2cV_r (xs (5 * j + 1)).toInt)
  have kf := fun m2 h => zkW_sub (T' := tbL_append) ok_nil (kk m2 h)
  refine m_aload_n rfl rfl rfl ?_
  refine m_arg (j := j) (k := 1) ⟨rfl, rfl, rfl, rfl, rfl⟩ rfl rfl (by omega) hL ?_
  refine m_i2c rfl rfl ?_
  refine m_aload_n rfl rfl rfl ?_
  refine m_csw rfl rfl lk_9_137 (c_la_append hl (c_caAppend hl (by have := hI.2.1.1; omega) (i2cV_r _)) hr) (st := []) rfl rfl (Nat.le_of_ble_eq_true rfl) (Nat.le_of_ble_eq_true rfl) (Nat.le_of_ble_eq_true rfl) (show cu + 1 ≤ 603072 by omega) (show su + 6 ≤ 7186538 by omega) ?_
  refine m_istore rfl rfl (Nat.le_of_ble_eq_true rfl) rfl ?_
  refine m_aload_n rfl rfl rfl ?_
  refine m_arg (j := j) (k := 1) ⟨rfl, rfl, rfl, rfl, rfl⟩ rfl rfl (by omega) hL ?_
  refine m_i2c rfl rfl ?_
  refine m_cv1 rfl rfl lk_9_140 (c_moappend hl (by have := i2cV_r (xs (5 * j + 1)).toInt; unfold inR; omega) hx1) (st := []) rfl (Nat.le_of_ble_eq_true rfl) (Nat.le_of_ble_eq_true rfl) rfl rfl (Nat.le_of_ble_eq_true rfl) (Nat.le_of_ble_eq_true rfl) (Nat.le_of_ble_eq_true rfl) (show cu + 1 ≤ 603072 by omega) (show su + 6 ≤ 7186538 by omega) ?_
  exact lw_tail (off := 1209) hl ⟨rfl, rfl, rfl, rfl, rfl, rfl, rfl, rfl, rfl, rfl, rfl, rfl, rfl, rfl, rfl⟩ (by decide) h7 ha (by omega) (by omega) (m_wid (cu' := cu + 3) (su' := su + 18) (by omega) (by omega) (kf _ hz))

def tbL_configure : List (Nat × Instr × Nat) := [(646, .aload_n 1, 647), (647, .aload_n 3, 648), (648, .invokestatic 141, 651), (651, .istore 6, 653), (653, .aload_n 2, 654), (654, .invokevirtual 144, 657), (657, .istore 7, 659), (659, .aload_n 2, 660), (660, .invokevirtual 119, 663), (663, .iload 6, 665), (665, .if_icmp .eq 5, 668), (670, .iload 6, 672), (672, .ifCond .ne 15, 675), (675, .aload_n 3, 676), (676, .iconst 0, 677), (677, .laload, 678), (678, .iload 7, 680), (680, .i2l, 681), (681, .lcmp, 682), (682, .ifCond .eq 5, 685), (687, .goto 1165, 690)]
theorem okL_configure : zkOk (iLaw tbL_configure) := by unfold zkOk; decide +kernel
set_option maxRecDepth 10000 in
theorem lw_configure {l : Launch} {G : zkG} {b L j cu su : Nat} {xs : Nat → Int32} {mem : zkM} (hl : l.stackTraces = false) (hL : L ≤ 2560) (hj : 5 * j + 5 ≤ L) (hI : zInv mem) (hcu : cu + 3 ≤ 603072) (hsu : su + 18 ≤ 7186538) (kk : ∀ m2 : zkM, zInv m2 → zkW l G (iLaw []) (lw_K G b L xs) (cu + 3) (su + 18) 1852 (lsL b j none none none none) [] m2) : zkW l G (iLaw []) (lw_K G b L xs) cu su 646 (lsL b j none none none none) [] mem := by
  refine zkW_sub okL_configure ?_
  obtain ⟨T0, hT0⟩ := hI.1
  obtain ⟨hA, hP, h34, h16, h18, h07, hsn, h42, h22, h511, h48⟩ := pm_c hT0
  obtain ⟨g, c, hr, ho, hx1, hx2, hx3⟩ := op_configure hI 
  obtain ⟨h7, ha, hz, T1, hT1, hT2⟩ := ho
  obtain ⟨nA, n9, n11, n36, n39, n34, n26, n43, n42⟩ := pm_m hT2
  have kf := fun m2 h => zkW_sub (T' := tbL_configure) ok_nil (kk m2 h)
  refine m_aload_n rfl rfl rfl ?_
  refine m_aload_n rfl rfl rfl ?_
  refine m_csw rfl rfl lk_9_141 (c_la_configure hl (c_caCfg hl hx1.1 hx1.2.1 hx1.2.2) hr) (st := []) rfl rfl (Nat.le_of_ble_eq_true rfl) (Nat.le_of_ble_eq_true rfl) (Nat.le_of_ble_eq_true rfl) (show cu + 1 ≤ 603072 by omega) (show su + 6 ≤ 7186538 by omega) ?_
  refine m_istore rfl rfl (Nat.le_of_ble_eq_true rfl) rfl ?_
  refine m_aload_n rfl rfl rfl ?_
  refine m_cv1 rfl rfl lk_9_144 (c_moconfigure hl nA hx2.1.2 (fun k hk => (hx2.2.1 k hk).2) (by unfold inR; omega) n9 hx2.2.2.2.2.2.2 hx3) (st := []) rfl (Nat.le_of_ble_eq_true rfl) (Nat.le_of_ble_eq_true rfl) rfl rfl (Nat.le_of_ble_eq_true rfl) (Nat.le_of_ble_eq_true rfl) (Nat.le_of_ble_eq_true rfl) (show cu + 1 ≤ 603072 by omega) (show su + 6 ≤ 7186538 by omega) ?_
  exact lw_tail (off := 1165) hl ⟨rfl, rfl, rfl, rfl, rfl, rfl, rfl, rfl, rfl, rfl, rfl, rfl, rfl, rfl, rfl⟩ (by decide) h7 ha (by omega) (by omega) (m_wid (cu' := cu + 3) (su' := su + 18) (by omega) (by omega) (kf _ hz))

def tbL_errorPosition : List (Nat × Instr × Nat) := [(690, .aload_n 1, 691), (691, .aload_n 3, 692), (692, .invokestatic 145, 695), (695, .istore 6, 697), (697, .aload_n 2, 698), (698, .invokevirtual 147, 701), (701, .istore 7, 703), (703, .aload_n 2, 704), (704, .invokevirtual 119, 707), (707, .iload 6, 709), (709, .if_icmp .eq 5, 712), (714, .iload 6, 716), (716, .ifCond .ne 15, 719), (719, .aload_n 3, 720), (720, .iconst 0, 721), (721, .laload, 722), (722, .iload 7, 724), (724, .i2l, 725), (725, .lcmp, 726), (726, .ifCond .eq 5, 729), (731, .goto 1121, 734)]
theorem okL_errorPosition : zkOk (iLaw tbL_errorPosition) := by unfold zkOk; decide +kernel
set_option maxRecDepth 10000 in
theorem lw_errorPosition {l : Launch} {G : zkG} {b L j cu su : Nat} {xs : Nat → Int32} {mem : zkM} (hl : l.stackTraces = false) (hL : L ≤ 2560) (hj : 5 * j + 5 ≤ L) (hI : zInv mem) (hcu : cu + 3 ≤ 603072) (hsu : su + 18 ≤ 7186538) (kk : ∀ m2 : zkM, zInv m2 → zkW l G (iLaw []) (lw_K G b L xs) (cu + 3) (su + 18) 1852 (lsL b j none none none none) [] m2) : zkW l G (iLaw []) (lw_K G b L xs) cu su 690 (lsL b j none none none none) [] mem := by
  refine zkW_sub okL_errorPosition ?_
  obtain ⟨T0, hT0⟩ := hI.1
  obtain ⟨hA, hP, h34, h16, h18, h07, hsn, h42, h22, h511, h48⟩ := pm_c hT0
  obtain ⟨g, c, hr, ho⟩ := op_errorPosition hI 
  obtain ⟨h7, ha, hz, T1, hT1, hT2⟩ := ho
  obtain ⟨nA, n9, n11, n36, n39, n34, n26, n43, n42⟩ := pm_m hT2
  have hg32 : g 7 0 32 = mem 7 0 32 := by
    rcases hr with ⟨v, -, -, -, rfl⟩ | ⟨-, -, rfl⟩
    · exact ms_t (by decide) _ _ _ _ _ _
    · rfl
  have kf := fun m2 h => zkW_sub (T' := tbL_errorPosition) ok_nil (kk m2 h)
  refine m_aload_n rfl rfl rfl ?_
  refine m_aload_n rfl rfl rfl ?_
  refine m_csw rfl rfl lk_9_145 (c_la_errorPosition hl (c_caError hl (by have := hI.2.1.2.2.1; unfold inR; omega)) hr) (st := []) rfl rfl (Nat.le_of_ble_eq_true rfl) (Nat.le_of_ble_eq_true rfl) (Nat.le_of_ble_eq_true rfl) (show cu + 1 ≤ 603072 by omega) (show su + 6 ≤ 7186538 by omega) ?_
  refine m_istore rfl rfl (Nat.le_of_ble_eq_true rfl) rfl ?_
  refine m_aload_n rfl rfl rfl ?_
  refine m_cv1 rfl rfl lk_9_147 (c_moerror hl (by rw [hg32]; have := hI.2.1.2.2.1; unfold inR; omega)) (st := []) rfl (Nat.le_of_ble_eq_true rfl) (Nat.le_of_ble_eq_true rfl) rfl rfl (Nat.le_of_ble_eq_true rfl) (Nat.le_of_ble_eq_true rfl) (Nat.le_of_ble_eq_true rfl) (show cu + 1 ≤ 603072 by omega) (show su + 6 ≤ 7186538 by omega) ?_
  exact lw_tail (off := 1121) hl ⟨rfl, rfl, rfl, rfl, rfl, rfl, rfl, rfl, rfl, rfl, rfl, rfl, rfl, rfl, rfl⟩ (by decide) h7 ha (by omega) (by omega) (m_wid (cu' := cu + 3) (su' := su + 18) (by omega) (by omega) (kf _ hz))

