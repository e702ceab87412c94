/-! the law's calls, one by one (3) -/
def tbL_run : List (Nat × Instr × Nat) := [(1134, .aload_n 1, 1135), (1135, .aload_n 0, 1136), (1136, .iload 5, 1138), (1138, .iconst 1, 1139), (1139, .iadd, 1140), (1140, .iaload, 1141), (1141, .aload_n 3, 1142), (1142, .invokestatic 180, 1145), (1145, .istore 6, 1147), (1147, .aload_n 2, 1148), (1148, .aload_n 0, 1149), (1149, .iload 5, 1151), (1151, .iconst 1, 1152), (1152, .iadd, 1153), (1153, .iaload, 1154), (1154, .invokevirtual 182, 1157), (1157, .istore 7, 1159), (1159, .aload_n 2, 1160), (1160, .invokevirtual 119, 1163), (1163, .iload 6, 1165), (1165, .if_icmp .eq 5, 1168), (1170, .iload 6, 1172), (1172, .ifCond .ne 15, 1175), (1175, .aload_n 3, 1176), (1176, .iconst 0, 1177), (1177, .laload, 1178), (1178, .iload 7, 1180), (1180, .i2l, 1181), (1181, .lcmp, 1182), (1182, .ifCond .eq 5, 1185), (1187, .goto 665, 1190)]
theorem okL_run : zkOk (iLaw tbL_run) := by unfold zkOk; decide +kernel
set_option maxRecDepth 10000 in
theorem lw_run {l : Launch} {G : zkG} {b L j cu su : Nat} {xs : Nat → Int32} {mem : zkM} (hl : l.stackTraces = false) (hL : L ≤ 2560) (hj : 5 * j + 5 ≤ L) (hI : zInv mem) (hcu : cu + 3 ≤ 603072) (hsu : su + 18 ≤ 7186538) (kk : ∀ m2 : zkM, zInv m2 → zkW l G (iLaw []) (lw_K G b L xs) (cu + 3) (su + 18) 1852 (lsL b j none none none none) [] m2) : zkW l G (iLaw []) (lw_K G b L xs) cu su 1134 (lsL b j none none none none) [] mem := by
  refine zkW_sub okL_run ?_
  obtain ⟨T0, hT0⟩ := hI.1
  obtain ⟨hA, hP, h34, h16, h18, h07, hsn, h42, h22, h511, h48⟩ := pm_c hT0
  have r1 := i32_inR (xs (5 * j + 1))
  obtain ⟨g, c, hr, ho, hx1, hx2⟩ := op_run hI (xs (5 * j + 1)).toInt
  obtain ⟨h7, ha, hz, T1, hT1, hT2⟩ := ho
  obtain ⟨nA, n9, n11, n36, n39, n34, n26, n43, n42⟩ := pm_m hT2
  have kf := fun m2 h => zkW_sub (T' := tbL_run) ok_nil (kk m2 h)
  refine m_aload_n rfl rfl rfl ?_
  refine m_arg (j := j) (k := 1) ⟨rfl, rfl, rfl, rfl, rfl⟩ rfl rfl (by omega) hL ?_
  refine m_aload_n rfl rfl rfl ?_
  refine m_csw rfl rfl lk_9_180 (c_la_run hl (c_caRun hl r1 h07 hx1) hr) (st := []) rfl rfl (Nat.le_of_ble_eq_true rfl) (Nat.le_of_ble_eq_true rfl) (Nat.le_of_ble_eq_true rfl) (show cu + 1 ≤ 603072 by omega) (show su + 6 ≤ 7186538 by omega) ?_
  refine m_istore rfl rfl (Nat.le_of_ble_eq_true rfl) rfl ?_
  refine m_aload_n rfl rfl rfl ?_
  refine m_arg (j := j) (k := 1) ⟨rfl, rfl, rfl, rfl, rfl⟩ rfl rfl (by omega) hL ?_
  refine m_cv1 rfl rfl lk_9_182 (c_morun hl r1 n11 hx2) (st := []) rfl (Nat.le_of_ble_eq_true rfl) (Nat.le_of_ble_eq_true rfl) rfl rfl (Nat.le_of_ble_eq_true rfl) (Nat.le_of_ble_eq_true rfl) (Nat.le_of_ble_eq_true rfl) (show cu + 1 ≤ 603072 by omega) (show su + 6 ≤ 7186538 by omega) ?_
  exact lw_tail (off := 665) hl ⟨rfl, rfl, rfl, rfl, rfl, rfl, rfl, rfl, rfl, rfl, rfl, rfl, rfl, rfl, rfl⟩ (by decide) h7 ha (by omega) (by omega) (m_wid (cu' := cu + 3) (su' := su + 18) (by omega) (by omega) (kf _ hz))

def tbL_rewind : List (Nat × Instr × Nat) := [(1190, .aload_n 1, 1191), (1191, .invokevirtual 183, 1194), (1194, .aload_n 2, 1195), (1195, .invokevirtual 186, 1198), (1198, .if_icmp .eq 654, 1201)]
theorem okL_rewind : zkOk (iLaw tbL_rewind) := by unfold zkOk; decide +kernel
set_option maxRecDepth 10000 in
theorem lw_rewind {l : Launch} {G : zkG} {b L j cu su : Nat} {xs : Nat → Int32} {mem : zkM} (hl : l.stackTraces = false) (hL : L ≤ 2560) (hj : 5 * j + 5 ≤ L) (hI : zInv mem) (hcu : cu + 3 ≤ 603072) (hsu : su + 18 ≤ 7186538) (kk : ∀ m2 : zkM, zInv m2 → zkW l G (iLaw []) (lw_K G b L xs) (cu + 3) (su + 18) 1852 (lsL b j none none none none) [] m2) : zkW l G (iLaw []) (lw_K G b L xs) cu su 1190 (lsL b j none none none none) [] mem := by
  refine zkW_sub okL_rewind ?_
  obtain ⟨T0, hT0⟩ := hI.1
  obtain ⟨hA, hP, h34, h16, h18, h07, hsn, h42, h22, h511, h48⟩ := pm_c hT0
  obtain ⟨nA, n9, n11, n36, n39, n34, n26, n43, n42⟩ := pm_m hT0
  have kf := fun m2 h => zkW_sub (T' := tbL_rewind) ok_nil (kk m2 h)
  have hx := op_rewind hI
  refine m_aload_n rfl rfl rfl ?_
  refine m_cv1 rfl rfl lk_9_183 (c_caRewind hl hA.1 h34) (as := []) (st := []) rfl (Nat.le_of_ble_eq_true rfl) (Nat.le_of_ble_eq_true rfl) rfl rfl (Nat.le_of_ble_eq_true rfl) (Nat.le_of_ble_eq_true rfl) (Nat.le_of_ble_eq_true rfl) (show cu ≤ 603072 by omega) (show su ≤ 7186538 by omega) ?_
  refine m_aload_n rfl rfl rfl ?_
  refine m_cv1 rfl rfl lk_9_186 (c_morewind hl) (as := []) (st := _) rfl (Nat.le_of_ble_eq_true rfl) (Nat.le_of_ble_eq_true rfl) rfl rfl (Nat.le_of_ble_eq_true rfl) (Nat.le_of_ble_eq_true rfl) (Nat.le_of_ble_eq_true rfl) (show cu ≤ 603072 by omega) (show su ≤ 7186538 by omega) ?_
  exact lw_cmp2 rfl (by decide) hx.1 hx.2.1 (m_wid (cu' := cu + 3) (su' := su + 18) (by omega) (by omega) (kf _ hx.2.2))

def tbL_clock : List (Nat × Instr × Nat) := [(1203, .aload_n 1, 1204), (1204, .invokevirtual 187, 1207), (1207, .aload_n 2, 1208), (1208, .invokevirtual 190, 1211), (1211, .if_icmp .eq 641, 1214)]
theorem okL_clock : zkOk (iLaw tbL_clock) := by unfold zkOk; decide +kernel
set_option maxRecDepth 10000 in
theorem lw_clock {l : Launch} {G : zkG} {b L j cu su : Nat} {xs : Nat → Int32} {mem : zkM} (hl : l.stackTraces = false) (hL : L ≤ 2560) (hj : 5 * j + 5 ≤ L) (hI : zInv mem) (hcu : cu + 3 ≤ 603072) (hsu : su + 18 ≤ 7186538) (kk : ∀ m2 : zkM, zInv m2 → zkW l G (iLaw []) (lw_K G b L xs) (cu + 3) (su + 18) 1852 (lsL b j none none none none) [] m2) : zkW l G (iLaw []) (lw_K G b L xs) cu su 1203 (lsL b j none none none none) [] mem := by
  refine zkW_sub okL_clock ?_
  obtain ⟨T0, hT0⟩ := hI.1
  obtain ⟨hA, hP, h34, h16, h18, h07, hsn, h42, h22, h511, h48⟩ := pm_c hT0
  obtain ⟨nA, n9, n11, n36, n39, n34, n26, n43, n42⟩ := pm_m hT0
  have kf := fun m2 h => zkW_sub (T' := tbL_clock) ok_nil (kk m2 h)
  have hx := op_clock hI
  refine m_aload_n rfl rfl rfl ?_
  refine m_cv1 rfl rfl lk_9_187 (c_caClock hl) (as := []) (st := []) rfl (Nat.le_of_ble_eq_true rfl) (Nat.le_of_ble_eq_true rfl) rfl rfl (Nat.le_of_ble_eq_true rfl) (Nat.le_of_ble_eq_true rfl) (Nat.le_of_ble_eq_true rfl) (show cu ≤ 603072 by omega) (show su ≤ 7186538 by omega) ?_
  refine m_aload_n rfl rfl rfl ?_
  refine m_cv1 rfl rfl lk_9_190 (c_moclock hl) (as := []) (st := _) rfl (Nat.le_of_ble_eq_true rfl) (Nat.le_of_ble_eq_true rfl) rfl rfl (Nat.le_of_ble_eq_true rfl) (Nat.le_of_ble_eq_true rfl) (Nat.le_of_ble_eq_true rfl) (show cu ≤ 603072 by omega) (show su ≤ 7186538 by omega) ?_
  exact lw_cmp2 rfl (by decide) hx.1 hx.2 (m_wid (cu' := cu + 3) (su' := su + 18) (by omega) (by omega) (kf _ (op_thr hI)))

def tbL_ranAt : List (Nat × Instr × Nat) := [(1216, .aload_n 1, 1217), (1217, .aload_n 0, 1218), (1218, .iload 5, 1220), (1220, .iconst 1, 1221), (1221, .iadd, 1222), (1222, .iaload, 1223), (1223, .aload_n 3, 1224), (1224, .invokestatic 191, 1227), (1227, .istore 6, 1229), (1229, .aload_n 2, 1230), (1230, .aload_n 0, 1231), (1231, .iload 5, 1233), (1233, .iconst 1, 1234), (1234, .iadd, 1235), (1235, .iaload, 1236), (1236, .invokevirtual 193, 1239), (1239, .istore 7, 1241), (1241, .aload_n 2, 1242), (1242, .invokevirtual 119, 1245), (1245, .iload 6, 1247), (1247, .if_icmp .eq 5, 1250), (1252, .iload 6, 1254), (1254, .ifCond .ne 15, 1257), (1257, .aload_n 3, 1258), (1258, .iconst 0, 1259), (1259, .laload, 1260), (1260, .iload 7, 1262), (1262, .i2l, 1263), (1263, .lcmp, 1264), (1264, .ifCond .eq 5, 1267), (1269, .goto 583, 1272)]
theorem okL_ranAt : zkOk (iLaw tbL_ranAt) := by unfold zkOk; decide +kernel
set_option maxRecDepth 10000 in
theorem lw_ranAt {l : Launch} {G : zkG} {b L j cu su : Nat} {xs : Nat → Int32} {mem : zkM} (hl : l.stackTraces = false) (hL : L ≤ 2560) (hj : 5 * j + 5 ≤ L) (hI : zInv mem) (hcu : cu + 3 ≤ 603072) (hsu : su + 18 ≤ 7186538) (kk : ∀ m2 : zkM, zInv m2 → zkW l G (iLaw []) (lw_K G b L xs) (cu + 3) (su + 18) 1852 (lsL b j none none none none) [] m2) : zkW l G (iLaw []) (lw_K G b L xs) cu su 1216 (lsL b j none none none none) [] mem := by
  refine zkW_sub okL_ranAt ?_
  obtain ⟨T0, hT0⟩ := hI.1
  obtain ⟨hA, hP, h34, h16, h18, h07, hsn, h42, h22, h511, h48⟩ := pm_c hT0
  have r1 := i32_inR (xs (5 * j + 1))
  obtain ⟨g, c, hr, ho⟩ := op_ranAt hI (xs (5 * j + 1)).toInt
  obtain ⟨h7, ha, hz, T1, hT1, hT2⟩ := ho
  obtain ⟨nA, n9, n11, n36, n39, n34, n26, n43, n42⟩ := pm_m hT2
  have kf := fun m2 h => zkW_sub (T' := tbL_ranAt) ok_nil (kk m2 h)
  refine m_aload_n rfl rfl rfl ?_
  refine m_arg (j := j) (k := 1) ⟨rfl, rfl, rfl, rfl, rfl⟩ rfl rfl (by omega) hL ?_
  refine m_aload_n rfl rfl rfl ?_
  refine m_csw rfl rfl lk_9_191 (c_la_ranAt hl (c_caRan hl r1 h07) hr) (st := []) rfl rfl (Nat.le_of_ble_eq_true rfl) (Nat.le_of_ble_eq_true rfl) (Nat.le_of_ble_eq_true rfl) (show cu + 1 ≤ 603072 by omega) (show su + 6 ≤ 7186538 by omega) ?_
  refine m_istore rfl rfl (Nat.le_of_ble_eq_true rfl) rfl ?_
  refine m_aload_n rfl rfl rfl ?_
  refine m_arg (j := j) (k := 1) ⟨rfl, rfl, rfl, rfl, rfl⟩ rfl rfl (by omega) hL ?_
  refine m_cv1 rfl rfl lk_9_193 (c_moranAt hl r1 n11) (st := []) rfl (Nat.le_of_ble_eq_true rfl) (Nat.le_of_ble_eq_true rfl) rfl rfl (Nat.le_of_ble_eq_true rfl) (Nat.le_of_ble_eq_true rfl) (Nat.le_of_ble_eq_true rfl) (show cu + 1 ≤ 603072 by omega) (show su + 6 ≤ 7186538 by omega) ?_
  exact lw_tail (off := 583) hl ⟨rfl, rfl, rfl, rfl, rfl, rfl, rfl, rfl, rfl, rfl, rfl, rfl, rfl, rfl, rfl⟩ (by decide) h7 ha (by omega) (by omega) (m_wid (cu' := cu + 3) (su' := su + 18) (by omega) (by omega) (kf _ hz))

def tbL_pending : List (Nat × Instr × Nat) := [(1272, .aload_n 1, 1273), (1273, .aload_n 0, 1274), (1274, .iload 5, 1276), (1276, .iconst 1, 1277), (1277, .iadd, 1278), (1278, .iaload, 1279), (1279, .aload_n 3, 1280), (1280, .invokestatic 194, 1283), (1283, .istore 6, 1285), (1285, .aload_n 2, 1286), (1286, .aload_n 0, 1287), (1287, .iload 5, 1289), (1289, .iconst 1, 1290), (1290, .iadd, 1291), (1291, .iaload, 1292), (1292, .invokevirtual 196, 1295), (1295, .istore 7, 1297), (1297, .aload_n 2, 1298), (1298, .invokevirtual 119, 1301), (1301, .iload 6, 1303), (1303, .if_icmp .eq 5, 1306), (1308, .iload 6, 1310), (1310, .ifCond .ne 15, 1313), (1313, .aload_n 3, 1314), (1314, .iconst 0, 1315), (1315, .laload, 1316), (1316, .iload 7, 1318), (1318, .i2l, 1319), (1319, .lcmp, 1320), (1320, .ifCond .eq 5, 1323), (1325, .goto 527, 1328)]
theorem okL_pending : zkOk (iLaw tbL_pending) := by unfold zkOk; decide +kernel
set_option maxRecDepth 10000 in
theorem lw_pending {l : Launch} {G : zkG} {b L j cu su : Nat} {xs : Nat → Int32} {mem : zkM} (hl : l.stackTraces = false) (hL : L ≤ 2560) (hj : 5 * j + 5 ≤ L) (hI : zInv mem) (hcu : cu + 3 ≤ 603072) (hsu : su + 18 ≤ 7186538) (kk : ∀ m2 : zkM, zInv m2 → zkW l G (iLaw []) (lw_K G b L xs) (cu + 3) (su + 18) 1852 (lsL b j none none none none) [] m2) : zkW l G (iLaw []) (lw_K G b L xs) cu su 1272 (lsL b j none none none none) [] mem := by
  refine zkW_sub okL_pending ?_
  obtain ⟨T0, hT0⟩ := hI.1
  obtain ⟨hA, hP, h34, h16, h18, h07, hsn, h42, h22, h511, h48⟩ := pm_c hT0
  have r1 := i32_inR (xs (5 * j + 1))
  obtain ⟨g, c, hr, ho⟩ := op_pending hI (xs (5 * j + 1)).toInt
  obtain ⟨h7, ha, hz, T1, hT1, hT2⟩ := ho
  obtain ⟨nA, n9, n11, n36, n39, n34, n26, n43, n42⟩ := pm_m hT2
  have kf := fun m2 h => zkW_sub (T' := tbL_pending) ok_nil (kk m2 h)
  refine m_aload_n rfl rfl rfl ?_
  refine m_arg (j := j) (k := 1) ⟨rfl, rfl, rfl, rfl, rfl⟩ rfl rfl (by omega) hL ?_
  refine m_aload_n rfl rfl rfl ?_
  refine m_csw rfl rfl lk_9_194 (c_la_pending hl (c_caPnd hl hA.1 r1) hr) (st := []) rfl rfl (Nat.le_of_ble_eq_true rfl) (Nat.le_of_ble_eq_true rfl) (Nat.le_of_ble_eq_true rfl) (show cu + 1 ≤ 603072 by omega) (show su + 6 ≤ 7186538 by omega) ?_
  refine m_istore rfl rfl (Nat.le_of_ble_eq_true rfl) rfl ?_
  refine m_aload_n rfl rfl rfl ?_
  refine m_arg (j := j) (k := 1) ⟨rfl, rfl, rfl, rfl, rfl⟩ rfl rfl (by omega) hL ?_
  refine m_cv1 rfl rfl lk_9_196 (c_mopending hl r1 nA.1) (st := []) rfl (Nat.le_of_ble_eq_true rfl) (Nat.le_of_ble_eq_true rfl) rfl rfl (Nat.le_of_ble_eq_true rfl) (Nat.le_of_ble_eq_true rfl) (Nat.le_of_ble_eq_true rfl) (show cu + 1 ≤ 603072 by omega) (show su + 6 ≤ 7186538 by omega) ?_
  exact lw_tail (off := 527) hl ⟨rfl, rfl, rfl, rfl, rfl, rfl, rfl, rfl, rfl, rfl, rfl, rfl, rfl, rfl, rfl⟩ (by decide) h7 ha (by omega) (by omega) (m_wid (cu' := cu + 3) (su' := su + 18) (by omega) (by omega) (kf _ hz))

def tbL_activePriority : List (Nat × Instr × Nat) := [(1328, .aload_n 1, 1329), (1329, .aload_n 0, 1330), (1330, .iload 5, 1332), (1332, .iconst 1, 1333), (1333, .iadd, 1334), (1334, .iaload, 1335), (1335, .aload_n 3, 1336), (1336, .invokestatic 197, 1339), (1339, .istore 6, 1341), (1341, .aload_n 2, 1342), (1342, .aload_n 0, 1343), (1343, .iload 5, 1345), (1345, .iconst 1, 1346), (1346, .iadd, 1347), (1347, .iaload, 1348), (1348, .invokevirtual 199, 1351), (1351, .istore 7, 1353), (1353, .aload_n 2, 1354), (1354, .invokevirtual 119, 1357), (1357, .iload 6, 1359), (1359, .if_icmp .eq 5, 1362), (1364, .iload 6, 1366), (1366, .ifCond .ne 15, 1369), (1369, .aload_n 3, 1370), (1370, .iconst 0, 1371), (1371, .laload, 1372), (1372, .iload 7, 1374), (1374, .i2l, 1375), (1375, .lcmp, 1376), (1376, .ifCond .eq 5, 1379), (1381, .goto 471, 1384)]
theorem okL_activePriority : zkOk (iLaw tbL_activePriority) := by unfold zkOk; decide +kernel
set_option maxRecDepth 10000 in
theorem lw_activePriority {l : Launch} {G : zkG} {b L j cu su : Nat} {xs : Nat → Int32} {mem : zkM} (hl : l.stackTraces = false) (hL : L ≤ 2560) (hj : 5 * j + 5 ≤ L) (hI : zInv mem) (hcu : cu + 3 ≤ 603072) (hsu : su + 18 ≤ 7186538) (kk : ∀ m2 : zkM, zInv m2 → zkW l G (iLaw []) (lw_K G b L xs) (cu + 3) (su + 18) 1852 (lsL b j none none none none) [] m2) : zkW l G (iLaw []) (lw_K G b L xs) cu su 1328 (lsL b j none none none none) [] mem := by
  refine zkW_sub okL_activePriority ?_
  obtain ⟨T0, hT0⟩ := hI.1
  obtain ⟨hA, hP, h34, h16, h18, h07, hsn, h42, h22, h511, h48⟩ := pm_c hT0
  have r1 := i32_inR (xs (5 * j + 1))
  obtain ⟨g, c, hr, ho⟩ := op_activePriority hI (xs (5 * j + 1)).toInt
  obtain ⟨h7, ha, hz, T1, hT1, hT2⟩ := ho
  obtain ⟨nA, n9, n11, n36, n39, n34, n26, n43, n42⟩ := pm_m hT2
  have kf := fun m2 h => zkW_sub (T' := tbL_activePriority) ok_nil (kk m2 h)
  refine m_aload_n rfl rfl rfl ?_
  refine m_arg (j := j) (k := 1) ⟨rfl, rfl, rfl, rfl, rfl⟩ rfl rfl (by omega) hL ?_
  refine m_aload_n rfl rfl rfl ?_
  refine m_csw rfl rfl lk_9_197 (c_la_activePriority hl (c_caAct hl hP r1) hr) (st := []) rfl rfl (Nat.le_of_ble_eq_true rfl) (Nat.le_of_ble_eq_true rfl) (Nat.le_of_ble_eq_true rfl) (show cu + 2 ≤ 603072 by omega) (show su + 12 ≤ 7186538 by omega) ?_
  refine m_istore rfl rfl (Nat.le_of_ble_eq_true rfl) rfl ?_
  refine m_aload_n rfl rfl rfl ?_
  refine m_arg (j := j) (k := 1) ⟨rfl, rfl, rfl, rfl, rfl⟩ rfl rfl (by omega) hL ?_
  refine m_cv1 rfl rfl lk_9_199 (c_moactive hl nA r1 n36) (st := []) rfl (Nat.le_of_ble_eq_true rfl) (Nat.le_of_ble_eq_true rfl) rfl rfl (Nat.le_of_ble_eq_true rfl) (Nat.le_of_ble_eq_true rfl) (Nat.le_of_ble_eq_true rfl) (show cu + 2 ≤ 603072 by omega) (show su + 12 ≤ 7186538 by omega) ?_
  exact lw_tail (off := 471) hl ⟨rfl, rfl, rfl, rfl, rfl, rfl, rfl, rfl, rfl, rfl, rfl, rfl, rfl, rfl, rfl⟩ (by decide) h7 ha (by omega) (by omega) (m_wid (cu' := cu + 3) (su' := su + 18) (by omega) (by omega) (kf _ hz))

def tbL_holder : List (Nat × Instr × Nat) := [(1384, .aload_n 1, 1385), (1385, .aload_n 0, 1386), (1386, .iload 5, 1388), (1388, .iconst 1, 1389), (1389, .iadd, 1390), (1390, .iaload, 1391), (1391, .aload_n 3, 1392), (1392, .invokestatic 200, 1395), (1395, .istore 6, 1397), (1397, .aload_n 2, 1398), (1398, .aload_n 0, 1399), (1399, .iload 5, 1401), (1401, .iconst 1, 1402), (1402, .iadd, 1403), (1403, .iaload, 1404), (1404, .invokevirtual 202, 1407), (1407, .istore 7, 1409), (1409, .aload_n 2, 1410), (1410, .invokevirtual 119, 1413), (1413, .iload 6, 1415), (1415, .if_icmp .eq 5, 1418), (1420, .iload 6, 1422), (1422, .ifCond .ne 15, 1425), (1425, .aload_n 3, 1426), (1426, .iconst 0, 1427), (1427, .laload, 1428), (1428, .iload 7, 1430), (1430, .i2l, 1431), (1431, .lcmp, 1432), (1432, .ifCond .eq 5, 1435), (1437, .goto 415, 1440)]
theorem okL_holder : zkOk (iLaw tbL_holder) := by unfold zkOk; decide +kernel
set_option maxRecDepth 10000 in
theorem lw_holder {l : Launch} {G : zkG} {b L j cu su : Nat} {xs : Nat → Int32} {mem : zkM} (hl : l.stackTraces = false) (hL : L ≤ 2560) (hj : 5 * j + 5 ≤ L) (hI : zInv mem) (hcu : cu + 3 ≤ 603072) (hsu : su + 18 ≤ 7186538) (kk : ∀ m2 : zkM, zInv m2 → zkW l G (iLaw []) (lw_K G b L xs) (cu + 3) (su + 18) 1852 (lsL b j none none none none) [] m2) : zkW l G (iLaw []) (lw_K G b L xs) cu su 1384 (lsL b j none none none none) [] mem := by
  refine zkW_sub okL_holder ?_
  obtain ⟨T0, hT0⟩ := hI.1
  obtain ⟨hA, hP, h34, h16, h18, h07, hsn, h42, h22, h511, h48⟩ := pm_c hT0
  have r1 := i32_inR (xs (5 * j + 1))
  obtain ⟨g, c, hr, ho⟩ := op_holder hI (xs (5 * j + 1)).toInt
  obtain ⟨h7, ha, hz, T1, hT1, hT2⟩ := ho
  obtain ⟨nA, n9, n11, n36, n39, n34, n26, n43, n42⟩ := pm_m hT2
  have kf := fun m2 h => zkW_sub (T' := tbL_holder) ok_nil (kk m2 h)
  refine m_aload_n rfl rfl rfl ?_
  refine m_arg (j := j) (k := 1) ⟨rfl, rfl, rfl, rfl, rfl⟩ rfl rfl (by omega) hL ?_
  refine m_aload_n rfl rfl rfl ?_
  refine m_csw rfl rfl lk_9_200 (c_la_holder hl (c_caHol hl hP r1) hr) (st := []) rfl rfl (Nat.le_of_ble_eq_true rfl) (Nat.le_of_ble_eq_true rfl) (Nat.le_of_ble_eq_true rfl) (show cu + 1 ≤ 603072 by omega) (show su + 6 ≤ 7186538 by omega) ?_
  refine m_istore rfl rfl (Nat.le_of_ble_eq_true rfl) rfl ?_
  refine m_aload_n rfl rfl rfl ?_
  refine m_arg (j := j) (k := 1) ⟨rfl, rfl, rfl, rfl, rfl⟩ rfl rfl (by omega) hL ?_
  refine m_cv1 rfl rfl lk_9_202 (c_moholder hl nA r1 n36) (st := []) rfl (Nat.le_of_ble_eq_true rfl) (Nat.le_of_ble_eq_true rfl) rfl rfl (Nat.le_of_ble_eq_true rfl) (Nat.le_of_ble_eq_true rfl) (Nat.le_of_ble_eq_true rfl) (show cu + 1 ≤ 603072 by omega) (show su + 6 ≤ 7186538 by omega) ?_
  exact lw_tail (off := 415) hl ⟨rfl, rfl, rfl, rfl, rfl, rfl, rfl, rfl, rfl, rfl, rfl, rfl, rfl, rfl, rfl⟩ (by decide) h7 ha (by omega) (by omega) (m_wid (cu' := cu + 3) (su' := su + 18) (by omega) (by omega) (kf _ hz))

def tbL_result : List (Nat × Instr × Nat) := [(1440, .aload_n 1, 1441), (1441, .aload_n 0, 1442), (1442, .iload 5, 1444), (1444, .iconst 1, 1445), (1445, .iadd, 1446), (1446, .iaload, 1447), (1447, .aload_n 0, 1448), (1448, .iload 5, 1450), (1450, .iconst 2, 1451), (1451, .iadd, 1452), (1452, .iaload, 1453), (1453, .aload_n 3, 1454), (1454, .invokestatic 203, 1457), (1457, .istore 6, 1459), (1459, .aload_n 2, 1460), (1460, .aload_n 0, 1461), (1461, .iload 5, 1463), (1463, .iconst 1, 1464), (1464, .iadd, 1465), (1465, .iaload, 1466), (1466, .aload_n 0, 1467), (1467, .iload 5, 1469), (1469, .iconst 2, 1470), (1470, .iadd, 1471), (1471, .iaload, 1472), (1472, .invokevirtual 205, 1475), (1475, .istore 7, 1477), (1477, .aload_n 2, 1478), (1478, .invokevirtual 119, 1481), (1481, .iload 6, 1483), (1483, .if_icmp .eq 5, 1486), (1488, .iload 6, 1490), (1490, .ifCond .ne 15, 1493), (1493, .aload_n 3, 1494), (1494, .iconst 0, 1495), (1495, .laload, 1496), (1496, .iload 7, 1498), (1498, .i2l, 1499), (1499, .lcmp, 1500), (1500, .ifCond .eq 5, 1503), (1505, .goto 347, 1508)]
theorem okL_result : zkOk (iLaw tbL_result) := by unfold zkOk; decide +kernel
set_option maxRecDepth 10000 in
theorem lw_result {l : Launch} {G : zkG} {b L j cu su : Nat} {xs : Nat → Int32} {mem : zkM} (hl : l.stackTraces = false) (hL : L ≤ 2560) (hj : 5 * j + 5 ≤ L) (hI : zInv mem) (hcu : cu + 3 ≤ 603072) (hsu : su + 18 ≤ 7186538) (kk : ∀ m2 : zkM, zInv m2 → zkW l G (iLaw []) (lw_K G b L xs) (cu + 3) (su + 18) 1852 (lsL b j none none none none) [] m2) : zkW l G (iLaw []) (lw_K G b L xs) cu su 1440 (lsL b j none none none none) [] mem := by
  refine zkW_sub okL_result ?_
  obtain ⟨T0, hT0⟩ := hI.1
  obtain ⟨hA, hP, h34, h16, h18, h07, hsn, h42, h22, h511, h48⟩ := pm_c hT0
  have r1 := i32_inR (xs (5 * j + 1))
  have r2 := i32_inR (xs (5 * j + 2))
  obtain ⟨g, c, hr, ho⟩ := op_result hI (xs (5 * j + 1)).toInt (xs (5 * j + 2)).toInt
  obtain ⟨h7, ha, hz, T1, hT1, hT2⟩ := ho
  obtain ⟨nA, n9, n11, n36, n39, n34, n26, n43, n42⟩ := pm_m hT2
  have kf := fun m2 h => zkW_sub (T' := tbL_result) ok_nil (kk m2 h)
  refine m_aload_n rfl rfl rfl ?_
  refine m_arg (j := j) (k := 1) ⟨rfl, rfl, rfl, rfl, rfl⟩ rfl rfl (by omega) hL ?_
  refine m_arg (j := j) (k := 2) ⟨rfl, rfl, rfl, rfl, rfl⟩ rfl rfl (by omega) hL ?_
  refine m_aload_n rfl rfl rfl ?_
  refine m_csw rfl rfl lk_9_203 (c_la_result hl (c_caRes hl hA.1 r1 r2) hr) (st := []) rfl rfl (Nat.le_of_ble_eq_true rfl) (Nat.le_of_ble_eq_true rfl) (Nat.le_of_ble_eq_true rfl) (show cu + 2 ≤ 603072 by omega) (show su + 12 ≤ 7186538 by omega) ?_
  refine m_istore rfl rfl (Nat.le_of_ble_eq_true rfl) rfl ?_
  refine m_aload_n rfl rfl rfl ?_
  refine m_arg (j := j) (k := 1) ⟨rfl, rfl, rfl, rfl, rfl⟩ rfl rfl (by omega) hL ?_
  refine m_arg (j := j) (k := 2) ⟨rfl, rfl, rfl, rfl, rfl⟩ rfl rfl (by omega) hL ?_
  refine m_cv1 rfl rfl lk_9_205 (c_moresult hl r1 r2 nA.1) (st := []) rfl (Nat.le_of_ble_eq_true rfl) (Nat.le_of_ble_eq_true rfl) rfl rfl (Nat.le_of_ble_eq_true rfl) (Nat.le_of_ble_eq_true rfl) (Nat.le_of_ble_eq_true rfl) (show cu + 2 ≤ 603072 by omega) (show su + 12 ≤ 7186538 by omega) ?_
  exact lw_tail (off := 347) hl ⟨rfl, rfl, rfl, rfl, rfl, rfl, rfl, rfl, rfl, rfl, rfl, rfl, rfl, rfl, rfl⟩ (by decide) h7 ha (by omega) (by omega) (m_wid (cu' := cu + 3) (su' := su + 18) (by omega) (by omega) (kf _ hz))

def tbL_averageResponse : List (Nat × Instr × Nat) := [(1508, .aload_n 1, 1509), (1509, .aload_n 0, 1510), (1510, .iload 5, 1512), (1512, .iconst 1, 1513), (1513, .iadd, 1514), (1514, .iaload, 1515), (1515, .aload 4, 1517), (1517, .invokestatic 206, 1520), (1520, .istore 6, 1522), (1522, .aload_n 2, 1523), (1523, .aload_n 0, 1524), (1524, .iload 5, 1526), (1526, .iconst 1, 1527), (1527, .iadd, 1528), (1528, .iaload, 1529), (1529, .invokevirtual 209, 1532), (1532, .fstore 7, 1534), (1534, .aload_n 2, 1535), (1535, .invokevirtual 119, 1538), (1538, .iload 6, 1540), (1540, .if_icmp .eq 5, 1543), (1545, .iload 6, 1547), (1547, .ifCond .ne 36, 1550), (1550, .aload 4, 1552), (1552, .iconst 0, 1553), (1553, .daload, 1554), (1554, .fload 7, 1556), (1556, .f2d, 1557), (1557, .dcmp .l, 1558), (1558, .ifCond .eq 25, 1561), (1561, .aload 4, 1563), (1563, .iconst 0, 1564), (1564, .daload, 1565), (1565, .aload 4, 1567), (1567, .iconst 0, 1568), (1568, .daload, 1569), (1569, .dcmp .l, 1570), (1570, .ifCond .eq 11, 1573), (1573, .fload 7, 1575), (1575, .fload 7, 1577), (1577, .fcmp .l, 1578), (1578, .ifCond .ne 5, 1581), (1583, .goto 269, 1586)]
theorem okL_averageResponse : zkOk (iLaw tbL_averageResponse) := by unfold zkOk; decide +kernel
set_option maxRecDepth 10000 in
theorem lw_averageResponse {l : Launch} {G : zkG} {b L j cu su : Nat} {xs : Nat → Int32} {mem : zkM} (hl : l.stackTraces = false) (hL : L ≤ 2560) (hj : 5 * j + 5 ≤ L) (hI : zInv mem) (hcu : cu + 3 ≤ 603072) (hsu : su + 18 ≤ 7186538) (kk : ∀ m2 : zkM, zInv m2 → zkW l G (iLaw []) (lw_K G b L xs) (cu + 3) (su + 18) 1852 (lsL b j none none none none) [] m2) : zkW l G (iLaw []) (lw_K G b L xs) cu su 1508 (lsL b j none none none none) [] mem := by
  refine zkW_sub okL_averageResponse ?_
  obtain ⟨T0, hT0⟩ := hI.1
  obtain ⟨hA, hP, h34, h16, h18, h07, hsn, h42, h22, h511, h48⟩ := pm_c hT0
  have r1 := i32_inR (xs (5 * j + 1))
  obtain ⟨g, c, hr, ho, hx1, hx2⟩ := op_averageResponse hI (xs (5 * j + 1)).toInt
  obtain ⟨h7, ha, hz, T1, hT1, hT2⟩ := ho
  obtain ⟨nA, n9, n11, n36, n39, n34, n26, n43, n42⟩ := pm_m hT2
  have kf := fun m2 h => zkW_sub (T' := tbL_averageResponse) ok_nil (kk m2 h)
  refine m_aload_n rfl rfl rfl ?_
  refine m_arg (j := j) (k := 1) ⟨rfl, rfl, rfl, rfl, rfl⟩ rfl rfl (by omega) hL ?_
  refine m_aload rfl rfl rfl ?_
  refine m_csw rfl rfl lk_9_206 (c_la_averageResponse hl (c_caAve hl hA.1 r1 h22 hx1) hr) (st := []) rfl rfl (Nat.le_of_ble_eq_true rfl) (Nat.le_of_ble_eq_true rfl) (Nat.le_of_ble_eq_true rfl) (show cu + 2 ≤ 603072 by omega) (show su + 12 ≤ 7186538 by omega) ?_
  refine m_istore rfl rfl (Nat.le_of_ble_eq_true rfl) rfl ?_
  refine m_aload_n rfl rfl rfl ?_
  refine m_arg (j := j) (k := 1) ⟨rfl, rfl, rfl, rfl, rfl⟩ rfl rfl (by omega) hL ?_
  refine m_cv1 rfl rfl lk_9_209 (c_moaverage hl r1 nA.1 n39 hx2) (st := []) rfl (Nat.le_of_ble_eq_true rfl) (Nat.le_of_ble_eq_true rfl) rfl rfl (Nat.le_of_ble_eq_true rfl) (Nat.le_of_ble_eq_true rfl) (Nat.le_of_ble_eq_true rfl) (show cu + 2 ≤ 603072 by omega) (show su + 12 ≤ 7186538 by omega) ?_
  refine m_fstore rfl rfl (Nat.le_of_ble_eq_true rfl) rfl ?_
  have k2 : zkW l G (iLaw tbL_averageResponse) (lw_K G b L xs) (cu + 2) (su + 12) 1583 (lsL b j (some (vi c)) (some (vf (moAve g (xs (5 * j + 1)).toInt).1)) none none) [] _ := m_goto (tgt := 1852) rfl rfl (by decide) (m_fgt lsL_f (m_wid (cu' := cu + 3) (su' := su + 18) (by omega) (by omega) (kf _ hz)))
  refine m_aload_n rfl rfl rfl ?_
  refine m_cv1 rfl rfl lk_9_119 (c_thrown hl) (as := []) (st := []) rfl (Nat.le_of_ble_eq_true rfl) (Nat.le_of_ble_eq_true rfl) rfl rfl (Nat.le_of_ble_eq_true rfl) (Nat.le_of_ble_eq_true rfl) (Nat.le_of_ble_eq_true rfl) (show cu + 2 ≤ 603072 by omega) (show su + 12 ≤ 7186538 by omega) ?_
  refine m_iload rfl rfl (x := c) rfl ?_
  refine m_icmp_eq (tgt := 1545) rfl rfl (by decide) (by rw [h7.1]; exact h7.2) h7.2 (fun _ => ?_) (fun q => absurd h7.1 q)
  refine m_iload rfl rfl (x := c) rfl ?_
  refine m_if_ne (tgt := 1583) rfl rfl (by decide) h7.2 (fun _ => k2) (fun q => ?_)
  obtain ⟨a1, a2⟩ := ha q
  refine m_aload rfl rfl rfl ?_
  refine m_iconst rfl rfl ?_
  refine m_dald rfl rfl ?_
  rw [a1, Int.toNat_natCast, UInt64.ofNat_toNat]
  refine m_fload rfl rfl rfl ?_
  refine m_f2d rfl rfl a2 ?_
  refine m_dceq rfl rfl a2 ?_
  exact m_if_eq (tgt := 1583) rfl rfl (by decide) inR_0 (fun _ => k2) (fun q => absurd rfl q)

def tbL_balance : List (Nat × Instr × Nat) := [(1586, .aload_n 1, 1587), (1587, .aload_n 3, 1588), (1588, .invokestatic 210, 1591), (1591, .istore 6, 1593), (1593, .aload_n 2, 1594), (1594, .invokevirtual 212, 1597), (1597, .istore 7, 1599), (1599, .aload_n 2, 1600), (1600, .invokevirtual 119, 1603), (1603, .iload 6, 1605), (1605, .if_icmp .eq 5, 1608), (1610, .iload 6, 1612), (1612, .ifCond .ne 15, 1615), (1615, .aload_n 3, 1616), (1616, .iconst 0, 1617), (1617, .laload, 1618), (1618, .iload 7, 1620), (1620, .i2l, 1621), (1621, .lcmp, 1622), (1622, .ifCond .eq 5, 1625), (1627, .goto 225, 1630)]
theorem okL_balance : zkOk (iLaw tbL_balance) := by unfold zkOk; decide +kernel
set_option maxRecDepth 10000 in
theorem lw_balance {l : Launch} {G : zkG} {b L j cu su : Nat} {xs : Nat → Int32} {mem : zkM} (hl : l.stackTraces = false) (hL : L ≤ 2560) (hj : 5 * j + 5 ≤ L) (hI : zInv mem) (hcu : cu + 3 ≤ 603072) (hsu : su + 18 ≤ 7186538) (kk : ∀ m2 : zkM, zInv m2 → zkW l G (iLaw []) (lw_K G b L xs) (cu + 3) (su + 18) 1852 (lsL b j none none none none) [] m2) : zkW l G (iLaw []) (lw_K G b L xs) cu su 1586 (lsL b j none none none none) [] mem := by
  refine zkW_sub okL_balance ?_
  obtain ⟨T0, hT0⟩ := hI.1
  obtain ⟨hA, hP, h34, h16, h18, h07, hsn, h42, h22, h511, h48⟩ := pm_c hT0
  obtain ⟨g, c, hr, ho⟩ := op_balance hI 
  obtain ⟨h7, ha, hz, T1, hT1, hT2⟩ := ho
  obtain ⟨nA, n9, n11, n36, n39, n34, n26, n43, n42⟩ := pm_m hT2
  have kf := fun m2 h => zkW_sub (T' := tbL_balance) ok_nil (kk m2 h)
  refine m_aload_n rfl rfl rfl ?_
  refine m_aload_n rfl rfl rfl ?_
  refine m_csw rfl rfl lk_9_210 (c_la_balance hl (c_caBal hl (by have := hA.2.2.2.1; unfold inR; omega)) hr) (st := []) rfl rfl (Nat.le_of_ble_eq_true rfl) (Nat.le_of_ble_eq_true rfl) (Nat.le_of_ble_eq_true rfl) (show cu + 1 ≤ 603072 by omega) (show su + 6 ≤ 7186538 by omega) ?_
  refine m_istore rfl rfl (Nat.le_of_ble_eq_true rfl) rfl ?_
  refine m_aload_n rfl rfl rfl ?_
  refine m_cv1 rfl rfl lk_9_212 (c_mobalance hl (by have := nA.2.2.2.2.2.1; unfold inR; omega)) (st := []) rfl (Nat.le_of_ble_eq_true rfl) (Nat.le_of_ble_eq_true rfl) rfl rfl (Nat.le_of_ble_eq_true rfl) (Nat.le_of_ble_eq_true rfl) (Nat.le_of_ble_eq_true rfl) (show cu + 1 ≤ 603072 by omega) (show su + 6 ≤ 7186538 by omega) ?_
  exact lw_tail (off := 225) hl ⟨rfl, rfl, rfl, rfl, rfl, rfl, rfl, rfl, rfl, rfl, rfl, rfl, rfl, rfl, rfl⟩ (by decide) h7 ha (by omega) (by omega) (m_wid (cu' := cu + 3) (su' := su + 18) (by omega) (by omega) (kf _ hz))

def tbL_nextReplenishment : List (Nat × Instr × Nat) := [(1630, .aload_n 1, 1631), (1631, .aload_n 3, 1632), (1632, .invokestatic 213, 1635), (1635, .istore 6, 1637), (1637, .aload_n 2, 1638), (1638, .invokevirtual 215, 1641), (1641, .istore 7, 1643), (1643, .aload_n 2, 1644), (1644, .invokevirtual 119, 1647), (1647, .iload 6, 1649), (1649, .if_icmp .eq 5, 1652), (1654, .iload 6, 1656), (1656, .ifCond .ne 15, 1659), (1659, .aload_n 3, 1660), (1660, .iconst 0, 1661), (1661, .laload, 1662), (1662, .iload 7, 1664), (1664, .i2l, 1665), (1665, .lcmp, 1666), (1666, .ifCond .eq 5, 1669), (1671, .goto 181, 1674)]
theorem okL_nextReplenishment : zkOk (iLaw tbL_nextReplenishment) := by unfold zkOk; decide +kernel
set_option maxRecDepth 10000 in
theorem lw_nextReplenishment {l : Launch} {G : zkG} {b L j cu su : Nat} {xs : Nat → Int32} {mem : zkM} (hl : l.stackTraces = false) (hL : L ≤ 2560) (hj : 5 * j + 5 ≤ L) (hI : zInv mem) (hcu : cu + 3 ≤ 603072) (hsu : su + 18 ≤ 7186538) (kk : ∀ m2 : zkM, zInv m2 → zkW l G (iLaw []) (lw_K G b L xs) (cu + 3) (su + 18) 1852 (lsL b j none none none none) [] m2) : zkW l G (iLaw []) (lw_K G b L xs) cu su 1630 (lsL b j none none none none) [] mem := by
  refine zkW_sub okL_nextReplenishment ?_
  obtain ⟨T0, hT0⟩ := hI.1
  obtain ⟨hA, hP, h34, h16, h18, h07, hsn, h42, h22, h511, h48⟩ := pm_c hT0
  obtain ⟨g, c, hr, ho⟩ := op_nextReplenishment hI 
  obtain ⟨h7, ha, hz, T1, hT1, hT2⟩ := ho
  obtain ⟨nA, n9, n11, n36, n39, n34, n26, n43, n42⟩ := pm_m hT2
  have kf := fun m2 h => zkW_sub (T' := tbL_nextReplenishment) ok_nil (kk m2 h)
  refine m_aload_n rfl rfl rfl ?_
  refine m_aload_n rfl rfl rfl ?_
  refine m_csw rfl rfl lk_9_213 (c_la_nextReplenishment hl (c_caNex hl (by have := hA.2.2.2.1; unfold inR; omega) h42 hsn) hr) (st := []) rfl rfl (Nat.le_of_ble_eq_true rfl) (Nat.le_of_ble_eq_true rfl) (Nat.le_of_ble_eq_true rfl) (show cu + 2 ≤ 603072 by omega) (show su + 12 ≤ 7186538 by omega) ?_
  refine m_istore rfl rfl (Nat.le_of_ble_eq_true rfl) rfl ?_
  refine m_aload_n rfl rfl rfl ?_
  refine m_cv1 rfl rfl lk_9_215 (c_monext hl (by have := nA.2.2.2.2.2.1; unfold inR; omega) n26 n43) (st := []) rfl (Nat.le_of_ble_eq_true rfl) (Nat.le_of_ble_eq_true rfl) rfl rfl (Nat.le_of_ble_eq_true rfl) (Nat.le_of_ble_eq_true rfl) (Nat.le_of_ble_eq_true rfl) (show cu + 2 ≤ 603072 by omega) (show su + 12 ≤ 7186538 by omega) ?_
  exact lw_tail (off := 181) hl ⟨rfl, rfl, rfl, rfl, rfl, rfl, rfl, rfl, rfl, rfl, rfl, rfl, rfl, rfl, rfl⟩ (by decide) h7 ha (by omega) (by omega) (m_wid (cu' := cu + 3) (su' := su + 18) (by omega) (by omega) (kf _ hz))

def tbL_requestResponse : List (Nat × Instr × Nat) := [(1674, .aload_n 1, 1675), (1675, .aload_n 0, 1676), (1676, .iload 5, 1678), (1678, .iconst 1, 1679), (1679, .iadd, 1680), (1680, .iaload, 1681), (1681, .aload_n 3, 1682), (1682, .invokestatic 216, 1685), (1685, .istore 6, 1687), (1687, .aload_n 2, 1688), (1688, .aload_n 0, 1689), (1689, .iload 5, 1691), (1691, .iconst 1, 1692), (1692, .iadd, 1693), (1693, .iaload, 1694), (1694, .invokevirtual 218, 1697), (1697, .istore 7, 1699), (1699, .aload_n 2, 1700), (1700, .invokevirtual 119, 1703), (1703, .iload 6, 1705), (1705, .if_icmp .eq 5, 1708), (1710, .iload 6, 1712), (1712, .ifCond .ne 15, 1715), (1715, .aload_n 3, 1716), (1716, .iconst 0, 1717), (1717, .laload, 1718), (1718, .iload 7, 1720), (1720, .i2l, 1721), (1721, .lcmp, 1722), (1722, .ifCond .eq 5, 1725), (1727, .goto 125, 1730)]
theorem okL_requestResponse : zkOk (iLaw tbL_requestResponse) := by unfold zkOk; decide +kernel
set_option maxRecDepth 10000 in
theorem lw_requestResponse {l : Launch} {G : zkG} {b L j cu su : Nat} {xs : Nat → Int32} {mem : zkM} (hl : l.stackTraces = false) (hL : L ≤ 2560) (hj : 5 * j + 5 ≤ L) (hI : zInv mem) (hcu : cu + 3 ≤ 603072) (hsu : su + 18 ≤ 7186538) (kk : ∀ m2 : zkM, zInv m2 → zkW l G (iLaw []) (lw_K G b L xs) (cu + 3) (su + 18) 1852 (lsL b j none none none none) [] m2) : zkW l G (iLaw []) (lw_K G b L xs) cu su 1674 (lsL b j none none none none) [] mem := by
  refine zkW_sub okL_requestResponse ?_
  obtain ⟨T0, hT0⟩ := hI.1
  obtain ⟨hA, hP, h34, h16, h18, h07, hsn, h42, h22, h511, h48⟩ := pm_c hT0
  have r1 := i32_inR (xs (5 * j + 1))
  obtain ⟨g, c, hr, ho⟩ := op_requestResponse hI (xs (5 * j + 1)).toInt
  obtain ⟨h7, ha, hz, T1, hT1, hT2⟩ := ho
  obtain ⟨nA, n9, n11, n36, n39, n34, n26, n43, n42⟩ := pm_m hT2
  have kf := fun m2 h => zkW_sub (T' := tbL_requestResponse) ok_nil (kk m2 h)
  refine m_aload_n rfl rfl rfl ?_
  refine m_arg (j := j) (k := 1) ⟨rfl, rfl, rfl, rfl, rfl⟩ rfl rfl (by omega) hL ?_
  refine m_aload_n rfl rfl rfl ?_
  refine m_csw rfl rfl lk_9_216 (c_la_requestResponse hl (c_caRq hl h34 r1 h16) hr) (st := []) rfl rfl (Nat.le_of_ble_eq_true rfl) (Nat.le_of_ble_eq_true rfl) (Nat.le_of_ble_eq_true rfl) (show cu + 1 ≤ 603072 by omega) (show su + 6 ≤ 7186538 by omega) ?_
  refine m_istore rfl rfl (Nat.le_of_ble_eq_true rfl) rfl ?_
  refine m_aload_n rfl rfl rfl ?_
  refine m_arg (j := j) (k := 1) ⟨rfl, rfl, rfl, rfl, rfl⟩ rfl rfl (by omega) hL ?_
  refine m_cv1 rfl rfl lk_9_218 (c_moreqresp hl r1 n9 n42) (st := []) rfl (Nat.le_of_ble_eq_true rfl) (Nat.le_of_ble_eq_true rfl) rfl rfl (Nat.le_of_ble_eq_true rfl) (Nat.le_of_ble_eq_true rfl) (Nat.le_of_ble_eq_true rfl) (show cu + 1 ≤ 603072 by omega) (show su + 6 ≤ 7186538 by omega) ?_
  exact lw_tail (off := 125) hl ⟨rfl, rfl, rfl, rfl, rfl, rfl, rfl, rfl, rfl, rfl, rfl, rfl, rfl, rfl, rfl⟩ (by decide) h7 ha (by omega) (by omega) (m_wid (cu' := cu + 3) (su' := su + 18) (by omega) (by omega) (kf _ hz))

def tbL_utilization : List (Nat × Instr × Nat) := [(1730, .aload_n 1, 1731), (1731, .aload 4, 1733), (1733, .invokestatic 219, 1736), (1736, .istore 6, 1738), (1738, .aload_n 2, 1739), (1739, .invokevirtual 222, 1742), (1742, .dstore 7, 1744), (1744, .aload_n 2, 1745), (1745, .invokevirtual 119, 1748), (1748, .iload 6, 1750), (1750, .if_icmp .eq 5, 1753), (1755, .iload 6, 1757), (1757, .ifCond .ne 35, 1760), (1760, .aload 4, 1762), (1762, .iconst 0, 1763), (1763, .daload, 1764), (1764, .dload 7, 1766), (1766, .dcmp .l, 1767), (1767, .ifCond .eq 25, 1770), (1770, .aload 4, 1772), (1772, .iconst 0, 1773), (1773, .daload, 1774), (1774, .aload 4, 1776), (1776, .iconst 0, 1777), (1777, .daload, 1778), (1778, .dcmp .l, 1779), (1779, .ifCond .eq 11, 1782), (1782, .dload 7, 1784), (1784, .dload 7, 1786), (1786, .dcmp .l, 1787), (1787, .ifCond .ne 5, 1790), (1792, .goto 60, 1795)]
theorem okL_utilization : zkOk (iLaw tbL_utilization) := by unfold zkOk; decide +kernel
set_option maxRecDepth 10000 in
theorem lw_utilization {l : Launch} {G : zkG} {b L j cu su : Nat} {xs : Nat → Int32} {mem : zkM} (hl : l.stackTraces = false) (hL : L ≤ 2560) (hj : 5 * j + 5 ≤ L) (hI : zInv mem) (hcu : cu + 3 ≤ 603072) (hsu : su + 18 ≤ 7186538) (kk : ∀ m2 : zkM, zInv m2 → zkW l G (iLaw []) (lw_K G b L xs) (cu + 3) (su + 18) 1852 (lsL b j none none none none) [] m2) : zkW l G (iLaw []) (lw_K G b L xs) cu su 1730 (lsL b j none none none none) [] mem := by
  refine zkW_sub okL_utilization ?_
  obtain ⟨T0, hT0⟩ := hI.1
  obtain ⟨hA, hP, h34, h16, h18, h07, hsn, h42, h22, h511, h48⟩ := pm_c hT0
  obtain ⟨g, c, hr, ho, hx1, hx2⟩ := op_utilization hI 
  obtain ⟨h7, ha, hz, T1, hT1, hT2⟩ := ho
  obtain ⟨nA, n9, n11, n36, n39, n34, n26, n43, n42⟩ := pm_m hT2
  have kf := fun m2 h => zkW_sub (T' := tbL_utilization) ok_nil (kk m2 h)
  refine m_aload_n rfl rfl rfl ?_
  refine m_aload rfl rfl rfl ?_
  refine m_csw rfl rfl lk_9_219 (c_la_utilization hl (c_caUt hl h07 h18 hx1) hr) (st := []) rfl rfl (Nat.le_of_ble_eq_true rfl) (Nat.le_of_ble_eq_true rfl) (Nat.le_of_ble_eq_true rfl) (show cu + 1 ≤ 603072 by omega) (show su + 6 ≤ 7186538 by omega) ?_
  refine m_istore rfl rfl (Nat.le_of_ble_eq_true rfl) rfl ?_
  refine m_aload_n rfl rfl rfl ?_
  refine m_cv1 rfl rfl lk_9_222 (c_moutil hl n11 n34 hx2) (st := []) rfl (Nat.le_of_ble_eq_true rfl) (Nat.le_of_ble_eq_true rfl) rfl rfl (Nat.le_of_ble_eq_true rfl) (Nat.le_of_ble_eq_true rfl) (Nat.le_of_ble_eq_true rfl) (show cu + 1 ≤ 603072 by omega) (show su + 6 ≤ 7186538 by omega) ?_
  refine m_dstore rfl rfl (Nat.le_of_ble_eq_true rfl) rfl ?_
  have k2 : zkW l G (iLaw tbL_utilization) (lw_K G b L xs) (cu + 1) (su + 6) 1792 (lsL b j (some (vi c)) (some (vd (moUtil g).1)) none none) [] _ := m_goto (tgt := 1852) rfl rfl (by decide) (m_fgt lsL_f (m_wid (cu' := cu + 3) (su' := su + 18) (by omega) (by omega) (kf _ hz)))
  refine m_aload_n rfl rfl rfl ?_
  refine m_cv1 rfl rfl lk_9_119 (c_thrown hl) (as := []) (st := []) rfl (Nat.le_of_ble_eq_true rfl) (Nat.le_of_ble_eq_true rfl) rfl rfl (Nat.le_of_ble_eq_true rfl) (Nat.le_of_ble_eq_true rfl) (Nat.le_of_ble_eq_true rfl) (show cu + 1 ≤ 603072 by omega) (show su + 6 ≤ 7186538 by omega) ?_
  refine m_iload rfl rfl (x := c) rfl ?_
  refine m_icmp_eq (tgt := 1755) rfl rfl (by decide) (by rw [h7.1]; exact h7.2) h7.2 (fun _ => ?_) (fun q => absurd h7.1 q)
  refine m_iload rfl rfl (x := c) rfl ?_
  refine m_if_ne (tgt := 1792) rfl rfl (by decide) h7.2 (fun _ => k2) (fun q => ?_)
  obtain ⟨a1, a2⟩ := ha q
  refine m_aload rfl rfl rfl ?_
  refine m_iconst rfl rfl ?_
  refine m_dald rfl rfl ?_
  rw [a1, Int.toNat_natCast, UInt64.ofNat_toNat]
  refine m_dload rfl rfl rfl ?_
  refine m_dceq rfl rfl a2 ?_
  exact m_if_eq (tgt := 1792) rfl rfl (by decide) inR_0 (fun _ => k2) (fun q => absurd rfl q)

def tbL_snapshot : List (Nat × Instr × Nat) := [(1795, .aload_n 1, 1796), (1796, .invokevirtual 223, 1799), (1799, .aload_n 2, 1800), (1800, .invokevirtual 226, 1803), (1803, .if_icmp .eq 49, 1806)]
theorem okL_snapshot : zkOk (iLaw tbL_snapshot) := by unfold zkOk; decide +kernel
set_option maxRecDepth 10000 in
theorem lw_snapshot {l : Launch} {G : zkG} {b L j cu su : Nat} {xs : Nat → Int32} {mem : zkM} (hl : l.stackTraces = false) (hL : L ≤ 2560) (hj : 5 * j + 5 ≤ L) (hI : zInv mem) (hcu : cu + 3 ≤ 603072) (hsu : su + 18 ≤ 7186538) (kk : ∀ m2 : zkM, zInv m2 → zkW l G (iLaw []) (lw_K G b L xs) (cu + 3) (su + 18) 1852 (lsL b j none none none none) [] m2) : zkW l G (iLaw []) (lw_K G b L xs) cu su 1795 (lsL b j none none none none) [] mem := by
  refine zkW_sub okL_snapshot ?_
  obtain ⟨T0, hT0⟩ := hI.1
  obtain ⟨hA, hP, h34, h16, h18, h07, hsn, h42, h22, h511, h48⟩ := pm_c hT0
  obtain ⟨nA, n9, n11, n36, n39, n34, n26, n43, n42⟩ := pm_m hT0
  have kf := fun m2 h => zkW_sub (T' := tbL_snapshot) ok_nil (kk m2 h)
  have hx := op_snap hI
  refine m_aload_n rfl rfl rfl ?_
  refine m_cv1 rfl rfl lk_9_223 (c_caSnp hl h511 hA.2.2.2.1 h48) (as := []) (st := []) rfl (Nat.le_of_ble_eq_true rfl) (Nat.le_of_ble_eq_true rfl) rfl rfl (Nat.le_of_ble_eq_true rfl) (Nat.le_of_ble_eq_true rfl) (Nat.le_of_ble_eq_true rfl) (show cu ≤ 603072 by omega) (show su ≤ 7186538 by omega) ?_
  refine m_aload_n rfl rfl rfl ?_
  refine m_cv1 rfl rfl lk_9_226 (c_mosnapshot hl) (as := []) (st := _) rfl (Nat.le_of_ble_eq_true rfl) (Nat.le_of_ble_eq_true rfl) rfl rfl (Nat.le_of_ble_eq_true rfl) (Nat.le_of_ble_eq_true rfl) (Nat.le_of_ble_eq_true rfl) (show cu ≤ 603072 by omega) (show su ≤ 7186538 by omega) ?_
  exact lw_cmp2 rfl (by decide) hx.1 hx.2.1 (m_wid (cu' := cu + 3) (su' := su + 18) (by omega) (by omega) (kf _ hx.2.2))

def tbL_restore : List (Nat × Instr × Nat) := [(1808, .aload_n 1, 1809), (1809, .aload_n 3, 1810), (1810, .invokestatic 227, 1813), (1813, .istore 6, 1815), (1815, .aload_n 2, 1816), (1816, .invokevirtual 229, 1819), (1819, .istore 7, 1821), (1821, .aload_n 2, 1822), (1822, .invokevirtual 119, 1825), (1825, .iload 6, 1827), (1827, .if_icmp .eq 5, 1830), (1832, .iload 6, 1834), (1834, .ifCond .ne 15, 1837), (1837, .aload_n 3, 1838), (1838, .iconst 0, 1839), (1839, .laload, 1840), (1840, .iload 7, 1842), (1842, .i2l, 1843), (1843, .lcmp, 1844), (1844, .ifCond .eq 5, 1847), (1849, .goto 3, 1852)]
theorem okL_restore : zkOk (iLaw tbL_restore) := by unfold zkOk; decide +kernel
set_option maxRecDepth 10000 in
theorem lw_restore {l : Launch} {G : zkG} {b L j cu su : Nat} {xs : Nat → Int32} {mem : zkM} (hl : l.stackTraces = false) (hL : L ≤ 2560) (hj : 5 * j + 5 ≤ L) (hI : zInv mem) (hcu : cu + 3 ≤ 603072) (hsu : su + 18 ≤ 7186538) (kk : ∀ m2 : zkM, zInv m2 → zkW l G (iLaw []) (lw_K G b L xs) (cu + 3) (su + 18) 1852 (lsL b j none none none none) [] m2) : zkW l G (iLaw []) (lw_K G b L xs) cu su 1808 (lsL b j none none none none) [] mem := by
  refine zkW_sub okL_restore ?_
  obtain ⟨T0, hT0⟩ := hI.1
  obtain ⟨hA, hP, h34, h16, h18, h07, hsn, h42, h22, h511, h48⟩ := pm_c hT0
  obtain ⟨g, c, hr, h7, ha, hz, hx1⟩ := op_restore hI 
  have kf := fun m2 h => zkW_sub (T' := tbL_restore) ok_nil (kk m2 h)
  refine m_aload_n rfl rfl rfl ?_
  refine m_aload_n rfl rfl rfl ?_
  refine m_csw rfl rfl lk_9_227 (c_la_restore hl (c_caRst hl hI.2.2.1.2 hI.2.2.2.2.1.1 hI.2.2.2.2.1.2.1 hI.2.2.2.2.1.2.2) hr) (st := []) rfl rfl (Nat.le_of_ble_eq_true rfl) (Nat.le_of_ble_eq_true rfl) (Nat.le_of_ble_eq_true rfl) (show cu + 1 ≤ 603072 by omega) (show su + 6 ≤ 7186538 by omega) ?_
  refine m_istore rfl rfl (Nat.le_of_ble_eq_true rfl) rfl ?_
  refine m_aload_n rfl rfl rfl ?_
  refine m_cv1 rfl rfl lk_9_229 (c_morestore hl hx1) (st := []) rfl (Nat.le_of_ble_eq_true rfl) (Nat.le_of_ble_eq_true rfl) rfl rfl (Nat.le_of_ble_eq_true rfl) (Nat.le_of_ble_eq_true rfl) (Nat.le_of_ble_eq_true rfl) (show cu + 1 ≤ 603072 by omega) (show su + 6 ≤ 7186538 by omega) ?_
  exact lw_tail (off := 3) hl ⟨rfl, rfl, rfl, rfl, rfl, rfl, rfl, rfl, rfl, rfl, rfl, rfl, rfl, rfl, rfl⟩ (by decide) h7 ha (by omega) (by omega) (m_wid (cu' := cu + 3) (su' := su + 18) (by omega) (by omega) (kf _ hz))

