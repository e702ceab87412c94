/-! the law's calls, one by one (2) -/
theorem moLoad_n {m : zkM} (hA : moA m) : vf_n64 (moLoad m) := by
  have h5 := (moA_n hA).2
  have h1 := moLf_lt hA (moN m) (Nat.le_refl _)
  unfold moLoad
  split
  · next hs => exact ((moLok_of hA).2 hs).2
  · exact n64_lt h1 (by omega)
theorem moHyp_n {m : zkM} (hA : moA m) : vf_n64 (moHyp m) := by
  have h5 := (moA_n hA).2
  have h1 := moHf_lt hA (moN m) (Nat.le_refl _)
  unfold moHyp
  split
  · next hs => exact ((moHok_of hA).2 hs).2.2
  · exact n64_lt h1 (by omega)
def tbL_taskCount : List (Nat × Instr × Nat) := [(734, .aload_n 1, 735), (735, .invokevirtual 148, 738), (738, .aload_n 2, 739), (739, .invokevirtual 151, 742), (742, .if_icmp .eq 1110, 745)]
theorem okL_taskCount : zkOk (iLaw tbL_taskCount) := by unfold zkOk; decide +kernel
set_option maxRecDepth 10000 in
theorem lw_taskCount {l : Launch} {G : zkG} {b L j cu su : Nat} {xs : Nat → Int32} {mem : zkM} (hl : l.stackTraces = false) (hL : L ≤ 2560) (hj : 5 * j + 5 ≤ L) (hI : zInv mem) (hcu : cu + 3 ≤ 603072) (hsu : su + 18 ≤ 7186538) (kk : ∀ m2 : zkM, zInv m2 → zkW l G (iLaw []) (lw_K G b L xs) (cu + 3) (su + 18) 1852 (lsL b j none none none none) [] m2) : zkW l G (iLaw []) (lw_K G b L xs) cu su 734 (lsL b j none none none none) [] mem := by
  refine zkW_sub okL_taskCount ?_
  obtain ⟨T0, hT0⟩ := hI.1
  obtain ⟨hA, hP, h34, h16, h18, h07, hsn, h42, h22, h511, h48⟩ := pm_c hT0
  obtain ⟨nA, n9, n11, n36, n39, n34, n26, n43, n42⟩ := pm_m hT0
  have kf := fun m2 h => zkW_sub (T' := tbL_taskCount) ok_nil (kk m2 h)
  have hx := op_count hI
  refine m_aload_n rfl rfl rfl ?_
  refine m_cv1 rfl rfl lk_9_148 (c_caCount hl) (as := []) (st := []) rfl (Nat.le_of_ble_eq_true rfl) (Nat.le_of_ble_eq_true rfl) rfl rfl (Nat.le_of_ble_eq_true rfl) (Nat.le_of_ble_eq_true rfl) (Nat.le_of_ble_eq_true rfl) (show cu ≤ 603072 by omega) (show su ≤ 7186538 by omega) ?_
  refine m_aload_n rfl rfl rfl ?_
  refine m_cv1 rfl rfl lk_9_151 (c_motaskCount hl) (as := []) (st := _) rfl (Nat.le_of_ble_eq_true rfl) (Nat.le_of_ble_eq_true rfl) rfl rfl (Nat.le_of_ble_eq_true rfl) (Nat.le_of_ble_eq_true rfl) (Nat.le_of_ble_eq_true rfl) (show cu ≤ 603072 by omega) (show su ≤ 7186538 by omega) ?_
  exact lw_cmp2 rfl (by decide) hx.1 hx.2 (m_wid (cu' := cu + 3) (su' := su + 18) (by omega) (by omega) (kf _ (op_thr hI)))

def tbL_task : List (Nat × Instr × Nat) := [(747, .aload_n 1, 748), (748, .aload_n 0, 749), (749, .iload 5, 751), (751, .iconst 1, 752), (752, .iadd, 753), (753, .iaload, 754), (754, .aload_n 0, 755), (755, .iload 5, 757), (757, .iconst 2, 758), (758, .iadd, 759), (759, .iaload, 760), (760, .aload_n 3, 761), (761, .invokestatic 152, 764), (764, .istore 6, 766), (766, .aload_n 2, 767), (767, .aload_n 0, 768), (768, .iload 5, 770), (770, .iconst 1, 771), (771, .iadd, 772), (772, .iaload, 773), (773, .aload_n 0, 774), (774, .iload 5, 776), (776, .iconst 2, 777), (777, .iadd, 778), (778, .iaload, 779), (779, .invokevirtual 154, 782), (782, .istore 7, 784), (784, .aload_n 2, 785), (785, .invokevirtual 119, 788), (788, .iload 6, 790), (790, .if_icmp .eq 5, 793), (795, .iload 6, 797), (797, .ifCond .ne 15, 800), (800, .aload_n 3, 801), (801, .iconst 0, 802), (802, .laload, 803), (803, .iload 7, 805), (805, .i2l, 806), (806, .lcmp, 807), (807, .ifCond .eq 5, 810), (812, .goto 1040, 815)]
theorem okL_task : zkOk (iLaw tbL_task) := by unfold zkOk; decide +kernel
set_option maxRecDepth 10000 in
theorem lw_task {l : Launch} {G : zkG} {b L j cu su : Nat} {xs : Nat → Int32} {mem : zkM} (hl : l.stackTraces = false) (hL : L ≤ 2560) (hj : 5 * j + 5 ≤ L) (hI : zInv mem) (hcu : cu + 3 ≤ 603072) (hsu : su + 18 ≤ 7186538) (kk : ∀ m2 : zkM, zInv m2 → zkW l G (iLaw []) (lw_K G b L xs) (cu + 3) (su + 18) 1852 (lsL b j none none none none) [] m2) : zkW l G (iLaw []) (lw_K G b L xs) cu su 747 (lsL b j none none none none) [] mem := by
  refine zkW_sub okL_task ?_
  obtain ⟨T0, hT0⟩ := hI.1
  obtain ⟨hA, hP, h34, h16, h18, h07, hsn, h42, h22, h511, h48⟩ := pm_c hT0
  have r1 := i32_inR (xs (5 * j + 1))
  have r2 := i32_inR (xs (5 * j + 2))
  obtain ⟨g, c, hr, ho⟩ := op_task hI (xs (5 * j + 1)).toInt (xs (5 * j + 2)).toInt
  obtain ⟨h7, ha, hz, T1, hT1, hT2⟩ := ho
  obtain ⟨nA, n9, n11, n36, n39, n34, n26, n43, n42⟩ := pm_m hT2
  have kf := fun m2 h => zkW_sub (T' := tbL_task) ok_nil (kk m2 h)
  refine m_aload_n rfl rfl rfl ?_
  refine m_arg (j := j) (k := 1) ⟨rfl, rfl, rfl, rfl, rfl⟩ rfl rfl (by omega) hL ?_
  refine m_arg (j := j) (k := 2) ⟨rfl, rfl, rfl, rfl, rfl⟩ rfl rfl (by omega) hL ?_
  refine m_aload_n rfl rfl rfl ?_
  refine m_csw rfl rfl lk_9_152 (c_la_task hl (c_caTask hl hA.1 r1 r2) hr) (st := []) rfl rfl (Nat.le_of_ble_eq_true rfl) (Nat.le_of_ble_eq_true rfl) (Nat.le_of_ble_eq_true rfl) (show cu + 2 ≤ 603072 by omega) (show su + 12 ≤ 7186538 by omega) ?_
  refine m_istore rfl rfl (Nat.le_of_ble_eq_true rfl) rfl ?_
  refine m_aload_n rfl rfl rfl ?_
  refine m_arg (j := j) (k := 1) ⟨rfl, rfl, rfl, rfl, rfl⟩ rfl rfl (by omega) hL ?_
  refine m_arg (j := j) (k := 2) ⟨rfl, rfl, rfl, rfl, rfl⟩ rfl rfl (by omega) hL ?_
  refine m_cv1 rfl rfl lk_9_154 (c_motask hl nA r1 r2) (st := []) rfl (Nat.le_of_ble_eq_true rfl) (Nat.le_of_ble_eq_true rfl) rfl rfl (Nat.le_of_ble_eq_true rfl) (Nat.le_of_ble_eq_true rfl) (Nat.le_of_ble_eq_true rfl) (show cu + 2 ≤ 603072 by omega) (show su + 12 ≤ 7186538 by omega) ?_
  exact lw_tail (off := 1040) hl ⟨rfl, rfl, rfl, rfl, rfl, rfl, rfl, rfl, rfl, rfl, rfl, rfl, rfl, rfl, rfl⟩ (by decide) h7 ha (by omega) (by omega) (m_wid (cu' := cu + 3) (su' := su + 18) (by omega) (by omega) (kf _ hz))

def tbL_ceiling : List (Nat × Instr × Nat) := [(815, .aload_n 1, 816), (816, .aload_n 0, 817), (817, .iload 5, 819), (819, .iconst 1, 820), (820, .iadd, 821), (821, .iaload, 822), (822, .aload_n 3, 823), (823, .invokestatic 155, 826), (826, .istore 6, 828), (828, .aload_n 2, 829), (829, .aload_n 0, 830), (830, .iload 5, 832), (832, .iconst 1, 833), (833, .iadd, 834), (834, .iaload, 835), (835, .invokevirtual 157, 838), (838, .istore 7, 840), (840, .aload_n 2, 841), (841, .invokevirtual 119, 844), (844, .iload 6, 846), (846, .if_icmp .eq 5, 849), (851, .iload 6, 853), (853, .ifCond .ne 15, 856), (856, .aload_n 3, 857), (857, .iconst 0, 858), (858, .laload, 859), (859, .iload 7, 861), (861, .i2l, 862), (862, .lcmp, 863), (863, .ifCond .eq 5, 866), (868, .goto 984, 871)]
theorem okL_ceiling : zkOk (iLaw tbL_ceiling) := by unfold zkOk; decide +kernel
set_option maxRecDepth 10000 in
theorem lw_ceiling {l : Launch} {G : zkG} {b L j cu su : Nat} {xs : Nat → Int32} {mem : zkM} (hl : l.stackTraces = false) (hL : L ≤ 2560) (hj : 5 * j + 5 ≤ L) (hI : zInv mem) (hcu : cu + 3 ≤ 603072) (hsu : su + 18 ≤ 7186538) (kk : ∀ m2 : zkM, zInv m2 → zkW l G (iLaw []) (lw_K G b L xs) (cu + 3) (su + 18) 1852 (lsL b j none none none none) [] m2) : zkW l G (iLaw []) (lw_K G b L xs) cu su 815 (lsL b j none none none none) [] mem := by
  refine zkW_sub okL_ceiling ?_
  obtain ⟨T0, hT0⟩ := hI.1
  obtain ⟨hA, hP, h34, h16, h18, h07, hsn, h42, h22, h511, h48⟩ := pm_c hT0
  have r1 := i32_inR (xs (5 * j + 1))
  obtain ⟨g, c, hr, ho⟩ := op_ceiling hI (xs (5 * j + 1)).toInt
  obtain ⟨h7, ha, hz, T1, hT1, hT2⟩ := ho
  obtain ⟨nA, n9, n11, n36, n39, n34, n26, n43, n42⟩ := pm_m hT2
  have kf := fun m2 h => zkW_sub (T' := tbL_ceiling) ok_nil (kk m2 h)
  refine m_aload_n rfl rfl rfl ?_
  refine m_arg (j := j) (k := 1) ⟨rfl, rfl, rfl, rfl, rfl⟩ rfl rfl (by omega) hL ?_
  refine m_aload_n rfl rfl rfl ?_
  refine m_csw rfl rfl lk_9_155 (c_la_ceiling hl (c_caCei hl r1) hr) (st := []) rfl rfl (Nat.le_of_ble_eq_true rfl) (Nat.le_of_ble_eq_true rfl) (Nat.le_of_ble_eq_true rfl) (show cu + 1 ≤ 603072 by omega) (show su + 6 ≤ 7186538 by omega) ?_
  refine m_istore rfl rfl (Nat.le_of_ble_eq_true rfl) rfl ?_
  refine m_aload_n rfl rfl rfl ?_
  refine m_arg (j := j) (k := 1) ⟨rfl, rfl, rfl, rfl, rfl⟩ rfl rfl (by omega) hL ?_
  refine m_cv1 rfl rfl lk_9_157 (c_moceiling hl nA r1) (st := []) rfl (Nat.le_of_ble_eq_true rfl) (Nat.le_of_ble_eq_true rfl) rfl rfl (Nat.le_of_ble_eq_true rfl) (Nat.le_of_ble_eq_true rfl) (Nat.le_of_ble_eq_true rfl) (show cu + 1 ≤ 603072 by omega) (show su + 6 ≤ 7186538 by omega) ?_
  exact lw_tail (off := 984) hl ⟨rfl, rfl, rfl, rfl, rfl, rfl, rfl, rfl, rfl, rfl, rfl, rfl, rfl, rfl, rfl⟩ (by decide) h7 ha (by omega) (by omega) (m_wid (cu' := cu + 3) (su' := su + 18) (by omega) (by omega) (kf _ hz))

def tbL_blocking : List (Nat × Instr × Nat) := [(871, .aload_n 1, 872), (872, .aload_n 0, 873), (873, .iload 5, 875), (875, .iconst 1, 876), (876, .iadd, 877), (877, .iaload, 878), (878, .aload_n 3, 879), (879, .invokestatic 158, 882), (882, .istore 6, 884), (884, .aload_n 2, 885), (885, .aload_n 0, 886), (886, .iload 5, 888), (888, .iconst 1, 889), (889, .iadd, 890), (890, .iaload, 891), (891, .invokevirtual 160, 894), (894, .istore 7, 896), (896, .aload_n 2, 897), (897, .invokevirtual 119, 900), (900, .iload 6, 902), (902, .if_icmp .eq 5, 905), (907, .iload 6, 909), (909, .ifCond .ne 15, 912), (912, .aload_n 3, 913), (913, .iconst 0, 914), (914, .laload, 915), (915, .iload 7, 917), (917, .i2l, 918), (918, .lcmp, 919), (919, .ifCond .eq 5, 922), (924, .goto 928, 927)]
theorem okL_blocking : zkOk (iLaw tbL_blocking) := by unfold zkOk; decide +kernel
set_option maxRecDepth 10000 in
theorem lw_blocking {l : Launch} {G : zkG} {b L j cu su : Nat} {xs : Nat → Int32} {mem : zkM} (hl : l.stackTraces = false) (hL : L ≤ 2560) (hj : 5 * j + 5 ≤ L) (hI : zInv mem) (hcu : cu + 3 ≤ 603072) (hsu : su + 18 ≤ 7186538) (kk : ∀ m2 : zkM, zInv m2 → zkW l G (iLaw []) (lw_K G b L xs) (cu + 3) (su + 18) 1852 (lsL b j none none none none) [] m2) : zkW l G (iLaw []) (lw_K G b L xs) cu su 871 (lsL b j none none none none) [] mem := by
  refine zkW_sub okL_blocking ?_
  obtain ⟨T0, hT0⟩ := hI.1
  obtain ⟨hA, hP, h34, h16, h18, h07, hsn, h42, h22, h511, h48⟩ := pm_c hT0
  have r1 := i32_inR (xs (5 * j + 1))
  obtain ⟨g, c, hr, ho⟩ := op_blocking hI (xs (5 * j + 1)).toInt
  obtain ⟨h7, ha, hz, T1, hT1, hT2⟩ := ho
  obtain ⟨nA, n9, n11, n36, n39, n34, n26, n43, n42⟩ := pm_m hT2
  have kf := fun m2 h => zkW_sub (T' := tbL_blocking) ok_nil (kk m2 h)
  refine m_aload_n rfl rfl rfl ?_
  refine m_arg (j := j) (k := 1) ⟨rfl, rfl, rfl, rfl, rfl⟩ rfl rfl (by omega) hL ?_
  refine m_aload_n rfl rfl rfl ?_
  refine m_csw rfl rfl lk_9_158 (c_la_blocking hl (c_caBlk hl hA r1) hr) (st := []) rfl rfl (Nat.le_of_ble_eq_true rfl) (Nat.le_of_ble_eq_true rfl) (Nat.le_of_ble_eq_true rfl) (show cu + 1 ≤ 603072 by omega) (show su + 6 ≤ 7186538 by omega) ?_
  refine m_istore rfl rfl (Nat.le_of_ble_eq_true rfl) rfl ?_
  refine m_aload_n rfl rfl rfl ?_
  refine m_arg (j := j) (k := 1) ⟨rfl, rfl, rfl, rfl, rfl⟩ rfl rfl (by omega) hL ?_
  refine m_cv1 rfl rfl lk_9_160 (c_moblocking hl nA r1) (st := []) rfl (Nat.le_of_ble_eq_true rfl) (Nat.le_of_ble_eq_true rfl) rfl rfl (Nat.le_of_ble_eq_true rfl) (Nat.le_of_ble_eq_true rfl) (Nat.le_of_ble_eq_true rfl) (show cu + 1 ≤ 603072 by omega) (show su + 6 ≤ 7186538 by omega) ?_
  exact lw_tail (off := 928) hl ⟨rfl, rfl, rfl, rfl, rfl, rfl, rfl, rfl, rfl, rfl, rfl, rfl, rfl, rfl, rfl⟩ (by decide) h7 ha (by omega) (by omega) (m_wid (cu' := cu + 3) (su' := su + 18) (by omega) (by omega) (kf _ hz))

def tbL_bound : List (Nat × Instr × Nat) := [(927, .aload_n 1, 928), (928, .aload_n 0, 929), (929, .iload 5, 931), (931, .iconst 1, 932), (932, .iadd, 933), (933, .iaload, 934), (934, .aload_n 3, 935), (935, .invokestatic 161, 938), (938, .istore 6, 940), (940, .aload_n 2, 941), (941, .aload_n 0, 942), (942, .iload 5, 944), (944, .iconst 1, 945), (945, .iadd, 946), (946, .iaload, 947), (947, .invokevirtual 163, 950), (950, .istore 7, 952), (952, .aload_n 2, 953), (953, .invokevirtual 119, 956), (956, .iload 6, 958), (958, .if_icmp .eq 5, 961), (963, .iload 6, 965), (965, .ifCond .ne 15, 968), (968, .aload_n 3, 969), (969, .iconst 0, 970), (970, .laload, 971), (971, .iload 7, 973), (973, .i2l, 974), (974, .lcmp, 975), (975, .ifCond .eq 5, 978), (980, .goto 872, 983)]
theorem okL_bound : zkOk (iLaw tbL_bound) := by unfold zkOk; decide +kernel
set_option maxRecDepth 10000 in
theorem lw_bound {l : Launch} {G : zkG} {b L j cu su : Nat} {xs : Nat → Int32} {mem : zkM} (hl : l.stackTraces = false) (hL : L ≤ 2560) (hj : 5 * j + 5 ≤ L) (hI : zInv mem) (hcu : cu + 3 ≤ 603072) (hsu : su + 18 ≤ 7186538) (kk : ∀ m2 : zkM, zInv m2 → zkW l G (iLaw []) (lw_K G b L xs) (cu + 3) (su + 18) 1852 (lsL b j none none none none) [] m2) : zkW l G (iLaw []) (lw_K G b L xs) cu su 927 (lsL b j none none none none) [] mem := by
  refine zkW_sub okL_bound ?_
  obtain ⟨T0, hT0⟩ := hI.1
  obtain ⟨hA, hP, h34, h16, h18, h07, hsn, h42, h22, h511, h48⟩ := pm_c hT0
  have r1 := i32_inR (xs (5 * j + 1))
  obtain ⟨g, c, hr, ho⟩ := op_bound hI (xs (5 * j + 1)).toInt
  obtain ⟨h7, ha, hz, T1, hT1, hT2⟩ := ho
  obtain ⟨nA, n9, n11, n36, n39, n34, n26, n43, n42⟩ := pm_m hT2
  have kf := fun m2 h => zkW_sub (T' := tbL_bound) ok_nil (kk m2 h)
  refine m_aload_n rfl rfl rfl ?_
  refine m_arg (j := j) (k := 1) ⟨rfl, rfl, rfl, rfl, rfl⟩ rfl rfl (by omega) hL ?_
  refine m_aload_n rfl rfl rfl ?_
  refine m_csw rfl rfl lk_9_161 (c_la_bound hl (c_caBnd hl hA r1) hr) (st := []) rfl rfl (Nat.le_of_ble_eq_true rfl) (Nat.le_of_ble_eq_true rfl) (Nat.le_of_ble_eq_true rfl) (show cu + 3 ≤ 603072 by omega) (show su + 18 ≤ 7186538 by omega) ?_
  refine m_istore rfl rfl (Nat.le_of_ble_eq_true rfl) rfl ?_
  refine m_aload_n rfl rfl rfl ?_
  refine m_arg (j := j) (k := 1) ⟨rfl, rfl, rfl, rfl, rfl⟩ rfl rfl (by omega) hL ?_
  refine m_cv1 rfl rfl lk_9_163 (c_mobound hl nA r1) (st := []) rfl (Nat.le_of_ble_eq_true rfl) (Nat.le_of_ble_eq_true rfl) rfl rfl (Nat.le_of_ble_eq_true rfl) (Nat.le_of_ble_eq_true rfl) (Nat.le_of_ble_eq_true rfl) (show cu + 3 ≤ 603072 by omega) (show su + 18 ≤ 7186538 by omega) ?_
  exact lw_tail (off := 872) hl ⟨rfl, rfl, rfl, rfl, rfl, rfl, rfl, rfl, rfl, rfl, rfl, rfl, rfl, rfl, rfl⟩ (by decide) h7 ha (by omega) (by omega) (m_wid (cu' := cu + 3) (su' := su + 18) (by omega) (by omega) (kf _ hz))

def tbL_witness : List (Nat × Instr × Nat) := [(983, .aload_n 1, 984), (984, .aload_n 0, 985), (985, .iload 5, 987), (987, .iconst 1, 988), (988, .iadd, 989), (989, .iaload, 990), (990, .aload_n 3, 991), (991, .invokestatic 164, 994), (994, .istore 6, 996), (996, .aload_n 2, 997), (997, .aload_n 0, 998), (998, .iload 5, 1000), (1000, .iconst 1, 1001), (1001, .iadd, 1002), (1002, .iaload, 1003), (1003, .invokevirtual 166, 1006), (1006, .istore 7, 1008), (1008, .aload_n 2, 1009), (1009, .invokevirtual 119, 1012), (1012, .iload 6, 1014), (1014, .if_icmp .eq 5, 1017), (1019, .iload 6, 1021), (1021, .ifCond .ne 15, 1024), (1024, .aload_n 3, 1025), (1025, .iconst 0, 1026), (1026, .laload, 1027), (1027, .iload 7, 1029), (1029, .i2l, 1030), (1030, .lcmp, 1031), (1031, .ifCond .eq 5, 1034), (1036, .goto 816, 1039)]
theorem okL_witness : zkOk (iLaw tbL_witness) := by unfold zkOk; decide +kernel
set_option maxRecDepth 10000 in
theorem lw_witness {l : Launch} {G : zkG} {b L j cu su : Nat} {xs : Nat → Int32} {mem : zkM} (hl : l.stackTraces = false) (hL : L ≤ 2560) (hj : 5 * j + 5 ≤ L) (hI : zInv mem) (hcu : cu + 3 ≤ 603072) (hsu : su + 18 ≤ 7186538) (kk : ∀ m2 : zkM, zInv m2 → zkW l G (iLaw []) (lw_K G b L xs) (cu + 3) (su + 18) 1852 (lsL b j none none none none) [] m2) : zkW l G (iLaw []) (lw_K G b L xs) cu su 983 (lsL b j none none none none) [] mem := by
  refine zkW_sub okL_witness ?_
  obtain ⟨T0, hT0⟩ := hI.1
  obtain ⟨hA, hP, h34, h16, h18, h07, hsn, h42, h22, h511, h48⟩ := pm_c hT0
  have r1 := i32_inR (xs (5 * j + 1))
  obtain ⟨g, c, hr, ho⟩ := op_witness hI (xs (5 * j + 1)).toInt
  obtain ⟨h7, ha, hz, T1, hT1, hT2⟩ := ho
  obtain ⟨nA, n9, n11, n36, n39, n34, n26, n43, n42⟩ := pm_m hT2
  have kf := fun m2 h => zkW_sub (T' := tbL_witness) ok_nil (kk m2 h)
  refine m_aload_n rfl rfl rfl ?_
  refine m_arg (j := j) (k := 1) ⟨rfl, rfl, rfl, rfl, rfl⟩ rfl rfl (by omega) hL ?_
  refine m_aload_n rfl rfl rfl ?_
  refine m_csw rfl rfl lk_9_164 (c_la_witness hl (c_caWit hl hA r1) hr) (st := []) rfl rfl (Nat.le_of_ble_eq_true rfl) (Nat.le_of_ble_eq_true rfl) (Nat.le_of_ble_eq_true rfl) (show cu + 3 ≤ 603072 by omega) (show su + 18 ≤ 7186538 by omega) ?_
  refine m_istore rfl rfl (Nat.le_of_ble_eq_true rfl) rfl ?_
  refine m_aload_n rfl rfl rfl ?_
  refine m_arg (j := j) (k := 1) ⟨rfl, rfl, rfl, rfl, rfl⟩ rfl rfl (by omega) hL ?_
  refine m_cv1 rfl rfl lk_9_166 (c_mowitness hl nA r1) (st := []) rfl (Nat.le_of_ble_eq_true rfl) (Nat.le_of_ble_eq_true rfl) rfl rfl (Nat.le_of_ble_eq_true rfl) (Nat.le_of_ble_eq_true rfl) (Nat.le_of_ble_eq_true rfl) (show cu + 3 ≤ 603072 by omega) (show su + 18 ≤ 7186538 by omega) ?_
  exact lw_tail (off := 816) hl ⟨rfl, rfl, rfl, rfl, rfl, rfl, rfl, rfl, rfl, rfl, rfl, rfl, rfl, rfl, rfl⟩ (by decide) h7 ha (by omega) (by omega) (m_wid (cu' := cu + 3) (su' := su + 18) (by omega) (by omega) (kf _ hz))

def tbL_isSchedulable : List (Nat × Instr × Nat) := [(1039, .aload_n 1, 1040), (1040, .invokevirtual 167, 1043), (1043, .aload_n 2, 1044), (1044, .invokevirtual 171, 1047), (1047, .if_icmp .eq 805, 1050)]
theorem okL_isSchedulable : zkOk (iLaw tbL_isSchedulable) := by unfold zkOk; decide +kernel
set_option maxRecDepth 10000 in
theorem lw_isSchedulable {l : Launch} {G : zkG} {b L j cu su : Nat} {xs : Nat → Int32} {mem : zkM} (hl : l.stackTraces = false) (hL : L ≤ 2560) (hj : 5 * j + 5 ≤ L) (hI : zInv mem) (hcu : cu + 3 ≤ 603072) (hsu : su + 18 ≤ 7186538) (kk : ∀ m2 : zkM, zInv m2 → zkW l G (iLaw []) (lw_K G b L xs) (cu + 3) (su + 18) 1852 (lsL b j none none none none) [] m2) : zkW l G (iLaw []) (lw_K G b L xs) cu su 1039 (lsL b j none none none none) [] mem := by
  refine zkW_sub okL_isSchedulable ?_
  obtain ⟨T0, hT0⟩ := hI.1
  obtain ⟨hA, hP, h34, h16, h18, h07, hsn, h42, h22, h511, h48⟩ := pm_c hT0
  obtain ⟨nA, n9, n11, n36, n39, n34, n26, n43, n42⟩ := pm_m hT0
  have kf := fun m2 h => zkW_sub (T' := tbL_isSchedulable) ok_nil (kk m2 h)
  have hx := op_sched hI
  refine m_aload_n rfl rfl rfl ?_
  refine m_cv1 rfl rfl lk_9_167 (c_caSch hl hA) (as := []) (st := []) rfl (Nat.le_of_ble_eq_true rfl) (Nat.le_of_ble_eq_true rfl) rfl rfl (Nat.le_of_ble_eq_true rfl) (Nat.le_of_ble_eq_true rfl) (Nat.le_of_ble_eq_true rfl) (show cu ≤ 603072 by omega) (show su ≤ 7186538 by omega) ?_
  refine m_aload_n rfl rfl rfl ?_
  refine m_cv1 rfl rfl lk_9_171 (c_moisSched hl nA) (as := []) (st := _) rfl (Nat.le_of_ble_eq_true rfl) (Nat.le_of_ble_eq_true rfl) rfl rfl (Nat.le_of_ble_eq_true rfl) (Nat.le_of_ble_eq_true rfl) (Nat.le_of_ble_eq_true rfl) (show cu ≤ 603072 by omega) (show su ≤ 7186538 by omega) ?_
  exact lw_cmp2 rfl (by decide) (by rw [hx]) (inR_b _) (m_wid (cu' := cu + 3) (su' := su + 18) (by omega) (by omega) (kf _ (op_thr hI)))

def tbL_load : List (Nat × Instr × Nat) := [(1052, .aload_n 1, 1053), (1053, .invokevirtual 172, 1056), (1056, .dstore 6, 1058), (1058, .aload_n 2, 1059), (1059, .invokevirtual 175, 1062), (1062, .dstore 8, 1064), (1064, .dload 6, 1066), (1066, .dload 8, 1068), (1068, .dcmp .l, 1069), (1069, .ifCond .eq 21, 1072), (1072, .dload 6, 1074), (1074, .dload 6, 1076), (1076, .dcmp .l, 1077), (1077, .ifCond .eq 11, 1080), (1080, .dload 8, 1082), (1082, .dload 8, 1084), (1084, .dcmp .l, 1085), (1085, .ifCond .ne 5, 1088), (1090, .goto 762, 1093)]
theorem okL_load : zkOk (iLaw tbL_load) := by unfold zkOk; decide +kernel
set_option maxRecDepth 10000 in
theorem lw_load {l : Launch} {G : zkG} {b L j cu su : Nat} {xs : Nat → Int32} {mem : zkM} (hl : l.stackTraces = false) (hL : L ≤ 2560) (hj : 5 * j + 5 ≤ L) (hI : zInv mem) (hcu : cu + 3 ≤ 603072) (hsu : su + 18 ≤ 7186538) (kk : ∀ m2 : zkM, zInv m2 → zkW l G (iLaw []) (lw_K G b L xs) (cu + 3) (su + 18) 1852 (lsL b j none none none none) [] m2) : zkW l G (iLaw []) (lw_K G b L xs) cu su 1052 (lsL b j none none none none) [] mem := by
  refine zkW_sub okL_load ?_
  obtain ⟨T0, hT0⟩ := hI.1
  obtain ⟨hA, hP, h34, h16, h18, h07, hsn, h42, h22, h511, h48⟩ := pm_c hT0
  obtain ⟨nA, n9, n11, n36, n39, n34, n26, n43, n42⟩ := pm_m hT0
  have kf := fun m2 h => zkW_sub (T' := tbL_load) ok_nil (kk m2 h)
  have hx := op_load hI
  refine m_aload_n rfl rfl rfl ?_
  refine m_cv1 rfl rfl lk_9_172 (c_caLoad hl hA hx.2.2.1) (as := []) (st := []) rfl (Nat.le_of_ble_eq_true rfl) (Nat.le_of_ble_eq_true rfl) rfl rfl (Nat.le_of_ble_eq_true rfl) (Nat.le_of_ble_eq_true rfl) (Nat.le_of_ble_eq_true rfl) (show cu ≤ 603072 by omega) (show su ≤ 7186538 by omega) ?_
  refine m_dstore rfl rfl (Nat.le_of_ble_eq_true rfl) rfl ?_
  refine m_aload_n rfl rfl rfl ?_
  refine m_cv1 rfl rfl lk_9_175 (c_moload hl nA hx.2.1) (as := []) (st := []) rfl (Nat.le_of_ble_eq_true rfl) (Nat.le_of_ble_eq_true rfl) rfl rfl (Nat.le_of_ble_eq_true rfl) (Nat.le_of_ble_eq_true rfl) (Nat.le_of_ble_eq_true rfl) (show cu ≤ 603072 by omega) (show su ≤ 7186538 by omega) ?_
  refine m_dstore rfl rfl (Nat.le_of_ble_eq_true rfl) rfl ?_
  refine m_dload rfl rfl rfl ?_
  refine m_dload rfl rfl rfl ?_
  rw [hx.1]
  refine m_dceq rfl rfl (moLoad_n nA) ?_
  refine m_if_eq (tgt := 1090) rfl rfl (by decide) inR_0 (fun _ => ?_) (fun q => absurd rfl q)
  refine m_goto (tgt := 1852) rfl rfl (by decide) ?_
  exact m_fgt lsL_f (m_wid (cu' := cu + 3) (su' := su + 18) (by omega) (by omega) (kf _ (op_thr hI)))

def tbL_hyperbolicLoad : List (Nat × Instr × Nat) := [(1093, .aload_n 1, 1094), (1094, .invokevirtual 176, 1097), (1097, .dstore 6, 1099), (1099, .aload_n 2, 1100), (1100, .invokevirtual 179, 1103), (1103, .dstore 8, 1105), (1105, .dload 6, 1107), (1107, .dload 8, 1109), (1109, .dcmp .l, 1110), (1110, .ifCond .eq 21, 1113), (1113, .dload 6, 1115), (1115, .dload 6, 1117), (1117, .dcmp .l, 1118), (1118, .ifCond .eq 11, 1121), (1121, .dload 8, 1123), (1123, .dload 8, 1125), (1125, .dcmp .l, 1126), (1126, .ifCond .ne 5, 1129), (1131, .goto 721, 1134)]
theorem okL_hyperbolicLoad : zkOk (iLaw tbL_hyperbolicLoad) := by unfold zkOk; decide +kernel
set_option maxRecDepth 10000 in
theorem lw_hyperbolicLoad {l : Launch} {G : zkG} {b L j cu su : Nat} {xs : Nat → Int32} {mem : zkM} (hl : l.stackTraces = false) (hL : L ≤ 2560) (hj : 5 * j + 5 ≤ L) (hI : zInv mem) (hcu : cu + 3 ≤ 603072) (hsu : su + 18 ≤ 7186538) (kk : ∀ m2 : zkM, zInv m2 → zkW l G (iLaw []) (lw_K G b L xs) (cu + 3) (su + 18) 1852 (lsL b j none none none none) [] m2) : zkW l G (iLaw []) (lw_K G b L xs) cu su 1093 (lsL b j none none none none) [] mem := by
  refine zkW_sub okL_hyperbolicLoad ?_
  obtain ⟨T0, hT0⟩ := hI.1
  obtain ⟨hA, hP, h34, h16, h18, h07, hsn, h42, h22, h511, h48⟩ := pm_c hT0
  obtain ⟨nA, n9, n11, n36, n39, n34, n26, n43, n42⟩ := pm_m hT0
  have kf := fun m2 h => zkW_sub (T' := tbL_hyperbolicLoad) ok_nil (kk m2 h)
  have hx := op_load hI
  refine m_aload_n rfl rfl rfl ?_
  refine m_cv1 rfl rfl lk_9_176 (c_caHyp hl hA hx.2.2.2.2.2) (as := []) (st := []) rfl (Nat.le_of_ble_eq_true rfl) (Nat.le_of_ble_eq_true rfl) rfl rfl (Nat.le_of_ble_eq_true rfl) (Nat.le_of_ble_eq_true rfl) (Nat.le_of_ble_eq_true rfl) (show cu ≤ 603072 by omega) (show su ≤ 7186538 by omega) ?_
  refine m_dstore rfl rfl (Nat.le_of_ble_eq_true rfl) rfl ?_
  refine m_aload_n rfl rfl rfl ?_
  refine m_cv1 rfl rfl lk_9_179 (c_mohyper hl nA hx.2.2.2.2.1) (as := []) (st := []) rfl (Nat.le_of_ble_eq_true rfl) (Nat.le_of_ble_eq_true rfl) rfl rfl (Nat.le_of_ble_eq_true rfl) (Nat.le_of_ble_eq_true rfl) (Nat.le_of_ble_eq_true rfl) (show cu ≤ 603072 by omega) (show su ≤ 7186538 by omega) ?_
  refine m_dstore rfl rfl (Nat.le_of_ble_eq_true rfl) rfl ?_
  refine m_dload rfl rfl rfl ?_
  refine m_dload rfl rfl rfl ?_
  rw [hx.2.2.2.1]
  refine m_dceq rfl rfl (moHyp_n nA) ?_
  refine m_if_eq (tgt := 1131) rfl rfl (by decide) inR_0 (fun _ => ?_) (fun q => absurd rfl q)
  refine m_goto (tgt := 1852) rfl rfl (by decide) ?_
  exact m_fgt lsL_f (m_wid (cu' := cu + 3) (su' := su + 18) (by omega) (by omega) (kf _ (op_thr hI)))

