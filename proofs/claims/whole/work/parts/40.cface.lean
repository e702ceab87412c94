/-! the face -/
set_option maxRecDepth 10000 in
theorem c_caClear {l : Launch} {G : zkG} {mem : zkM} (hl : l.stackTraces = false) (h5 : 0 ≤ mem 0 0 5 ∧ mem 0 0 5 ≤ 5) (h4 : 0 ≤ mem 3 0 4 ∧ mem 3 0 4 ≤ 12) : zkCt l G i_Cw_clear 4 0 0 [vr 6 0] mem (zkR1 (vi (beRm mem).1) (beRm mem).2) := by
  refine zkCt_of hl ok_Cw_clear (by decide +kernel) rfl rfl (List.forall_mem_cons.mpr ⟨rfl, fun _ h => nomatch h⟩) (Nat.le_of_ble_eq_true rfl) ?_
  refine m_aload_n rfl rfl rfl ?_
  refine m_gr (k := 0) rfl rfl (Nat.le_of_ble_eq_true rfl) rfl rfl (by first | decide | assumption | (simp only [cnt]; omega)) ?_
  refine m_cv1 rfl rfl lk_6_30 (c_beRm hl h5 h4) rfl (by first | decide | assumption | (simp only [cnt]; omega)) (Nat.le_of_ble_eq_true rfl) rfl rfl (Nat.le_of_ble_eq_true rfl) (Nat.le_of_ble_eq_true rfl) (Nat.le_of_ble_eq_true rfl) (Nat.le_of_ble_eq_true rfl) (Nat.le_of_ble_eq_true rfl) ?_
  refine m_iret rfl rfl rfl (Nat.le_of_ble_eq_true rfl) (Nat.le_of_ble_eq_true rfl) ?_
  exact ⟨rfl, rfl⟩

set_option maxRecDepth 10000 in
theorem c_caAddTask {l : Launch} {G : zkG} {mem : zkM} (hl : l.stackTraces = false) {p pe dl of : Int} (h5 : 0 ≤ mem 0 0 5 ∧ mem 0 0 5 ≤ 5) (hp : inR p) (hpe : inR pe) (hdl : inR dl) (hof : inR of) (hq : ∀ i, i < 5 → inR (mem 5 i 4)) (h7 : inR (mem 0 0 7)) (h3 : mem 4 0 3 = 0 ∨ mem 4 0 3 = 1) (h44 : inR (mem 4 0 4)) (hb : inR (bePt mem p pe dl of).1) : zkCt l G i_Cw_addTask 7 1 6 [vr 6 0, vi p, vi pe, vi dl, vi of] mem (zkRf (caAc (bePt mem p pe dl of).1) (bePt mem p pe dl of).2) := by
  refine zkCt_of hl ok_Cw_addTask (by decide +kernel) rfl rfl (List.forall_mem_cons.mpr ⟨rfl, (List.forall_mem_cons.mpr ⟨rfl, (List.forall_mem_cons.mpr ⟨rfl, (List.forall_mem_cons.mpr ⟨rfl, (List.forall_mem_cons.mpr ⟨rfl, fun _ h => nomatch h⟩)⟩)⟩)⟩)⟩) (Nat.le_of_ble_eq_true rfl) ?_
  refine m_aload_n rfl rfl rfl ?_
  refine m_gr (k := 0) rfl rfl (Nat.le_of_ble_eq_true rfl) rfl rfl (by first | decide | assumption | (simp only [cnt]; omega)) ?_
  refine m_iload_n rfl rfl rfl ?_
  refine m_iload_n rfl rfl rfl ?_
  refine m_iload_n rfl rfl rfl ?_
  refine m_iload rfl rfl rfl ?_
  refine m_cv1 rfl rfl lk_6_34 (c_bePut hl h5 hp hpe hdl hof hq h7 h3 h44) rfl (by first | decide | assumption | (simp only [cnt]; omega)) (Nat.le_of_ble_eq_true rfl) rfl rfl (Nat.le_of_ble_eq_true rfl) (Nat.le_of_ble_eq_true rfl) (Nat.le_of_ble_eq_true rfl) (Nat.le_of_ble_eq_true rfl) (Nat.le_of_ble_eq_true rfl) ?_
  refine m_csf rfl rfl lk_6_38 (c_caAc hl (by omega)) rfl rfl (Nat.le_of_ble_eq_true rfl) (Nat.le_of_ble_eq_true rfl) (Nat.le_of_ble_eq_true rfl) (Nat.le_of_ble_eq_true rfl) (Nat.le_of_ble_eq_true rfl) (fun v12 c12 => ?_) (fun E12 c12 => ?_)
  · have g := caAc_l c12
    subst g
    refine m_iret rfl rfl rfl (Nat.le_of_ble_eq_true rfl) (Nat.le_of_ble_eq_true rfl) ?_
    exact ⟨c12.symm, rfl⟩
  · exact x_out rfl (Nat.le_of_ble_eq_true rfl) (Nat.le_of_ble_eq_true rfl) ⟨c12.symm, rfl⟩

set_option maxRecDepth 10000 in
theorem c_caAddSeg {l : Launch} {G : zkG} {mem : zkM} (hl : l.stackTraces = false) {x r le : Int} (h5 : 0 ≤ mem 0 0 5 ∧ mem 0 0 5 ≤ 5) (hx : inR x) (hr : inR r) (hle : inR le) (h7 : inR (mem 0 0 7)) (h8 : ∀ i, i < 5 → 0 ≤ mem 5 i 8 ∧ mem 5 i 8 ≤ 6) (h17 : ∀ k, k < 4 → inR (mem 17 0 k)) (hq : ∀ i, i < 5 → inR (mem 5 i 4)) (hb : inR (bePg mem x r le).1) : zkCt l G i_Cw_addSegment 7 1 6 [vr 6 0, vi x, vi r, vi le] mem (zkRf (caAc (bePg mem x r le).1) (bePg mem x r le).2) := by
  refine zkCt_of hl ok_Cw_addSegment (by decide +kernel) rfl rfl (List.forall_mem_cons.mpr ⟨rfl, (List.forall_mem_cons.mpr ⟨rfl, (List.forall_mem_cons.mpr ⟨rfl, (List.forall_mem_cons.mpr ⟨rfl, fun _ h => nomatch h⟩)⟩)⟩)⟩) (Nat.le_of_ble_eq_true rfl) ?_
  refine m_aload_n rfl rfl rfl ?_
  refine m_gr (k := 0) rfl rfl (Nat.le_of_ble_eq_true rfl) rfl rfl (by first | decide | assumption | (simp only [cnt]; omega)) ?_
  refine m_iload_n rfl rfl rfl ?_
  refine m_iload_n rfl rfl rfl ?_
  refine m_iload_n rfl rfl rfl ?_
  refine m_cv1 rfl rfl lk_6_42 (c_bePutS hl h5 hx hr hle h7 h8 h17 hq) rfl (by first | decide | assumption | (simp only [cnt]; omega)) (Nat.le_of_ble_eq_true rfl) rfl rfl (Nat.le_of_ble_eq_true rfl) (Nat.le_of_ble_eq_true rfl) (Nat.le_of_ble_eq_true rfl) (Nat.le_of_ble_eq_true rfl) (Nat.le_of_ble_eq_true rfl) ?_
  refine m_csf rfl rfl lk_6_38 (c_caAc hl (by omega)) rfl rfl (Nat.le_of_ble_eq_true rfl) (Nat.le_of_ble_eq_true rfl) (Nat.le_of_ble_eq_true rfl) (Nat.le_of_ble_eq_true rfl) (Nat.le_of_ble_eq_true rfl) (fun v10 c10 => ?_) (fun E10 c10 => ?_)
  · have g := caAc_l c10
    subst g
    refine m_iret rfl rfl rfl (Nat.le_of_ble_eq_true rfl) (Nat.le_of_ble_eq_true rfl) ?_
    exact ⟨c10.symm, rfl⟩
  · exact x_out rfl (Nat.le_of_ble_eq_true rfl) (Nat.le_of_ble_eq_true rfl) ⟨c10.symm, rfl⟩

set_option maxRecDepth 10000 in
theorem c_caRequest {l : Launch} {G : zkG} {mem : zkM} (hl : l.stackTraces = false) {t le : Int} (ht : inR t) (hle : inR le) (h7 : inR (mem 0 0 7)) (h4 : 0 ≤ mem 3 0 4 ∧ mem 3 0 4 ≤ 12) (hb : inR (bePq mem t le).1) : zkCt l G i_Cw_request 7 1 6 [vr 6 0, vi t, vi le] mem (zkRf (caAc (bePq mem t le).1) (bePq mem t le).2) := by
  refine zkCt_of hl ok_Cw_request (by decide +kernel) rfl rfl (List.forall_mem_cons.mpr ⟨rfl, (List.forall_mem_cons.mpr ⟨rfl, (List.forall_mem_cons.mpr ⟨rfl, fun _ h => nomatch h⟩)⟩)⟩) (Nat.le_of_ble_eq_true rfl) ?_
  refine m_aload_n rfl rfl rfl ?_
  refine m_gr (k := 0) rfl rfl (Nat.le_of_ble_eq_true rfl) rfl rfl (by first | decide | assumption | (simp only [cnt]; omega)) ?_
  refine m_iload_n rfl rfl rfl ?_
  refine m_iload_n rfl rfl rfl ?_
  refine m_cv1 rfl rfl lk_6_49 (c_bePutQ hl ht hle h7 h4) rfl (by first | decide | assumption | (simp only [cnt]; omega)) (Nat.le_of_ble_eq_true rfl) rfl rfl (Nat.le_of_ble_eq_true rfl) (Nat.le_of_ble_eq_true rfl) (Nat.le_of_ble_eq_true rfl) (Nat.le_of_ble_eq_true rfl) (Nat.le_of_ble_eq_true rfl) ?_
  refine m_csf rfl rfl lk_6_38 (c_caAc hl (by omega)) rfl rfl (Nat.le_of_ble_eq_true rfl) (Nat.le_of_ble_eq_true rfl) (Nat.le_of_ble_eq_true rfl) (Nat.le_of_ble_eq_true rfl) (Nat.le_of_ble_eq_true rfl) (fun v9 c9 => ?_) (fun E9 c9 => ?_)
  · have g := caAc_l c9
    subst g
    refine m_iret rfl rfl rfl (Nat.le_of_ble_eq_true rfl) (Nat.le_of_ble_eq_true rfl) ?_
    exact ⟨c9.symm, rfl⟩
  · exact x_out rfl (Nat.le_of_ble_eq_true rfl) (Nat.le_of_ble_eq_true rfl) ⟨c9.symm, rfl⟩

set_option maxRecDepth 10000 in
theorem c_caPolicy {l : Launch} {G : zkG} {mem : zkM} (hl : l.stackTraces = false) {p : Int} (hp : inR p) (hb : inR (bePp mem p).1) : zkCt l G i_Cw_setPolicy 7 1 6 [vr 6 0, vi p] mem (zkRf (caAc (bePp mem p).1) (bePp mem p).2) := by
  refine zkCt_of hl ok_Cw_setPolicy (by decide +kernel) rfl rfl (List.forall_mem_cons.mpr ⟨rfl, (List.forall_mem_cons.mpr ⟨rfl, fun _ h => nomatch h⟩)⟩) (Nat.le_of_ble_eq_true rfl) ?_
  refine m_aload_n rfl rfl rfl ?_
  refine m_gr (k := 0) rfl rfl (Nat.le_of_ble_eq_true rfl) rfl rfl (by first | decide | assumption | (simp only [cnt]; omega)) ?_
  refine m_iload_n rfl rfl rfl ?_
  refine m_cv1 rfl rfl lk_6_53 (c_bePutP hl hp) rfl (by first | decide | assumption | (simp only [cnt]; omega)) (Nat.le_of_ble_eq_true rfl) rfl rfl (Nat.le_of_ble_eq_true rfl) (Nat.le_of_ble_eq_true rfl) (Nat.le_of_ble_eq_true rfl) (Nat.le_of_ble_eq_true rfl) (Nat.le_of_ble_eq_true rfl) ?_
  refine m_csf rfl rfl lk_6_38 (c_caAc hl (by omega)) rfl rfl (Nat.le_of_ble_eq_true rfl) (Nat.le_of_ble_eq_true rfl) (Nat.le_of_ble_eq_true rfl) (Nat.le_of_ble_eq_true rfl) (Nat.le_of_ble_eq_true rfl) (fun v8 c8 => ?_) (fun E8 c8 => ?_)
  · have g := caAc_l c8
    subst g
    refine m_iret rfl rfl rfl (Nat.le_of_ble_eq_true rfl) (Nat.le_of_ble_eq_true rfl) ?_
    exact ⟨c8.symm, rfl⟩
  · exact x_out rfl (Nat.le_of_ble_eq_true rfl) (Nat.le_of_ble_eq_true rfl) ⟨c8.symm, rfl⟩

def caAb (x : Int) : zkO := if x = -1 then Sum.inr xIO else if x = -2 then Sum.inr xIA else if x = -3 then Sum.inr xIS else if x = -4 then Sum.inr xUO else Sum.inl (some (vi (b2i (decide (x = 1)))))
theorem caAb_r {x : Int} {E : String} (h : caAc x = Sum.inr E) : caAb x = Sum.inr E := by
  unfold caAc at h
  unfold caAb
  split at h
  · next g => rw [if_pos g]; exact h
  · next g => rw [if_neg g]; split at h
              · next g => rw [if_pos g]; exact h
              · next g => rw [if_neg g]; split at h
                          · next g => rw [if_pos g]; exact h
                          · next g => rw [if_neg g]; split at h
                                      · next g => rw [if_pos g]; exact h
                                      · cases h
theorem caAb_l {x : Int} {v : Option zkV} (h : caAc x = Sum.inl v) : caAb x = Sum.inl (some (vi (b2i (decide (x = 1))))) := by
  unfold caAc at h
  unfold caAb
  split at h
  · cases h
  · next g => rw [if_neg g]; split at h
              · cases h
              · next g => rw [if_neg g]; split at h
                          · cases h
                          · next g => rw [if_neg g]; split at h
                                      · cases h
                                      · next g => rw [if_neg g]
set_option maxRecDepth 10000 in
theorem c_caServer {l : Launch} {G : zkG} {mem : zkM} (hl : l.stackTraces = false) {p b pe : Int} (h5 : 0 ≤ mem 0 0 5 ∧ mem 0 0 5 ≤ 5) (hp : inR p) (hb : inR b) (hpe : inR pe) (hq : ∀ i, i < 5 → inR (mem 5 i 4)) (h7 : inR (mem 0 0 7)) (h3 : mem 4 0 3 = 0 ∨ mem 4 0 3 = 1) (hb2 : inR (bePv mem p b pe).1) : zkCt l G i_Cw_setServer 7 1 6 [vr 6 0, vi p, vi b, vi pe] mem (zkRf (caAb (bePv mem p b pe).1) (bePv mem p b pe).2) := by
  refine zkCt_of hl ok_Cw_setServer (by decide +kernel) rfl rfl (List.forall_mem_cons.mpr ⟨rfl, (List.forall_mem_cons.mpr ⟨rfl, (List.forall_mem_cons.mpr ⟨rfl, (List.forall_mem_cons.mpr ⟨rfl, fun _ h => nomatch h⟩)⟩)⟩)⟩) (Nat.le_of_ble_eq_true rfl) ?_
  refine m_aload_n rfl rfl rfl ?_
  refine m_gr (k := 0) rfl rfl (Nat.le_of_ble_eq_true rfl) rfl rfl (by first | decide | assumption | (simp only [cnt]; omega)) ?_
  refine m_iload_n rfl rfl rfl ?_
  refine m_iload_n rfl rfl rfl ?_
  refine m_iload_n rfl rfl rfl ?_
  refine m_cv1 rfl rfl lk_6_46 (c_bePutV hl h5 hp hb hpe hq h7 h3) rfl (by first | decide | assumption | (simp only [cnt]; omega)) (Nat.le_of_ble_eq_true rfl) rfl rfl (Nat.le_of_ble_eq_true rfl) (Nat.le_of_ble_eq_true rfl) (Nat.le_of_ble_eq_true rfl) (Nat.le_of_ble_eq_true rfl) (Nat.le_of_ble_eq_true rfl) ?_
  refine m_csf rfl rfl lk_6_38 (c_caAc hl (by omega)) rfl rfl (Nat.le_of_ble_eq_true rfl) (Nat.le_of_ble_eq_true rfl) (Nat.le_of_ble_eq_true rfl) (Nat.le_of_ble_eq_true rfl) (Nat.le_of_ble_eq_true rfl) (fun v10 c10 => ?_) (fun E10 c10 => ?_)
  · have g2 := caAb_l c10
    have g := caAc_l c10
    subst g
    refine m_iconst rfl rfl ?_
    refine m_icmp_ne (tgt := 21) rfl rfl rfl (by omega) (by omega) (fun c14 => ?_) (fun c14 => ?_)
    · refine m_iconst rfl rfl ?_
      refine m_z0 rfl rfl rfl (Nat.le_of_ble_eq_true rfl) (Nat.le_of_ble_eq_true rfl) ?_
      refine ⟨?_, rfl⟩
      rw [g2]
      first | rw [decide_eq_true (show (bePv mem p b pe).1 = 1 by omega)] | rw [decide_eq_false (show ¬ (bePv mem p b pe).1 = 1 by omega)]
    · refine m_iconst rfl rfl ?_
      refine m_goto (tgt := 22) rfl rfl rfl ?_
      refine m_z1 rfl rfl rfl (Nat.le_of_ble_eq_true rfl) (Nat.le_of_ble_eq_true rfl) ?_
      refine ⟨?_, rfl⟩
      rw [g2]
      first | rw [decide_eq_true (show (bePv mem p b pe).1 = 1 by omega)] | rw [decide_eq_false (show ¬ (bePv mem p b pe).1 = 1 by omega)]
  · exact x_out rfl (Nat.le_of_ble_eq_true rfl) (Nat.le_of_ble_eq_true rfl) ⟨(caAb_r c10).symm, rfl⟩

def caApp (m : zkM) (x : Int) : zkO × zkM := if ¬ (32 ≤ x ∧ x ≤ 126) then (Sum.inr xIA, m) else if 60 ≤ m 2 0 2 then (Sum.inr xIS, m) else (Sum.inl (some (vi (rdPut m x).1)), (rdPut m x).2)
set_option maxRecDepth 10000 in
theorem c_caAppend {l : Launch} {G : zkG} {mem : zkM} (hl : l.stackTraces = false) {x : Int} (h2 : 0 ≤ mem 2 0 2 ∧ mem 2 0 2 ≤ 60) (hx : 0 ≤ x ∧ x < 65536) : zkCt l G i_Cw_append 6 1 6 [vr 6 0, vi x] mem (zkRf (caApp mem x).1 (caApp mem x).2) := by
  refine zkCt_of hl ok_Cw_append (by decide +kernel) rfl rfl (List.forall_mem_cons.mpr ⟨rfl, (List.forall_mem_cons.mpr ⟨rfl, fun _ h => nomatch h⟩)⟩) (Nat.le_of_ble_eq_true rfl) ?_
  refine m_iload_n rfl rfl rfl ?_
  refine m_bipush rfl rfl (by decide) ?_
  refine m_bipush rfl rfl (by decide) ?_
  refine m_cs1 rfl rfl lk_6_56 (c_isWithin hl (by omega) (by omega) (by omega)) rfl rfl (Nat.le_of_ble_eq_true rfl) (Nat.le_of_ble_eq_true rfl) (Nat.le_of_ble_eq_true rfl) (Nat.le_of_ble_eq_true rfl) (Nat.le_of_ble_eq_true rfl) ?_
  refine m_if_ne_d (tgt := 21) rfl rfl rfl (fun c8 => ?_) (fun c8 => ?_)
  · refine m_aload_n rfl rfl rfl ?_
    refine m_gr (k := 2) rfl rfl (Nat.le_of_ble_eq_true rfl) rfl rfl (by first | decide | assumption | (simp only [cnt]; omega)) ?_
    refine m_cv1 rfl rfl lk_6_67 (c_rdFull hl h2) rfl (by first | decide | assumption | (simp only [cnt]; omega)) (Nat.le_of_ble_eq_true rfl) rfl rfl (Nat.le_of_ble_eq_true rfl) (Nat.le_of_ble_eq_true rfl) (Nat.le_of_ble_eq_true rfl) (Nat.le_of_ble_eq_true rfl) (Nat.le_of_ble_eq_true rfl) ?_
    refine m_if_eq_d (tgt := 41) rfl rfl rfl (fun c28 => ?_) (fun c28 => ?_)
    · refine m_aload_n rfl rfl rfl ?_
      refine m_gr (k := 2) rfl rfl (Nat.le_of_ble_eq_true rfl) rfl rfl (by first | decide | assumption | (simp only [cnt]; omega)) ?_
      refine m_iload_n rfl rfl rfl ?_
      refine m_cv1 rfl rfl lk_6_76 (c_rdPut hl h2 hx) rfl (by first | decide | assumption | (simp only [cnt]; omega)) (Nat.le_of_ble_eq_true rfl) rfl rfl (Nat.le_of_ble_eq_true rfl) (Nat.le_of_ble_eq_true rfl) (Nat.le_of_ble_eq_true rfl) (Nat.le_of_ble_eq_true rfl) (Nat.le_of_ble_eq_true rfl) ?_
      refine m_iret rfl rfl rfl (Nat.le_of_ble_eq_true rfl) (Nat.le_of_ble_eq_true rfl) ?_
      unfold caApp
      first | (rw [if_pos (by omega)]; exact ⟨rfl, rfl⟩) | (rw [if_neg (by omega), if_pos (by omega)]; exact ⟨rfl, rfl⟩) | (rw [if_neg (by omega), if_neg (by omega)]; exact ⟨rfl, rfl⟩)
    · refine m_throw rfl rfl rfl rfl rfl rfl rfl rfl rfl rfl rfl rfl (List.mem_of_getElem? (i := 2) rfl) (List.mem_of_getElem? (i := 5) rfl) (Nat.le_of_ble_eq_true rfl) (Nat.le_of_ble_eq_true rfl) (Nat.le_of_ble_eq_true rfl) (Nat.le_of_ble_eq_true rfl) ?_
      unfold caApp
      first | (rw [if_pos (by omega)]; exact ⟨rfl, rfl⟩) | (rw [if_neg (by omega), if_pos (by omega)]; exact ⟨rfl, rfl⟩) | (rw [if_neg (by omega), if_neg (by omega)]; exact ⟨rfl, rfl⟩)
  · refine m_throw rfl rfl rfl rfl rfl rfl rfl rfl rfl rfl rfl rfl (List.mem_of_getElem? (i := 1) rfl) (List.mem_of_getElem? (i := 4) rfl) (Nat.le_of_ble_eq_true rfl) (Nat.le_of_ble_eq_true rfl) (Nat.le_of_ble_eq_true rfl) (Nat.le_of_ble_eq_true rfl) ?_
    unfold caApp
    first | (rw [if_pos (by omega)]; exact ⟨rfl, rfl⟩) | (rw [if_neg (by omega), if_pos (by omega)]; exact ⟨rfl, rfl⟩) | (rw [if_neg (by omega), if_neg (by omega)]; exact ⟨rfl, rfl⟩)

def caErr (m : zkM) : zkO := if m 6 0 4 = -1 then Sum.inr zkNE else Sum.inl (some (vi (m 6 0 4)))
set_option maxRecDepth 10000 in
theorem c_caError {l : Launch} {G : zkG} {mem : zkM} (hl : l.stackTraces = false) (h : inR (mem 6 0 4)) : zkCt l G i_Cw_errorPosition 6 1 6 [vr 6 0] mem (zkRf (caErr mem) mem) := by
  refine zkCt_of hl ok_Cw_errorPosition (by decide +kernel) rfl rfl (List.forall_mem_cons.mpr ⟨rfl, fun _ h => nomatch h⟩) (Nat.le_of_ble_eq_true rfl) ?_
  refine m_aload_n rfl rfl rfl ?_
  refine m_gix (k := 4) (x := mem 6 _ 4) rfl rfl (Nat.le_of_ble_eq_true rfl) rfl rfl (by first | decide | assumption | (simp only [cnt]; omega)) (by first | rfl | ((repeat (first | rw [ms_s] | rw [ms_t (by decide)] | rw [ms_k (by decide)])) <;> rfl)) ?_
  refine m_iconst rfl rfl ?_
  refine m_icmp_ne (tgt := 18) rfl rfl rfl (by omega) (by omega) (fun c5 => ?_) (fun c5 => ?_)
  · refine m_aload_n rfl rfl rfl ?_
    refine m_gix (k := 4) (x := mem 6 _ 4) rfl rfl (Nat.le_of_ble_eq_true rfl) rfl rfl (by first | decide | assumption | (simp only [cnt]; omega)) (by first | rfl | ((repeat (first | rw [ms_s] | rw [ms_t (by decide)] | rw [ms_k (by decide)])) <;> rfl)) ?_
    refine m_iret rfl rfl rfl (Nat.le_of_ble_eq_true rfl) (Nat.le_of_ble_eq_true rfl) ?_
    unfold caErr
    first | (rw [if_pos (by omega)]; exact ⟨rfl, rfl⟩) | (rw [if_neg (by omega)]; exact ⟨rfl, rfl⟩)
  · refine m_throwN rfl rfl rfl rfl rfl rfl rfl rfl rfl rfl rfl rfl (List.mem_of_getElem? (i := 8) rfl) (Nat.le_of_ble_eq_true rfl) (Nat.le_of_ble_eq_true rfl) (Nat.le_of_ble_eq_true rfl) (Nat.le_of_ble_eq_true rfl) ?_
    unfold caErr
    first | (rw [if_pos (by omega)]; exact ⟨rfl, rfl⟩) | (rw [if_neg (by omega)]; exact ⟨rfl, rfl⟩)

set_option maxRecDepth 10000 in
theorem c_caCount {l : Launch} {G : zkG} {mem : zkM} (hl : l.stackTraces = false) : zkCt l G i_Cw_taskCount 0 0 0 [vr 6 0] mem (zkR1 (vi (mem 0 0 5)) mem) := by
  refine zkCt_of hl ok_Cw_taskCount (by decide +kernel) rfl rfl (List.forall_mem_cons.mpr ⟨rfl, fun _ h => nomatch h⟩) (Nat.le_of_ble_eq_true rfl) ?_
  refine m_aload_n rfl rfl rfl ?_
  refine m_gr (k := 0) rfl rfl (Nat.le_of_ble_eq_true rfl) rfl rfl (by first | decide | assumption | (simp only [cnt]; omega)) ?_
  refine m_gix (k := 5) (x := mem 0 _ 5) rfl rfl (Nat.le_of_ble_eq_true rfl) rfl rfl (by first | decide | assumption | (simp only [cnt]; omega)) (by first | rfl | ((repeat (first | rw [ms_s] | rw [ms_t (by decide)] | rw [ms_k (by decide)])) <;> rfl)) ?_
  refine m_iret rfl rfl rfl (Nat.le_of_ble_eq_true rfl) (Nat.le_of_ble_eq_true rfl) ?_
  exact ⟨rfl, rfl⟩

set_option maxRecDepth 10000 in
theorem c_caClock {l : Launch} {G : zkG} {mem : zkM} (hl : l.stackTraces = false) : zkCt l G i_Cw_clock 0 0 0 [vr 6 0] mem (zkR1 (vi (mem 0 0 7)) mem) := by
  refine zkCt_of hl ok_Cw_clock (by decide +kernel) rfl rfl (List.forall_mem_cons.mpr ⟨rfl, fun _ h => nomatch h⟩) (Nat.le_of_ble_eq_true rfl) ?_
  refine m_aload_n rfl rfl rfl ?_
  refine m_gr (k := 0) rfl rfl (Nat.le_of_ble_eq_true rfl) rfl rfl (by first | decide | assumption | (simp only [cnt]; omega)) ?_
  refine m_gix (k := 7) (x := mem 0 _ 7) rfl rfl (Nat.le_of_ble_eq_true rfl) rfl rfl (by first | decide | assumption | (simp only [cnt]; omega)) (by first | rfl | ((repeat (first | rw [ms_s] | rw [ms_t (by decide)] | rw [ms_k (by decide)])) <;> rfl)) ?_
  refine m_iret rfl rfl rfl (Nat.le_of_ble_eq_true rfl) (Nat.le_of_ble_eq_true rfl) ?_
  exact ⟨rfl, rfl⟩

def caTask (m : zkM) (x w : Int) : zkO := if ¬ (0 ≤ x ∧ x ≤ m 0 0 5 - 1) then Sum.inr xIO else if ¬ (0 ≤ w ∧ w ≤ 5) then Sum.inr xIA else Sum.inl (some (vi (taPr m x.toNat w)))
set_option maxRecDepth 10000 in
theorem c_caTask {l : Launch} {G : zkG} {mem : zkM} (hl : l.stackTraces = false) {x w : Int} (h5 : 0 ≤ mem 0 0 5 ∧ mem 0 0 5 ≤ 5) (hx : inR x) (hw : inR w) : zkCt l G i_Cw_task 7 2 12 [vr 6 0, vi x, vi w] mem (zkRf (caTask mem x w) mem) := by
  refine zkCt_of hl ok_Cw_task (by decide +kernel) rfl rfl (List.forall_mem_cons.mpr ⟨rfl, (List.forall_mem_cons.mpr ⟨rfl, (List.forall_mem_cons.mpr ⟨rfl, fun _ h => nomatch h⟩)⟩)⟩) (Nat.le_of_ble_eq_true rfl) ?_
  refine m_aload_n rfl rfl rfl ?_
  refine m_iload_n rfl rfl rfl ?_
  refine m_cvf rfl rfl lk_6_101 (c_caT hl h5 hx) rfl (by first | decide | assumption | (simp only [cnt]; omega)) (Nat.le_of_ble_eq_true rfl) rfl rfl (Nat.le_of_ble_eq_true rfl) (Nat.le_of_ble_eq_true rfl) (Nat.le_of_ble_eq_true rfl) (Nat.le_of_ble_eq_true rfl) (Nat.le_of_ble_eq_true rfl) (fun v2 c2 => ?_) (fun E2 c2 => ?_)
  · obtain ⟨rfl, g2⟩ := caT_l c2
    refine m_astore_n rfl rfl (Nat.le_of_ble_eq_true rfl) rfl ?_
    refine m_iload_n rfl rfl rfl ?_
    refine m_iconst rfl rfl ?_
    refine m_iconst rfl rfl ?_
    refine m_cs1 rfl rfl lk_6_56 (c_isWithin hl (by omega) (by omega) (by omega)) rfl rfl (Nat.le_of_ble_eq_true rfl) (Nat.le_of_ble_eq_true rfl) (Nat.le_of_ble_eq_true rfl) (Nat.le_of_ble_eq_true rfl) (Nat.le_of_ble_eq_true rfl) ?_
    refine m_if_ne_d (tgt := 25) rfl rfl rfl (fun c12 => ?_) (fun c12 => ?_)
    · refine m_aload_n rfl rfl rfl ?_
      refine m_iload_n rfl rfl rfl ?_
      refine m_cv1 rfl rfl lk_6_107 (c_taProp (n := x.toNat) hl (by omega) hw) rfl (by first | decide | assumption | (simp only [cnt]; omega)) (Nat.le_of_ble_eq_true rfl) rfl rfl (Nat.le_of_ble_eq_true rfl) (Nat.le_of_ble_eq_true rfl) (Nat.le_of_ble_eq_true rfl) (Nat.le_of_ble_eq_true rfl) (Nat.le_of_ble_eq_true rfl) ?_
      refine m_iret rfl rfl rfl (Nat.le_of_ble_eq_true rfl) (Nat.le_of_ble_eq_true rfl) ?_
      unfold caTask
      first | (rw [if_pos (by omega)]; exact ⟨rfl, rfl⟩) | (rw [if_neg (by omega), if_pos (by omega)]; exact ⟨rfl, rfl⟩) | (rw [if_neg (by omega), if_neg (by omega)]; exact ⟨rfl, rfl⟩)
    · refine m_throw rfl rfl rfl rfl rfl rfl rfl rfl rfl rfl rfl rfl (List.mem_of_getElem? (i := 1) rfl) (List.mem_of_getElem? (i := 9) rfl) (Nat.le_of_ble_eq_true rfl) (Nat.le_of_ble_eq_true rfl) (Nat.le_of_ble_eq_true rfl) (Nat.le_of_ble_eq_true rfl) ?_
      unfold caTask
      first | (rw [if_pos (by omega)]; exact ⟨rfl, rfl⟩) | (rw [if_neg (by omega), if_pos (by omega)]; exact ⟨rfl, rfl⟩) | (rw [if_neg (by omega), if_neg (by omega)]; exact ⟨rfl, rfl⟩)
  · obtain ⟨rfl, g2⟩ := caT_r c2
    exact x_out rfl (Nat.le_of_ble_eq_true rfl) (Nat.le_of_ble_eq_true rfl) ⟨(by unfold caTask; rw [if_pos (by omega)]), rfl⟩

def caCei (m : zkM) (x : Int) : zkO := if 0 ≤ x ∧ x ≤ 3 then Sum.inl (some (vi (m 17 0 x.toNat))) else Sum.inr xIO
set_option maxRecDepth 10000 in
theorem c_caCei {l : Launch} {G : zkG} {mem : zkM} (hl : l.stackTraces = false) {x : Int} (hx : inR x) : zkCt l G i_Cw_ceiling 7 1 6 [vr 6 0, vi x] mem (zkRf (caCei mem x) mem) := by
  refine zkCt_of hl ok_Cw_ceiling (by decide +kernel) rfl rfl (List.forall_mem_cons.mpr ⟨rfl, (List.forall_mem_cons.mpr ⟨rfl, fun _ h => nomatch h⟩)⟩) (Nat.le_of_ble_eq_true rfl) ?_
  refine m_aload_n rfl rfl rfl ?_
  refine m_gr (k := 0) rfl rfl (Nat.le_of_ble_eq_true rfl) rfl rfl (by first | decide | assumption | (simp only [cnt]; omega)) ?_
  refine m_gr (k := 3) rfl rfl (Nat.le_of_ble_eq_true rfl) rfl rfl (by first | decide | assumption | (simp only [cnt]; omega)) ?_
  refine m_iload_n rfl rfl rfl ?_
  refine m_csf rfl rfl lk_6_116 (c_caRs hl (by omega)) rfl rfl (Nat.le_of_ble_eq_true rfl) (Nat.le_of_ble_eq_true rfl) (Nat.le_of_ble_eq_true rfl) (Nat.le_of_ble_eq_true rfl) (Nat.le_of_ble_eq_true rfl) (fun v8 c8 => ?_) (fun E8 c8 => ?_)
  · obtain ⟨rfl, g2⟩ := caRs_l c8
    refine m_ialx (n := x.toNat) (y := mem 17 _ (x.toNat)) rfl rfl (Nat.le_of_ble_eq_true rfl) rfl (by first | decide | assumption | (simp only [cnt]; omega)) (by omega) (by simp only [aln]; omega) (by first | rfl | ((repeat (first | rw [ms_s] | rw [ms_t (by decide)] | rw [ms_k (by decide)])) <;> rfl)) ?_
    refine m_iret rfl rfl rfl (Nat.le_of_ble_eq_true rfl) (Nat.le_of_ble_eq_true rfl) ?_
    unfold caCei
    first | (rw [if_pos (by omega)]; exact ⟨rfl, rfl⟩) | (rw [if_neg (by omega)]; exact ⟨rfl, rfl⟩)
  · obtain ⟨rfl, g2⟩ := caRs_r c8
    exact x_out rfl (Nat.le_of_ble_eq_true rfl) (Nat.le_of_ble_eq_true rfl) ⟨(by unfold caCei; rw [if_neg (by omega)]), rfl⟩

def caBlk (m : zkM) (x : Int) : zkO := if ¬ (0 ≤ x ∧ x ≤ m 0 0 5 - 1) then Sum.inr xIO else Sum.inl (some (vi (anBl m x.toNat)))
set_option maxRecDepth 10000 in
theorem c_caBlk {l : Launch} {G : zkG} {mem : zkM} (hl : l.stackTraces = false) {x : Int} (hA : anA mem) (hx : inR x) : zkCt l G i_Cw_blocking 7 1 6 [vr 6 0, vi x] mem (zkRf (caBlk mem x) mem) := by
  refine zkCt_of hl ok_Cw_blocking (by decide +kernel) rfl rfl (List.forall_mem_cons.mpr ⟨rfl, (List.forall_mem_cons.mpr ⟨rfl, fun _ h => nomatch h⟩)⟩) (Nat.le_of_ble_eq_true rfl) ?_
  have h5 := hA.1
  refine m_aload_n rfl rfl rfl ?_
  refine m_gr (k := 0) rfl rfl (Nat.le_of_ble_eq_true rfl) rfl rfl (by first | decide | assumption | (simp only [cnt]; omega)) ?_
  refine m_aload_n rfl rfl rfl ?_
  refine m_iload_n rfl rfl rfl ?_
  refine m_cvf rfl rfl lk_6_101 (c_caT hl h5 hx) rfl (by first | decide | assumption | (simp only [cnt]; omega)) (Nat.le_of_ble_eq_true rfl) rfl rfl (Nat.le_of_ble_eq_true rfl) (Nat.le_of_ble_eq_true rfl) (Nat.le_of_ble_eq_true rfl) (Nat.le_of_ble_eq_true rfl) (Nat.le_of_ble_eq_true rfl) (fun v6 c6 => ?_) (fun E6 c6 => ?_)
  · obtain ⟨rfl, g2⟩ := caT_l c6
    refine m_cs1 rfl rfl lk_6_119 (c_anBl (n := x.toNat) hl hA (by omega)) rfl rfl (Nat.le_of_ble_eq_true rfl) (Nat.le_of_ble_eq_true rfl) (Nat.le_of_ble_eq_true rfl) (Nat.le_of_ble_eq_true rfl) (Nat.le_of_ble_eq_true rfl) ?_
    refine m_iret rfl rfl rfl (Nat.le_of_ble_eq_true rfl) (Nat.le_of_ble_eq_true rfl) ?_
    unfold caBlk
    first | (rw [if_pos (by omega)]; exact ⟨rfl, rfl⟩) | (rw [if_neg (by omega)]; exact ⟨rfl, rfl⟩)
  · obtain ⟨rfl, g2⟩ := caT_r c6
    exact x_out rfl (Nat.le_of_ble_eq_true rfl) (Nat.le_of_ble_eq_true rfl) ⟨(by unfold caBlk; rw [if_pos (by omega)]), rfl⟩

def caBnd (m : zkM) (x : Int) : zkO := if ¬ (0 ≤ x ∧ x ≤ m 0 0 5 - 1) then Sum.inr xIO else if m 5 x.toNat 8 = 0 then Sum.inr xIS else caFd (anBd m x.toNat)
theorem caBnd_r {m : zkM} {x : Int} {E : String} (h : caTS m x = Sum.inr E) : caBnd m x = Sum.inr E := by
  unfold caTS at h
  unfold caBnd
  split at h
  · next g => rw [if_pos g]; exact h
  · next g => rw [if_neg g]; split at h
              · next g => rw [if_pos g]; exact h
              · cases h
set_option maxRecDepth 10000 in
theorem c_caBnd {l : Launch} {G : zkG} {mem : zkM} (hl : l.stackTraces = false) {x : Int} (hA : anA mem) (hx : inR x) : zkCt l G i_Cw_bound 8 3 18 [vr 6 0, vi x] mem (zkRf (caBnd mem x) mem) := by
  refine zkCt_of hl ok_Cw_bound (by decide +kernel) rfl rfl (List.forall_mem_cons.mpr ⟨rfl, (List.forall_mem_cons.mpr ⟨rfl, fun _ h => nomatch h⟩)⟩) (Nat.le_of_ble_eq_true rfl) ?_
  have h5 := hA.1
  have h8 : ∀ i, i < 5 → inR (mem 5 i 8) := fun i hi => by have := (hA.2.1 i hi).1; omega
  refine m_aload_n rfl rfl rfl ?_
  refine m_gr (k := 0) rfl rfl (Nat.le_of_ble_eq_true rfl) rfl rfl (by first | decide | assumption | (simp only [cnt]; omega)) ?_
  refine m_aload_n rfl rfl rfl ?_
  refine m_iload_n rfl rfl rfl ?_
  refine m_cvf rfl rfl lk_6_125 (c_caTS hl h5 hx h8) rfl (by first | decide | assumption | (simp only [cnt]; omega)) (Nat.le_of_ble_eq_true rfl) rfl rfl (Nat.le_of_ble_eq_true rfl) (Nat.le_of_ble_eq_true rfl) (Nat.le_of_ble_eq_true rfl) (Nat.le_of_ble_eq_true rfl) (Nat.le_of_ble_eq_true rfl) (fun v6 c6 => ?_) (fun E6 c6 => ?_)
  · obtain ⟨rfl, g2, g3⟩ := caTS_l c6
    have ab := anBd_b hA (n := x.toNat) (by omega)
    refine m_cs1 rfl rfl lk_6_128 (c_anBd (n := x.toNat) hl hA (by omega)) rfl rfl (Nat.le_of_ble_eq_true rfl) (Nat.le_of_ble_eq_true rfl) (Nat.le_of_ble_eq_true rfl) (Nat.le_of_ble_eq_true rfl) (Nat.le_of_ble_eq_true rfl) ?_
    refine m_csf rfl rfl lk_6_131 (c_caFd hl (by omega)) rfl rfl (Nat.le_of_ble_eq_true rfl) (Nat.le_of_ble_eq_true rfl) (Nat.le_of_ble_eq_true rfl) (Nat.le_of_ble_eq_true rfl) (Nat.le_of_ble_eq_true rfl) (fun v12 c12 => ?_) (fun E12 c12 => ?_)
    · have g := caFd_l c12
      subst g
      refine m_iret rfl rfl rfl (Nat.le_of_ble_eq_true rfl) (Nat.le_of_ble_eq_true rfl) ?_
      exact ⟨(by unfold caBnd; rw [if_neg (by omega), if_neg g3]; exact c12.symm), rfl⟩
    · exact x_out rfl (Nat.le_of_ble_eq_true rfl) (Nat.le_of_ble_eq_true rfl) ⟨(by unfold caBnd; rw [if_neg (by omega), if_neg g3]; exact c12.symm), rfl⟩
  · exact x_out rfl (Nat.le_of_ble_eq_true rfl) (Nat.le_of_ble_eq_true rfl) ⟨(caBnd_r c6).symm, rfl⟩

def caWit (m : zkM) (x : Int) : zkO := if ¬ (0 ≤ x ∧ x ≤ m 0 0 5 - 1) then Sum.inr xIO else if m 5 x.toNat 8 = 0 then Sum.inr xIS else caFd (anWt m x.toNat)
theorem caWit_r {m : zkM} {x : Int} {E : String} (h : caTS m x = Sum.inr E) : caWit m x = Sum.inr E := by
  unfold caTS at h
  unfold caWit
  split at h
  · next g => rw [if_pos g]; exact h
  · next g => rw [if_neg g]; split at h
              · next g => rw [if_pos g]; exact h
              · cases h
set_option maxRecDepth 10000 in
theorem c_caWit {l : Launch} {G : zkG} {mem : zkM} (hl : l.stackTraces = false) {x : Int} (hA : anA mem) (hx : inR x) : zkCt l G i_Cw_witness 8 3 18 [vr 6 0, vi x] mem (zkRf (caWit mem x) mem) := by
  refine zkCt_of hl ok_Cw_witness (by decide +kernel) rfl rfl (List.forall_mem_cons.mpr ⟨rfl, (List.forall_mem_cons.mpr ⟨rfl, fun _ h => nomatch h⟩)⟩) (Nat.le_of_ble_eq_true rfl) ?_
  have h5 := hA.1
  have h8 : ∀ i, i < 5 → inR (mem 5 i 8) := fun i hi => by have := (hA.2.1 i hi).1; omega
  refine m_aload_n rfl rfl rfl ?_
  refine m_gr (k := 0) rfl rfl (Nat.le_of_ble_eq_true rfl) rfl rfl (by first | decide | assumption | (simp only [cnt]; omega)) ?_
  refine m_aload_n rfl rfl rfl ?_
  refine m_iload_n rfl rfl rfl ?_
  refine m_cvf rfl rfl lk_6_125 (c_caTS hl h5 hx h8) rfl (by first | decide | assumption | (simp only [cnt]; omega)) (Nat.le_of_ble_eq_true rfl) rfl rfl (Nat.le_of_ble_eq_true rfl) (Nat.le_of_ble_eq_true rfl) (Nat.le_of_ble_eq_true rfl) (Nat.le_of_ble_eq_true rfl) (Nat.le_of_ble_eq_true rfl) (fun v6 c6 => ?_) (fun E6 c6 => ?_)
  · obtain ⟨rfl, g2, g3⟩ := caTS_l c6
    have ab := anWtf_b (m := mem) (i := x.toNat) 1000 0 0 (mem 5 x.toNat 9) (by omega) (by omega)
    change -1 ≤ anWt mem x.toNat ∧ anWt mem x.toNat ≤ 1000 at ab
    refine m_cs1 rfl rfl lk_6_134 (c_anWt (n := x.toNat) hl hA (by omega)) rfl rfl (Nat.le_of_ble_eq_true rfl) (Nat.le_of_ble_eq_true rfl) (Nat.le_of_ble_eq_true rfl) (Nat.le_of_ble_eq_true rfl) (Nat.le_of_ble_eq_true rfl) ?_
    refine m_csf rfl rfl lk_6_131 (c_caFd hl (by omega)) rfl rfl (Nat.le_of_ble_eq_true rfl) (Nat.le_of_ble_eq_true rfl) (Nat.le_of_ble_eq_true rfl) (Nat.le_of_ble_eq_true rfl) (Nat.le_of_ble_eq_true rfl) (fun v12 c12 => ?_) (fun E12 c12 => ?_)
    · have g := caFd_l c12
      subst g
      refine m_iret rfl rfl rfl (Nat.le_of_ble_eq_true rfl) (Nat.le_of_ble_eq_true rfl) ?_
      exact ⟨(by unfold caWit; rw [if_neg (by omega), if_neg g3]; exact c12.symm), rfl⟩
    · exact x_out rfl (Nat.le_of_ble_eq_true rfl) (Nat.le_of_ble_eq_true rfl) ⟨(by unfold caWit; rw [if_neg (by omega), if_neg g3]; exact c12.symm), rfl⟩
  · exact x_out rfl (Nat.le_of_ble_eq_true rfl) (Nat.le_of_ble_eq_true rfl) ⟨(caWit_r c6).symm, rfl⟩

set_option maxRecDepth 10000 in
theorem c_caSch {l : Launch} {G : zkG} {mem : zkM} (hl : l.stackTraces = false) (hA : anA mem) : zkCt l G i_Cw_isSchedulable 5 0 0 [vr 6 0] mem (zkR1 (vi (b2i (anMd mem))) mem) := by
  refine zkCt_of hl ok_Cw_isSchedulable (by decide +kernel) rfl rfl (List.forall_mem_cons.mpr ⟨rfl, fun _ h => nomatch h⟩) (Nat.le_of_ble_eq_true rfl) ?_
  refine m_aload_n rfl rfl rfl ?_
  refine m_gr (k := 0) rfl rfl (Nat.le_of_ble_eq_true rfl) rfl rfl (by first | decide | assumption | (simp only [cnt]; omega)) ?_
  refine m_cs1 rfl rfl lk_6_137 (c_anMd hl hA) rfl rfl (Nat.le_of_ble_eq_true rfl) (Nat.le_of_ble_eq_true rfl) (Nat.le_of_ble_eq_true rfl) (Nat.le_of_ble_eq_true rfl) (Nat.le_of_ble_eq_true rfl) ?_
  refine m_zret rfl rfl rfl (Nat.le_of_ble_eq_true rfl) (Nat.le_of_ble_eq_true rfl) ?_
  exact ⟨rfl, rfl⟩

set_option maxRecDepth 10000 in
theorem c_caLoad {l : Launch} {G : zkG} {mem : zkM} (hl : l.stackTraces = false) (hA : anA mem) (hN : anLok mem) : zkCt l G i_Cw_load 2 0 0 [vr 6 0] mem (zkR1 (vd (anLd mem)) mem) := by
  refine zkCt_of hl ok_Cw_load (by decide +kernel) rfl rfl (List.forall_mem_cons.mpr ⟨rfl, fun _ h => nomatch h⟩) (Nat.le_of_ble_eq_true rfl) ?_
  refine m_aload_n rfl rfl rfl ?_
  refine m_gr (k := 0) rfl rfl (Nat.le_of_ble_eq_true rfl) rfl rfl (by first | decide | assumption | (simp only [cnt]; omega)) ?_
  refine m_cs1 rfl rfl lk_6_141 (c_anLd hl hA hN) rfl rfl (Nat.le_of_ble_eq_true rfl) (Nat.le_of_ble_eq_true rfl) (Nat.le_of_ble_eq_true rfl) (Nat.le_of_ble_eq_true rfl) (Nat.le_of_ble_eq_true rfl) ?_
  refine m_dret rfl rfl rfl (Nat.le_of_ble_eq_true rfl) (Nat.le_of_ble_eq_true rfl) ?_
  exact ⟨rfl, rfl⟩

set_option maxRecDepth 10000 in
theorem c_caHyp {l : Launch} {G : zkG} {mem : zkM} (hl : l.stackTraces = false) (hA : anA mem) (hN : anHok mem) : zkCt l G i_Cw_hyperbolicLoad 2 0 0 [vr 6 0] mem (zkR1 (vd (anHy mem)) mem) := by
  refine zkCt_of hl ok_Cw_hyperbolicLoad (by decide +kernel) rfl rfl (List.forall_mem_cons.mpr ⟨rfl, fun _ h => nomatch h⟩) (Nat.le_of_ble_eq_true rfl) ?_
  refine m_aload_n rfl rfl rfl ?_
  refine m_gr (k := 0) rfl rfl (Nat.le_of_ble_eq_true rfl) rfl rfl (by first | decide | assumption | (simp only [cnt]; omega)) ?_
  refine m_cs1 rfl rfl lk_6_145 (c_anHy hl hA hN) rfl rfl (Nat.le_of_ble_eq_true rfl) (Nat.le_of_ble_eq_true rfl) (Nat.le_of_ble_eq_true rfl) (Nat.le_of_ble_eq_true rfl) (Nat.le_of_ble_eq_true rfl) ?_
  refine m_dret rfl rfl rfl (Nat.le_of_ble_eq_true rfl) (Nat.le_of_ble_eq_true rfl) ?_
  exact ⟨rfl, rfl⟩

def caRun (m : zkM) (u : Int) : zkO × zkM := if ¬ (1 ≤ u ∧ u ≤ 100) then (Sum.inr xIA, m) else if 400 < m 0 0 7 + u then (Sum.inr xIS, m) else (Sum.inl (some (vi (beMks m u).1)), (beMks m u).2)
set_option maxRecDepth 10000 in
theorem c_caRun {l : Launch} {G : zkG} {mem : zkM} (hl : l.stackTraces = false) {u : Int} (hu : inR u) (h7 : 0 ≤ mem 0 0 7 ∧ mem 0 0 7 ≤ 400) (hO : 1 ≤ u ∧ u ≤ 100 → mem 0 0 7 + u ≤ 400 → ∀ j : Nat, (j : Int) < u → beOk (lp beMs j (0, mem)).2) : zkCt l G i_Cw_run 6 1 6 [vr 6 0, vi u] mem (zkRf (caRun mem u).1 (caRun mem u).2) := by
  refine zkCt_of hl ok_Cw_run (by decide +kernel) rfl rfl (List.forall_mem_cons.mpr ⟨rfl, (List.forall_mem_cons.mpr ⟨rfl, fun _ h => nomatch h⟩)⟩) (Nat.le_of_ble_eq_true rfl) ?_
  refine m_iload_n rfl rfl rfl ?_
  refine m_iconst rfl rfl ?_
  refine m_bipush rfl rfl (by decide) ?_
  refine m_cs1 rfl rfl lk_6_56 (c_isWithin hl (by omega) (by omega) (by omega)) rfl rfl (Nat.le_of_ble_eq_true rfl) (Nat.le_of_ble_eq_true rfl) (Nat.le_of_ble_eq_true rfl) (Nat.le_of_ble_eq_true rfl) (Nat.le_of_ble_eq_true rfl) ?_
  refine m_if_ne_d (tgt := 20) rfl rfl rfl (fun c7 => ?_) (fun c7 => ?_)
  · refine m_aload_n rfl rfl rfl ?_
    refine m_gr (k := 0) rfl rfl (Nat.le_of_ble_eq_true rfl) rfl rfl (by first | decide | assumption | (simp only [cnt]; omega)) ?_
    refine m_gix (k := 7) (x := mem 0 _ 7) rfl rfl (Nat.le_of_ble_eq_true rfl) rfl rfl (by first | decide | assumption | (simp only [cnt]; omega)) (by first | rfl | ((repeat (first | rw [ms_s] | rw [ms_t (by decide)] | rw [ms_k (by decide)])) <;> rfl)) ?_
    refine m_iload_n rfl rfl rfl ?_
    refine m_iadd rfl rfl ?_
    refine m_sipush rfl rfl (by decide) ?_
    refine m_icmp_le (tgt := 45) rfl rfl rfl (by omega) (by omega) (fun c32 => ?_) (fun c32 => ?_)
    · refine m_aload_n rfl rfl rfl ?_
      refine m_gr (k := 0) rfl rfl (Nat.le_of_ble_eq_true rfl) rfl rfl (by first | decide | assumption | (simp only [cnt]; omega)) ?_
      refine m_iload_n rfl rfl rfl ?_
      refine m_cv1 rfl rfl lk_6_155 (c_beMks hl (by omega) (by omega) (hO (by omega) (by omega))) rfl (by first | decide | assumption | (simp only [cnt]; omega)) (Nat.le_of_ble_eq_true rfl) rfl rfl (Nat.le_of_ble_eq_true rfl) (Nat.le_of_ble_eq_true rfl) (Nat.le_of_ble_eq_true rfl) (Nat.le_of_ble_eq_true rfl) (Nat.le_of_ble_eq_true rfl) ?_
      refine m_iret rfl rfl rfl (Nat.le_of_ble_eq_true rfl) (Nat.le_of_ble_eq_true rfl) ?_
      unfold caRun
      first | (rw [if_pos (by omega)]; exact ⟨rfl, rfl⟩) | (rw [if_neg (by omega), if_pos (by omega)]; exact ⟨rfl, rfl⟩) | (rw [if_neg (by omega), if_neg (by omega)]; exact ⟨rfl, rfl⟩)
    · refine m_throw rfl rfl rfl rfl rfl rfl rfl rfl rfl rfl rfl rfl (List.mem_of_getElem? (i := 2) rfl) (List.mem_of_getElem? (i := 14) rfl) (Nat.le_of_ble_eq_true rfl) (Nat.le_of_ble_eq_true rfl) (Nat.le_of_ble_eq_true rfl) (Nat.le_of_ble_eq_true rfl) ?_
      unfold caRun
      first | (rw [if_pos (by omega)]; exact ⟨rfl, rfl⟩) | (rw [if_neg (by omega), if_pos (by omega)]; exact ⟨rfl, rfl⟩) | (rw [if_neg (by omega), if_neg (by omega)]; exact ⟨rfl, rfl⟩)
  · refine m_throw rfl rfl rfl rfl rfl rfl rfl rfl rfl rfl rfl rfl (List.mem_of_getElem? (i := 1) rfl) (List.mem_of_getElem? (i := 13) rfl) (Nat.le_of_ble_eq_true rfl) (Nat.le_of_ble_eq_true rfl) (Nat.le_of_ble_eq_true rfl) (Nat.le_of_ble_eq_true rfl) ?_
    unfold caRun
    first | (rw [if_pos (by omega)]; exact ⟨rfl, rfl⟩) | (rw [if_neg (by omega), if_pos (by omega)]; exact ⟨rfl, rfl⟩) | (rw [if_neg (by omega), if_neg (by omega)]; exact ⟨rfl, rfl⟩)

set_option maxRecDepth 10000 in
theorem c_caRewind {l : Launch} {G : zkG} {mem : zkM} (hl : l.stackTraces = false) (h5 : 0 ≤ mem 0 0 5 ∧ mem 0 0 5 ≤ 5) (h4 : 0 ≤ mem 3 0 4 ∧ mem 3 0 4 ≤ 12) : zkCt l G i_Cw_rewind 3 0 0 [vr 6 0] mem (zkR1 (vi (beSt mem).1) (beSt mem).2) := by
  refine zkCt_of hl ok_Cw_rewind (by decide +kernel) rfl rfl (List.forall_mem_cons.mpr ⟨rfl, fun _ h => nomatch h⟩) (Nat.le_of_ble_eq_true rfl) ?_
  refine m_aload_n rfl rfl rfl ?_
  refine m_gr (k := 0) rfl rfl (Nat.le_of_ble_eq_true rfl) rfl rfl (by first | decide | assumption | (simp only [cnt]; omega)) ?_
  refine m_cv1 rfl rfl lk_6_158 (c_beStart hl h5 h4) rfl (by first | decide | assumption | (simp only [cnt]; omega)) (Nat.le_of_ble_eq_true rfl) rfl rfl (Nat.le_of_ble_eq_true rfl) (Nat.le_of_ble_eq_true rfl) (Nat.le_of_ble_eq_true rfl) (Nat.le_of_ble_eq_true rfl) (Nat.le_of_ble_eq_true rfl) ?_
  refine m_iret rfl rfl rfl (Nat.le_of_ble_eq_true rfl) (Nat.le_of_ble_eq_true rfl) ?_
  exact ⟨rfl, rfl⟩

def caRan (m : zkM) (x : Int) : zkO := if 0 ≤ x ∧ x ≤ m 0 0 7 - 1 then Sum.inl (some (vi (m 18 0 x.toNat))) else Sum.inr xIO
set_option maxRecDepth 10000 in
theorem c_caRan {l : Launch} {G : zkG} {mem : zkM} (hl : l.stackTraces = false) {x : Int} (hx : inR x) (h7 : 0 ≤ mem 0 0 7 ∧ mem 0 0 7 ≤ 400) : zkCt l G i_Cw_ranAt 6 1 6 [vr 6 0, vi x] mem (zkRf (caRan mem x) mem) := by
  refine zkCt_of hl ok_Cw_ranAt (by decide +kernel) rfl rfl (List.forall_mem_cons.mpr ⟨rfl, (List.forall_mem_cons.mpr ⟨rfl, fun _ h => nomatch h⟩)⟩) (Nat.le_of_ble_eq_true rfl) ?_
  refine m_iload_n rfl rfl rfl ?_
  refine m_iconst rfl rfl ?_
  refine m_aload_n rfl rfl rfl ?_
  refine m_gr (k := 0) rfl rfl (Nat.le_of_ble_eq_true rfl) rfl rfl (by first | decide | assumption | (simp only [cnt]; omega)) ?_
  refine m_gix (k := 7) (x := mem 0 _ 7) rfl rfl (Nat.le_of_ble_eq_true rfl) rfl rfl (by first | decide | assumption | (simp only [cnt]; omega)) (by first | rfl | ((repeat (first | rw [ms_s] | rw [ms_t (by decide)] | rw [ms_k (by decide)])) <;> rfl)) ?_
  refine m_iconst rfl rfl ?_
  refine m_isub rfl rfl ?_
  refine m_cs1 rfl rfl lk_6_56 (c_isWithin hl (by omega) (by omega) (by omega)) rfl rfl (Nat.le_of_ble_eq_true rfl) (Nat.le_of_ble_eq_true rfl) (Nat.le_of_ble_eq_true rfl) (Nat.le_of_ble_eq_true rfl) (Nat.le_of_ble_eq_true rfl) ?_
  refine m_if_ne_d (tgt := 27) rfl rfl rfl (fun c14 => ?_) (fun c14 => ?_)
  · refine m_aload_n rfl rfl rfl ?_
    refine m_gr (k := 0) rfl rfl (Nat.le_of_ble_eq_true rfl) rfl rfl (by first | decide | assumption | (simp only [cnt]; omega)) ?_
    refine m_gr (k := 4) rfl rfl (Nat.le_of_ble_eq_true rfl) rfl rfl (by first | decide | assumption | (simp only [cnt]; omega)) ?_
    refine m_iload_n rfl rfl rfl ?_
    refine m_ialx (n := x.toNat) (y := mem 18 _ (x.toNat)) rfl rfl (Nat.le_of_ble_eq_true rfl) rfl (by first | decide | assumption | (simp only [cnt]; omega)) (by omega) (by simp only [aln]; omega) (by first | rfl | ((repeat (first | rw [ms_s] | rw [ms_t (by decide)] | rw [ms_k (by decide)])) <;> rfl)) ?_
    refine m_iret rfl rfl rfl (Nat.le_of_ble_eq_true rfl) (Nat.le_of_ble_eq_true rfl) ?_
    unfold caRan
    first | (rw [if_pos (by omega)]; exact ⟨rfl, rfl⟩) | (rw [if_neg (by omega)]; exact ⟨rfl, rfl⟩)
  · refine m_throw rfl rfl rfl rfl rfl rfl rfl rfl rfl rfl rfl rfl (List.mem_of_getElem? (i := 0) rfl) (List.mem_of_getElem? (i := 15) rfl) (Nat.le_of_ble_eq_true rfl) (Nat.le_of_ble_eq_true rfl) (Nat.le_of_ble_eq_true rfl) (Nat.le_of_ble_eq_true rfl) ?_
    unfold caRan
    first | (rw [if_pos (by omega)]; exact ⟨rfl, rfl⟩) | (rw [if_neg (by omega)]; exact ⟨rfl, rfl⟩)

def caPnd (m : zkM) (x : Int) : zkO := if ¬ (0 ≤ x ∧ x ≤ m 0 0 5 - 1) then Sum.inr xIO else Sum.inl (some (vi (m 1 x.toNat 2 - m 1 x.toNat 1)))
set_option maxRecDepth 10000 in
theorem c_caPnd {l : Launch} {G : zkG} {mem : zkM} (hl : l.stackTraces = false) {x : Int} (h5 : 0 ≤ mem 0 0 5 ∧ mem 0 0 5 ≤ 5) (hx : inR x) : zkCt l G i_Cw_pending 7 1 6 [vr 6 0, vi x] mem (zkRf (caPnd mem x) mem) := by
  refine zkCt_of hl ok_Cw_pending (by decide +kernel) rfl rfl (List.forall_mem_cons.mpr ⟨rfl, (List.forall_mem_cons.mpr ⟨rfl, fun _ h => nomatch h⟩)⟩) (Nat.le_of_ble_eq_true rfl) ?_
  refine m_aload_n rfl rfl rfl ?_
  refine m_iload_n rfl rfl rfl ?_
  refine m_cvf rfl rfl lk_6_101 (c_caT hl h5 hx) rfl (by first | decide | assumption | (simp only [cnt]; omega)) (Nat.le_of_ble_eq_true rfl) rfl rfl (Nat.le_of_ble_eq_true rfl) (Nat.le_of_ble_eq_true rfl) (Nat.le_of_ble_eq_true rfl) (Nat.le_of_ble_eq_true rfl) (Nat.le_of_ble_eq_true rfl) (fun v2 c2 => ?_) (fun E2 c2 => ?_)
  · obtain ⟨rfl, g2⟩ := caT_l c2
    refine m_gr (k := 2) rfl rfl (Nat.le_of_ble_eq_true rfl) rfl rfl (by first | decide | assumption | (simp only [cnt]; omega)) ?_
    refine m_cv1 rfl rfl lk_6_173 (c_joSize (n := x.toNat) hl (by omega)) rfl (by first | decide | assumption | (simp only [cnt]; omega)) (Nat.le_of_ble_eq_true rfl) rfl rfl (Nat.le_of_ble_eq_true rfl) (Nat.le_of_ble_eq_true rfl) (Nat.le_of_ble_eq_true rfl) (Nat.le_of_ble_eq_true rfl) (Nat.le_of_ble_eq_true rfl) ?_
    refine m_iret rfl rfl rfl (Nat.le_of_ble_eq_true rfl) (Nat.le_of_ble_eq_true rfl) ?_
    unfold caPnd
    first | (rw [if_pos (by omega)]; exact ⟨rfl, rfl⟩) | (rw [if_neg (by omega)]; exact ⟨rfl, rfl⟩)
  · obtain ⟨rfl, g2⟩ := caT_r c2
    exact x_out rfl (Nat.le_of_ble_eq_true rfl) (Nat.le_of_ble_eq_true rfl) ⟨(by unfold caPnd; rw [if_pos (by omega)]), rfl⟩

def caAct (m : zkM) (x : Int) : zkO := if ¬ (0 ≤ x ∧ x ≤ m 0 0 5 - 1) then Sum.inr xIO else if m 1 x.toNat 1 = m 1 x.toNat 2 then Sum.inr zkNE else Sum.inl (some (vi (beUr m x.toNat)))
set_option maxRecDepth 10000 in
theorem c_caAct {l : Launch} {G : zkG} {mem : zkM} (hl : l.stackTraces = false) {x : Int} (hP : beP mem) (hx : inR x) : zkCt l G i_Cw_activePriority 7 2 12 [vr 6 0, vi x] mem (zkRf (caAct mem x) mem) := by
  refine zkCt_of hl ok_Cw_activePriority (by decide +kernel) rfl rfl (List.forall_mem_cons.mpr ⟨rfl, (List.forall_mem_cons.mpr ⟨rfl, fun _ h => nomatch h⟩)⟩) (Nat.le_of_ble_eq_true rfl) ?_
  have h5 := hP.1
  refine m_aload_n rfl rfl rfl ?_
  refine m_iload_n rfl rfl rfl ?_
  refine m_cvf rfl rfl lk_6_101 (c_caT hl h5 hx) rfl (by first | decide | assumption | (simp only [cnt]; omega)) (Nat.le_of_ble_eq_true rfl) rfl rfl (Nat.le_of_ble_eq_true rfl) (Nat.le_of_ble_eq_true rfl) (Nat.le_of_ble_eq_true rfl) (Nat.le_of_ble_eq_true rfl) (Nat.le_of_ble_eq_true rfl) (fun v2 c2 => ?_) (fun E2 c2 => ?_)
  · obtain ⟨rfl, g2⟩ := caT_l c2
    refine m_astore_n rfl rfl (Nat.le_of_ble_eq_true rfl) rfl ?_
    refine m_aload_n rfl rfl rfl ?_
    refine m_gr (k := 2) rfl rfl (Nat.le_of_ble_eq_true rfl) rfl rfl (by first | decide | assumption | (simp only [cnt]; omega)) ?_
    refine m_cv1 rfl rfl lk_6_178 (c_joIsEmpty (n := x.toNat) hl (by omega) (hP.2.1 x.toNat (by omega)).1) rfl (by first | decide | assumption | (simp only [cnt]; omega)) (Nat.le_of_ble_eq_true rfl) rfl rfl (Nat.le_of_ble_eq_true rfl) (Nat.le_of_ble_eq_true rfl) (Nat.le_of_ble_eq_true rfl) (Nat.le_of_ble_eq_true rfl) (Nat.le_of_ble_eq_true rfl) ?_
    refine m_if_eq_d (tgt := 26) rfl rfl rfl (fun c13 => ?_) (fun c13 => ?_)
    · refine m_aload_n rfl rfl rfl ?_
      refine m_gr (k := 0) rfl rfl (Nat.le_of_ble_eq_true rfl) rfl rfl (by first | decide | assumption | (simp only [cnt]; omega)) ?_
      refine m_aload_n rfl rfl rfl ?_
      refine m_cv1 rfl rfl lk_6_183 (c_beUr (i := x.toNat) hl hP (by omega)) rfl (by first | decide | assumption | (simp only [cnt]; omega)) (Nat.le_of_ble_eq_true rfl) rfl rfl (Nat.le_of_ble_eq_true rfl) (Nat.le_of_ble_eq_true rfl) (Nat.le_of_ble_eq_true rfl) (Nat.le_of_ble_eq_true rfl) (Nat.le_of_ble_eq_true rfl) ?_
      refine m_iret rfl rfl rfl (Nat.le_of_ble_eq_true rfl) (Nat.le_of_ble_eq_true rfl) ?_
      unfold caAct
      first | (rw [if_pos (by omega)]; exact ⟨rfl, rfl⟩) | (rw [if_neg (by omega), if_pos (by omega)]; exact ⟨rfl, rfl⟩) | (rw [if_neg (by omega), if_neg (by omega)]; exact ⟨rfl, rfl⟩)
    · refine m_throwN rfl rfl rfl rfl rfl rfl rfl rfl rfl rfl rfl rfl (List.mem_of_getElem? (i := 16) rfl) (Nat.le_of_ble_eq_true rfl) (Nat.le_of_ble_eq_true rfl) (Nat.le_of_ble_eq_true rfl) (Nat.le_of_ble_eq_true rfl) ?_
      unfold caAct
      first | (rw [if_pos (by omega)]; exact ⟨rfl, rfl⟩) | (rw [if_neg (by omega), if_pos (by omega)]; exact ⟨rfl, rfl⟩) | (rw [if_neg (by omega), if_neg (by omega)]; exact ⟨rfl, rfl⟩)
  · obtain ⟨rfl, g2⟩ := caT_r c2
    exact x_out rfl (Nat.le_of_ble_eq_true rfl) (Nat.le_of_ble_eq_true rfl) ⟨(by unfold caAct; rw [if_pos (by omega)]), rfl⟩

def caHol (m : zkM) (x : Int) : zkO := if 0 ≤ x ∧ x ≤ 3 then Sum.inl (some (vi (beHo m x))) else Sum.inr xIO
set_option maxRecDepth 10000 in
theorem c_caHol {l : Launch} {G : zkG} {mem : zkM} (hl : l.stackTraces = false) {x : Int} (hP : beP mem) (hx : inR x) : zkCt l G i_Cw_holder 7 1 6 [vr 6 0, vi x] mem (zkRf (caHol mem x) mem) := by
  refine zkCt_of hl ok_Cw_holder (by decide +kernel) rfl rfl (List.forall_mem_cons.mpr ⟨rfl, (List.forall_mem_cons.mpr ⟨rfl, fun _ h => nomatch h⟩)⟩) (Nat.le_of_ble_eq_true rfl) ?_
  refine m_aload_n rfl rfl rfl ?_
  refine m_gr (k := 0) rfl rfl (Nat.le_of_ble_eq_true rfl) rfl rfl (by first | decide | assumption | (simp only [cnt]; omega)) ?_
  refine m_iload_n rfl rfl rfl ?_
  refine m_csf rfl rfl lk_6_116 (c_caRs hl (by omega)) rfl rfl (Nat.le_of_ble_eq_true rfl) (Nat.le_of_ble_eq_true rfl) (Nat.le_of_ble_eq_true rfl) (Nat.le_of_ble_eq_true rfl) (Nat.le_of_ble_eq_true rfl) (fun v5 c5 => ?_) (fun E5 c5 => ?_)
  · obtain ⟨rfl, g2⟩ := caRs_l c5
    refine m_cv1 rfl rfl lk_6_187 (c_beHo hl hP hx) rfl (by first | decide | assumption | (simp only [cnt]; omega)) (Nat.le_of_ble_eq_true rfl) rfl rfl (Nat.le_of_ble_eq_true rfl) (Nat.le_of_ble_eq_true rfl) (Nat.le_of_ble_eq_true rfl) (Nat.le_of_ble_eq_true rfl) (Nat.le_of_ble_eq_true rfl) ?_
    refine m_iret rfl rfl rfl (Nat.le_of_ble_eq_true rfl) (Nat.le_of_ble_eq_true rfl) ?_
    unfold caHol
    first | (rw [if_pos (by omega)]; exact ⟨rfl, rfl⟩) | (rw [if_neg (by omega)]; exact ⟨rfl, rfl⟩)
  · obtain ⟨rfl, g2⟩ := caRs_r c5
    exact x_out rfl (Nat.le_of_ble_eq_true rfl) (Nat.le_of_ble_eq_true rfl) ⟨(by unfold caHol; rw [if_neg (by omega)]), rfl⟩

def caRes (m : zkM) (x w : Int) : zkO := if ¬ (0 ≤ x ∧ x ≤ m 0 0 5 - 1) then Sum.inr xIO else if ¬ (0 ≤ w ∧ w ≤ 5) then Sum.inr xIA else Sum.inl (some (vi (m 22 x.toNat w.toNat)))
set_option maxRecDepth 10000 in
theorem c_caRes {l : Launch} {G : zkG} {mem : zkM} (hl : l.stackTraces = false) {x w : Int} (h5 : 0 ≤ mem 0 0 5 ∧ mem 0 0 5 ≤ 5) (hx : inR x) (hw : inR w) : zkCt l G i_Cw_result 7 2 12 [vr 6 0, vi x, vi w] mem (zkRf (caRes mem x w) mem) := by
  refine zkCt_of hl ok_Cw_result (by decide +kernel) rfl rfl (List.forall_mem_cons.mpr ⟨rfl, (List.forall_mem_cons.mpr ⟨rfl, (List.forall_mem_cons.mpr ⟨rfl, fun _ h => nomatch h⟩)⟩)⟩) (Nat.le_of_ble_eq_true rfl) ?_
  refine m_aload_n rfl rfl rfl ?_
  refine m_iload_n rfl rfl rfl ?_
  refine m_cvf rfl rfl lk_6_101 (c_caT hl h5 hx) rfl (by first | decide | assumption | (simp only [cnt]; omega)) (Nat.le_of_ble_eq_true rfl) rfl rfl (Nat.le_of_ble_eq_true rfl) (Nat.le_of_ble_eq_true rfl) (Nat.le_of_ble_eq_true rfl) (Nat.le_of_ble_eq_true rfl) (Nat.le_of_ble_eq_true rfl) (fun v2 c2 => ?_) (fun E2 c2 => ?_)
  · obtain ⟨rfl, g2⟩ := caT_l c2
    refine m_astore_n rfl rfl (Nat.le_of_ble_eq_true rfl) rfl ?_
    refine m_iload_n rfl rfl rfl ?_
    refine m_iconst rfl rfl ?_
    refine m_iconst rfl rfl ?_
    refine m_cs1 rfl rfl lk_6_56 (c_isWithin hl (by omega) (by omega) (by omega)) rfl rfl (Nat.le_of_ble_eq_true rfl) (Nat.le_of_ble_eq_true rfl) (Nat.le_of_ble_eq_true rfl) (Nat.le_of_ble_eq_true rfl) (Nat.le_of_ble_eq_true rfl) ?_
    refine m_if_ne_d (tgt := 25) rfl rfl rfl (fun c12 => ?_) (fun c12 => ?_)
    · refine m_aload_n rfl rfl rfl ?_
      refine m_gr (k := 3) rfl rfl (Nat.le_of_ble_eq_true rfl) rfl rfl (by first | decide | assumption | (simp only [cnt]; omega)) ?_
      refine m_iload_n rfl rfl rfl ?_
      refine m_ialx (n := w.toNat) (y := mem 22 x.toNat (w.toNat)) rfl rfl (Nat.le_of_ble_eq_true rfl) rfl (by first | decide | assumption | (simp only [cnt]; omega)) (by omega) (by simp only [aln]; omega) (by first | rfl | ((repeat (first | rw [ms_s] | rw [ms_t (by decide)] | rw [ms_k (by decide)])) <;> rfl)) ?_
      refine m_iret rfl rfl rfl (Nat.le_of_ble_eq_true rfl) (Nat.le_of_ble_eq_true rfl) ?_
      unfold caRes
      first | (rw [if_pos (by omega)]; exact ⟨rfl, rfl⟩) | (rw [if_neg (by omega), if_pos (by omega)]; exact ⟨rfl, rfl⟩) | (rw [if_neg (by omega), if_neg (by omega)]; exact ⟨rfl, rfl⟩)
    · refine m_throw rfl rfl rfl rfl rfl rfl rfl rfl rfl rfl rfl rfl (List.mem_of_getElem? (i := 1) rfl) (List.mem_of_getElem? (i := 17) rfl) (Nat.le_of_ble_eq_true rfl) (Nat.le_of_ble_eq_true rfl) (Nat.le_of_ble_eq_true rfl) (Nat.le_of_ble_eq_true rfl) ?_
      unfold caRes
      first | (rw [if_pos (by omega)]; exact ⟨rfl, rfl⟩) | (rw [if_neg (by omega), if_pos (by omega)]; exact ⟨rfl, rfl⟩) | (rw [if_neg (by omega), if_neg (by omega)]; exact ⟨rfl, rfl⟩)
  · obtain ⟨rfl, g2⟩ := caT_r c2
    exact x_out rfl (Nat.le_of_ble_eq_true rfl) (Nat.le_of_ble_eq_true rfl) ⟨(by unfold caRes; rw [if_pos (by omega)]), rfl⟩

def caAvg (m : zkM) (x : Int) : UInt32 := FP.fdiv (FP.i2f (Int32.ofInt (m 5 x.toNat 14))) (FP.i2f (Int32.ofInt (m 22 x.toNat 0)))
def caAve (m : zkM) (x : Int) : zkO := if ¬ (0 ≤ x ∧ x ≤ m 0 0 5 - 1) then Sum.inr xIO else if m 22 x.toNat 0 = 0 then Sum.inr xAE else Sum.inl (some (vf (caAvg m x)))
set_option maxRecDepth 10000 in
theorem c_caAve {l : Launch} {G : zkG} {mem : zkM} (hl : l.stackTraces = false) {x : Int} (h5 : 0 ≤ mem 0 0 5 ∧ mem 0 0 5 ≤ 5) (hx : inR x) (h22 : ∀ i, i < 5 → inR (mem 22 i 0)) (hN : 0 ≤ x ∧ x ≤ mem 0 0 5 - 1 → mem 22 x.toNat 0 ≠ 0 → vf_n32 (caAvg mem x)) : zkCt l G i_Cw_averageResponse 7 2 12 [vr 6 0, vi x] mem (zkRf (caAve mem x) mem) := by
  refine zkCt_of hl ok_Cw_averageResponse (by decide +kernel) rfl rfl (List.forall_mem_cons.mpr ⟨rfl, (List.forall_mem_cons.mpr ⟨rfl, fun _ h => nomatch h⟩)⟩) (Nat.le_of_ble_eq_true rfl) ?_
  refine m_aload_n rfl rfl rfl ?_
  refine m_iload_n rfl rfl rfl ?_
  refine m_cvf rfl rfl lk_6_101 (c_caT hl h5 hx) rfl (by first | decide | assumption | (simp only [cnt]; omega)) (Nat.le_of_ble_eq_true rfl) rfl rfl (Nat.le_of_ble_eq_true rfl) (Nat.le_of_ble_eq_true rfl) (Nat.le_of_ble_eq_true rfl) (Nat.le_of_ble_eq_true rfl) (Nat.le_of_ble_eq_true rfl) (fun v2 c2 => ?_) (fun E2 c2 => ?_)
  · obtain ⟨rfl, g2⟩ := caT_l c2
    have a22 := h22 x.toNat (by omega)
    refine m_astore_n rfl rfl (Nat.le_of_ble_eq_true rfl) rfl ?_
    refine m_aload_n rfl rfl rfl ?_
    refine m_gr (k := 3) rfl rfl (Nat.le_of_ble_eq_true rfl) rfl rfl (by first | decide | assumption | (simp only [cnt]; omega)) ?_
    refine m_iconst rfl rfl ?_
    refine m_ialx (n := 0) (y := mem 22 x.toNat (0)) rfl rfl (Nat.le_of_ble_eq_true rfl) rfl (by first | decide | assumption | (simp only [cnt]; omega)) (by omega) (by simp only [aln]; omega) (by first | rfl | ((repeat (first | rw [ms_s] | rw [ms_t (by decide)] | rw [ms_k (by decide)])) <;> rfl)) ?_
    refine m_if_ne (tgt := 25) rfl rfl rfl (by omega) (fun c12 => ?_) (fun c12 => ?_)
    · refine m_aload_n rfl rfl rfl ?_
      refine m_gix (k := 14) (x := mem 5 x.toNat 14) rfl rfl (Nat.le_of_ble_eq_true rfl) rfl rfl (by first | decide | assumption | (simp only [cnt]; omega)) (by first | rfl | ((repeat (first | rw [ms_s] | rw [ms_t (by decide)] | rw [ms_k (by decide)])) <;> rfl)) ?_
      refine m_i2f rfl rfl ?_
      refine m_aload_n rfl rfl rfl ?_
      refine m_gr (k := 3) rfl rfl (Nat.le_of_ble_eq_true rfl) rfl rfl (by first | decide | assumption | (simp only [cnt]; omega)) ?_
      refine m_iconst rfl rfl ?_
      refine m_ialx (n := 0) (y := mem 22 x.toNat (0)) rfl rfl (Nat.le_of_ble_eq_true rfl) rfl (by first | decide | assumption | (simp only [cnt]; omega)) (by omega) (by simp only [aln]; omega) (by first | rfl | ((repeat (first | rw [ms_s] | rw [ms_t (by decide)] | rw [ms_k (by decide)])) <;> rfl)) ?_
      refine m_i2f rfl rfl ?_
      refine m_fdiv rfl rfl (hN (by omega) (by omega)) ?_
      refine m_fret rfl rfl rfl (Nat.le_of_ble_eq_true rfl) (Nat.le_of_ble_eq_true rfl) ?_
      unfold caAve
      first | (rw [if_pos (by omega)]; exact ⟨rfl, rfl⟩) | (rw [if_neg (by omega), if_pos (by omega)]; exact ⟨rfl, rfl⟩) | (rw [if_neg (by omega), if_neg (by omega)]; exact ⟨rfl, rfl⟩)
    · refine m_throw rfl rfl rfl rfl rfl rfl rfl rfl rfl rfl rfl rfl (List.mem_of_getElem? (i := 4) rfl) (List.mem_of_getElem? (i := 18) rfl) (Nat.le_of_ble_eq_true rfl) (Nat.le_of_ble_eq_true rfl) (Nat.le_of_ble_eq_true rfl) (Nat.le_of_ble_eq_true rfl) ?_
      unfold caAve
      first | (rw [if_pos (by omega)]; exact ⟨rfl, rfl⟩) | (rw [if_neg (by omega), if_pos (by omega)]; exact ⟨rfl, rfl⟩) | (rw [if_neg (by omega), if_neg (by omega)]; exact ⟨rfl, rfl⟩)
  · obtain ⟨rfl, g2⟩ := caT_r c2
    exact x_out rfl (Nat.le_of_ble_eq_true rfl) (Nat.le_of_ble_eq_true rfl) ⟨(by unfold caAve; rw [if_pos (by omega)]), rfl⟩

def caBal (m : zkM) : zkO := if m 4 0 3 = 0 then Sum.inr xIS else Sum.inl (some (vi (m 4 0 7)))
set_option maxRecDepth 10000 in
theorem c_caBal {l : Launch} {G : zkG} {mem : zkM} (hl : l.stackTraces = false) (h3 : inR (mem 4 0 3)) : zkCt l G i_Cw_balance 7 1 6 [vr 6 0] mem (zkRf (caBal mem) mem) := by
  refine zkCt_of hl ok_Cw_balance (by decide +kernel) rfl rfl (List.forall_mem_cons.mpr ⟨rfl, fun _ h => nomatch h⟩) (Nat.le_of_ble_eq_true rfl) ?_
  refine m_aload_n rfl rfl rfl ?_
  refine m_cvf rfl rfl lk_6_203 (c_caSv hl h3) rfl (by first | decide | assumption | (simp only [cnt]; omega)) (Nat.le_of_ble_eq_true rfl) rfl rfl (Nat.le_of_ble_eq_true rfl) (Nat.le_of_ble_eq_true rfl) (Nat.le_of_ble_eq_true rfl) (Nat.le_of_ble_eq_true rfl) (Nat.le_of_ble_eq_true rfl) (fun v1 c1 => ?_) (fun E1 c1 => ?_)
  · obtain ⟨rfl, g2⟩ := caSv_l c1
    refine m_gix (k := 7) (x := mem 4 _ 7) rfl rfl (Nat.le_of_ble_eq_true rfl) rfl rfl (by first | decide | assumption | (simp only [cnt]; omega)) (by first | rfl | ((repeat (first | rw [ms_s] | rw [ms_t (by decide)] | rw [ms_k (by decide)])) <;> rfl)) ?_
    refine m_iret rfl rfl rfl (Nat.le_of_ble_eq_true rfl) (Nat.le_of_ble_eq_true rfl) ?_
    unfold caBal
    first | (rw [if_pos (by omega)]; exact ⟨rfl, rfl⟩) | (rw [if_neg (by omega)]; exact ⟨rfl, rfl⟩)
  · obtain ⟨rfl, g2⟩ := caSv_r c1
    exact x_out rfl (Nat.le_of_ble_eq_true rfl) (Nat.le_of_ble_eq_true rfl) ⟨(by unfold caBal; rw [if_pos (by omega)]), rfl⟩

def caNex (m : zkM) : zkO := if m 4 0 3 = 0 then Sum.inr xIS else caFd (seNx m)
set_option maxRecDepth 10000 in
theorem c_caNex {l : Launch} {G : zkG} {mem : zkM} (hl : l.stackTraces = false) (h3 : inR (mem 4 0 3)) (h2 : inR (mem 4 0 2)) (h11 : inR (seNx mem)) : zkCt l G i_Cw_nextReplenishment 7 2 12 [vr 6 0] mem (zkRf (caNex mem) mem) := by
  refine zkCt_of hl ok_Cw_nextReplenishment (by decide +kernel) rfl rfl (List.forall_mem_cons.mpr ⟨rfl, fun _ h => nomatch h⟩) (Nat.le_of_ble_eq_true rfl) ?_
  refine m_aload_n rfl rfl rfl ?_
  refine m_cvf rfl rfl lk_6_203 (c_caSv hl h3) rfl (by first | decide | assumption | (simp only [cnt]; omega)) (Nat.le_of_ble_eq_true rfl) rfl rfl (Nat.le_of_ble_eq_true rfl) (Nat.le_of_ble_eq_true rfl) (Nat.le_of_ble_eq_true rfl) (Nat.le_of_ble_eq_true rfl) (Nat.le_of_ble_eq_true rfl) (fun v1 c1 => ?_) (fun E1 c1 => ?_)
  · obtain ⟨rfl, g2⟩ := caSv_l c1
    refine m_cv1 rfl rfl lk_6_212 (c_seNext hl h2) rfl (by first | decide | assumption | (simp only [cnt]; omega)) (Nat.le_of_ble_eq_true rfl) rfl rfl (Nat.le_of_ble_eq_true rfl) (Nat.le_of_ble_eq_true rfl) (Nat.le_of_ble_eq_true rfl) (Nat.le_of_ble_eq_true rfl) (Nat.le_of_ble_eq_true rfl) ?_
    refine m_csf rfl rfl lk_6_131 (c_caFd hl (by omega)) rfl rfl (Nat.le_of_ble_eq_true rfl) (Nat.le_of_ble_eq_true rfl) (Nat.le_of_ble_eq_true rfl) (Nat.le_of_ble_eq_true rfl) (Nat.le_of_ble_eq_true rfl) (fun v7 c7 => ?_) (fun E7 c7 => ?_)
    · have g := caFd_l c7
      subst g
      refine m_iret rfl rfl rfl (Nat.le_of_ble_eq_true rfl) (Nat.le_of_ble_eq_true rfl) ?_
      exact ⟨by unfold caNex; rw [if_neg (by omega)]; exact c7.symm, rfl⟩
    · exact x_out rfl (Nat.le_of_ble_eq_true rfl) (Nat.le_of_ble_eq_true rfl) ⟨(by unfold caNex; rw [if_neg (by omega)]; exact c7.symm), rfl⟩
  · obtain ⟨rfl, g2⟩ := caSv_r c1
    exact x_out rfl (Nat.le_of_ble_eq_true rfl) (Nat.le_of_ble_eq_true rfl) ⟨(by unfold caNex; rw [if_pos (by omega)]), rfl⟩

def caRq (m : zkM) (x : Int) : zkO := if ¬ (0 ≤ x ∧ x ≤ m 3 0 4 - 1) then Sum.inr xIO else if m 16 0 x.toNat = -1 then Sum.inr xIS else Sum.inl (some (vi (m 16 0 x.toNat)))
set_option maxRecDepth 10000 in
theorem c_caRq {l : Launch} {G : zkG} {mem : zkM} (hl : l.stackTraces = false) {x : Int} (h4 : 0 ≤ mem 3 0 4 ∧ mem 3 0 4 ≤ 12) (hx : inR x) (h16 : ∀ k, k < 12 → inR (mem 16 0 k)) : zkCt l G i_Cw_requestResponse 6 1 6 [vr 6 0, vi x] mem (zkRf (caRq mem x) mem) := by
  refine zkCt_of hl ok_Cw_requestResponse (by decide +kernel) rfl rfl (List.forall_mem_cons.mpr ⟨rfl, (List.forall_mem_cons.mpr ⟨rfl, fun _ h => nomatch h⟩)⟩) (Nat.le_of_ble_eq_true rfl) ?_
  refine m_iload_n rfl rfl rfl ?_
  refine m_iconst rfl rfl ?_
  refine m_aload_n rfl rfl rfl ?_
  refine m_gr (k := 0) rfl rfl (Nat.le_of_ble_eq_true rfl) rfl rfl (by first | decide | assumption | (simp only [cnt]; omega)) ?_
  refine m_gr (k := 2) rfl rfl (Nat.le_of_ble_eq_true rfl) rfl rfl (by first | decide | assumption | (simp only [cnt]; omega)) ?_
  refine m_gix (k := 4) (x := mem 3 _ 4) rfl rfl (Nat.le_of_ble_eq_true rfl) rfl rfl (by first | decide | assumption | (simp only [cnt]; omega)) (by first | rfl | ((repeat (first | rw [ms_s] | rw [ms_t (by decide)] | rw [ms_k (by decide)])) <;> rfl)) ?_
  refine m_iconst rfl rfl ?_
  refine m_isub rfl rfl ?_
  refine m_cs1 rfl rfl lk_6_56 (c_isWithin hl (by omega) (by omega) (by omega)) rfl rfl (Nat.le_of_ble_eq_true rfl) (Nat.le_of_ble_eq_true rfl) (Nat.le_of_ble_eq_true rfl) (Nat.le_of_ble_eq_true rfl) (Nat.le_of_ble_eq_true rfl) ?_
  refine m_if_ne_d (tgt := 30) rfl rfl rfl (fun c17 => ?_) (fun c17 => ?_)
  · have a16 := h16 x.toNat (by omega)
    refine m_aload_n rfl rfl rfl ?_
    refine m_gr (k := 0) rfl rfl (Nat.le_of_ble_eq_true rfl) rfl rfl (by first | decide | assumption | (simp only [cnt]; omega)) ?_
    refine m_gr (k := 2) rfl rfl (Nat.le_of_ble_eq_true rfl) rfl rfl (by first | decide | assumption | (simp only [cnt]; omega)) ?_
    refine m_gr (k := 3) rfl rfl (Nat.le_of_ble_eq_true rfl) rfl rfl (by first | decide | assumption | (simp only [cnt]; omega)) ?_
    refine m_iload_n rfl rfl rfl ?_
    refine m_ialx (n := x.toNat) (y := mem 16 _ (x.toNat)) rfl rfl (Nat.le_of_ble_eq_true rfl) rfl (by first | decide | assumption | (simp only [cnt]; omega)) (by omega) (by simp only [aln]; omega) (by first | rfl | ((repeat (first | rw [ms_s] | rw [ms_t (by decide)] | rw [ms_k (by decide)])) <;> rfl)) ?_
    refine m_istore_n rfl rfl (Nat.le_of_ble_eq_true rfl) rfl ?_
    refine m_iload_n rfl rfl rfl ?_
    refine m_iconst rfl rfl ?_
    refine m_icmp_ne (tgt := 58) rfl rfl rfl (by omega) (by omega) (fun c45 => ?_) (fun c45 => ?_)
    · refine m_iload_n rfl rfl rfl ?_
      refine m_iret rfl rfl rfl (Nat.le_of_ble_eq_true rfl) (Nat.le_of_ble_eq_true rfl) ?_
      unfold caRq
      first | (rw [if_pos (by omega)]; exact ⟨rfl, rfl⟩) | (rw [if_neg (by omega), if_pos (by omega)]; exact ⟨rfl, rfl⟩) | (rw [if_neg (by omega), if_neg (by omega)]; exact ⟨rfl, rfl⟩)
    · refine m_throw rfl rfl rfl rfl rfl rfl rfl rfl rfl rfl rfl rfl (List.mem_of_getElem? (i := 2) rfl) (List.mem_of_getElem? (i := 21) rfl) (Nat.le_of_ble_eq_true rfl) (Nat.le_of_ble_eq_true rfl) (Nat.le_of_ble_eq_true rfl) (Nat.le_of_ble_eq_true rfl) ?_
      unfold caRq
      first | (rw [if_pos (by omega)]; exact ⟨rfl, rfl⟩) | (rw [if_neg (by omega), if_pos (by omega)]; exact ⟨rfl, rfl⟩) | (rw [if_neg (by omega), if_neg (by omega)]; exact ⟨rfl, rfl⟩)
  · refine m_throw rfl rfl rfl rfl rfl rfl rfl rfl rfl rfl rfl rfl (List.mem_of_getElem? (i := 0) rfl) (List.mem_of_getElem? (i := 20) rfl) (Nat.le_of_ble_eq_true rfl) (Nat.le_of_ble_eq_true rfl) (Nat.le_of_ble_eq_true rfl) (Nat.le_of_ble_eq_true rfl) ?_
    unfold caRq
    first | (rw [if_pos (by omega)]; exact ⟨rfl, rfl⟩) | (rw [if_neg (by omega), if_pos (by omega)]; exact ⟨rfl, rfl⟩) | (rw [if_neg (by omega), if_neg (by omega)]; exact ⟨rfl, rfl⟩)

def caUr (m : zkM) : UInt64 := FP.ddiv (FP.i2d (Int32.ofInt (beUs m))) (FP.i2d (Int32.ofInt (m 0 0 7)))
def caUt (m : zkM) : zkO := if m 0 0 7 = 0 then Sum.inr xAE else Sum.inl (some (vd (caUr m)))
set_option maxRecDepth 10000 in
theorem c_caUt {l : Launch} {G : zkG} {mem : zkM} (hl : l.stackTraces = false) (h7 : 0 ≤ mem 0 0 7 ∧ mem 0 0 7 ≤ 400) (h18 : ∀ k, k < 400 → inR (mem 18 0 k)) (hN : mem 0 0 7 ≠ 0 → vf_n64 (caUr mem)) : zkCt l G i_Cw_utilization 6 1 6 [vr 6 0] mem (zkRf (caUt mem) mem) := by
  refine zkCt_of hl ok_Cw_utilization (by decide +kernel) rfl rfl (List.forall_mem_cons.mpr ⟨rfl, fun _ h => nomatch h⟩) (Nat.le_of_ble_eq_true rfl) ?_
  refine m_aload_n rfl rfl rfl ?_
  refine m_gr (k := 0) rfl rfl (Nat.le_of_ble_eq_true rfl) rfl rfl (by first | decide | assumption | (simp only [cnt]; omega)) ?_
  refine m_gix (k := 7) (x := mem 0 _ 7) rfl rfl (Nat.le_of_ble_eq_true rfl) rfl rfl (by first | decide | assumption | (simp only [cnt]; omega)) (by first | rfl | ((repeat (first | rw [ms_s] | rw [ms_t (by decide)] | rw [ms_k (by decide)])) <;> rfl)) ?_
  refine m_if_ne (tgt := 20) rfl rfl rfl (by omega) (fun c7 => ?_) (fun c7 => ?_)
  · refine m_aload_n rfl rfl rfl ?_
    refine m_gr (k := 0) rfl rfl (Nat.le_of_ble_eq_true rfl) rfl rfl (by first | decide | assumption | (simp only [cnt]; omega)) ?_
    refine m_cv1 rfl rfl lk_6_233 (c_beUs hl h7 h18) rfl (by first | decide | assumption | (simp only [cnt]; omega)) (Nat.le_of_ble_eq_true rfl) rfl rfl (Nat.le_of_ble_eq_true rfl) (Nat.le_of_ble_eq_true rfl) (Nat.le_of_ble_eq_true rfl) (Nat.le_of_ble_eq_true rfl) (Nat.le_of_ble_eq_true rfl) ?_
    refine m_i2d rfl rfl ?_
    refine m_aload_n rfl rfl rfl ?_
    refine m_gr (k := 0) rfl rfl (Nat.le_of_ble_eq_true rfl) rfl rfl (by first | decide | assumption | (simp only [cnt]; omega)) ?_
    refine m_gix (k := 7) (x := mem 0 _ 7) rfl rfl (Nat.le_of_ble_eq_true rfl) rfl rfl (by first | decide | assumption | (simp only [cnt]; omega)) (by first | rfl | ((repeat (first | rw [ms_s] | rw [ms_t (by decide)] | rw [ms_k (by decide)])) <;> rfl)) ?_
    refine m_i2d rfl rfl ?_
    refine m_ddiv rfl rfl (hN (by omega)) ?_
    refine m_dret rfl rfl rfl (Nat.le_of_ble_eq_true rfl) (Nat.le_of_ble_eq_true rfl) ?_
    unfold caUt
    first | (rw [if_pos (by omega)]; exact ⟨rfl, rfl⟩) | (rw [if_neg (by omega)]; exact ⟨rfl, rfl⟩)
  · refine m_throw rfl rfl rfl rfl rfl rfl rfl rfl rfl rfl rfl rfl (List.mem_of_getElem? (i := 4) rfl) (List.mem_of_getElem? (i := 22) rfl) (Nat.le_of_ble_eq_true rfl) (Nat.le_of_ble_eq_true rfl) (Nat.le_of_ble_eq_true rfl) (Nat.le_of_ble_eq_true rfl) ?_
    unfold caUt
    first | (rw [if_pos (by omega)]; exact ⟨rfl, rfl⟩) | (rw [if_neg (by omega)]; exact ⟨rfl, rfl⟩)

def caSnp (m : zkM) : Int × zkM := (m 0 0 7, mset (beCp m 1 0) 6 0 3 1)
theorem beCp_07 (m : zkM) : beCp m 1 0 0 0 7 = m 0 0 7 := by
  unfold beCp
  rw [cpF_f (Or.inr (by decide))]
  unfold beCp2
  rw [cpR_f (Or.inl (by decide)), cpR_f (Or.inl (by decide)), rqCp_f (Or.inr (by decide)), seCp_f (Or.inr (by decide))]
  exact beCp1_10 (Or.inl (by decide)) m 5 (by decide) 7
set_option maxRecDepth 10000 in
theorem c_caSnp {l : Launch} {G : zkG} {mem : zkM} (hl : l.stackTraces = false) (h11 : ∀ i, i < 5 → mem 5 (5 * 0 + i) 11 = 0 ∨ mem 5 (5 * 0 + i) 11 = 1) (h3 : mem 4 0 3 = 0 ∨ mem 4 0 3 = 1) (h8 : mem 4 0 8 = 0 ∨ mem 4 0 8 = 1) : zkCt l G i_Cw_snapshot 4 0 0 [vr 6 0] mem (zkR1 (vi (caSnp mem).1) (caSnp mem).2) := by
  refine zkCt_of hl ok_Cw_snapshot (by decide +kernel) rfl rfl (List.forall_mem_cons.mpr ⟨rfl, fun _ h => nomatch h⟩) (Nat.le_of_ble_eq_true rfl) ?_
  refine m_aload_n rfl rfl rfl ?_
  refine m_gr (k := 1) rfl rfl (Nat.le_of_ble_eq_true rfl) rfl rfl (by first | decide | assumption | (simp only [cnt]; omega)) ?_
  refine m_aload_n rfl rfl rfl ?_
  refine m_gr (k := 0) rfl rfl (Nat.le_of_ble_eq_true rfl) rfl rfl (by first | decide | assumption | (simp only [cnt]; omega)) ?_
  refine m_cv0 rfl rfl lk_6_236 (c_beCp10 hl h11 h3 h8) rfl (by first | decide | assumption | (simp only [cnt]; omega)) (Nat.le_of_ble_eq_true rfl) rfl rfl (Nat.le_of_ble_eq_true rfl) (Nat.le_of_ble_eq_true rfl) (Nat.le_of_ble_eq_true rfl) (Nat.le_of_ble_eq_true rfl) (Nat.le_of_ble_eq_true rfl) ?_
  refine m_aload_n rfl rfl rfl ?_
  refine m_iconst rfl rfl ?_
  refine m_pz1 (k := 3) rfl rfl (Nat.le_of_ble_eq_true rfl) rfl rfl rfl rfl (by first | decide | assumption | (simp only [cnt]; omega)) ?_
  refine m_aload_n rfl rfl rfl ?_
  refine m_gr (k := 0) rfl rfl (Nat.le_of_ble_eq_true rfl) rfl rfl (by first | decide | assumption | (simp only [cnt]; omega)) ?_
  refine m_gix (k := 7) (x := mem 0 0 7) rfl rfl (Nat.le_of_ble_eq_true rfl) rfl rfl (by decide) (by rw [ms_t (by decide)]; exact beCp_07 mem) ?_
  refine m_iret rfl rfl rfl (Nat.le_of_ble_eq_true rfl) (Nat.le_of_ble_eq_true rfl) ?_
  exact ⟨rfl, rfl⟩

def caRst (m : zkM) : zkO × zkM := if m 6 0 3 = 0 then (Sum.inr xIS, m) else (Sum.inl (some (vi (beCp m 0 1 0 0 7))), beCp m 0 1)
set_option maxRecDepth 10000 in
theorem c_caRst {l : Launch} {G : zkG} {mem : zkM} (hl : l.stackTraces = false) (h6 : mem 6 0 3 = 0 ∨ mem 6 0 3 = 1) (h11 : ∀ i, i < 5 → mem 5 (5 * 1 + i) 11 = 0 ∨ mem 5 (5 * 1 + i) 11 = 1) (h3 : mem 4 1 3 = 0 ∨ mem 4 1 3 = 1) (h8 : mem 4 1 8 = 0 ∨ mem 4 1 8 = 1) : zkCt l G i_Cw_restore 6 1 6 [vr 6 0] mem (zkRf (caRst mem).1 (caRst mem).2) := by
  refine zkCt_of hl ok_Cw_restore (by decide +kernel) rfl rfl (List.forall_mem_cons.mpr ⟨rfl, fun _ h => nomatch h⟩) (Nat.le_of_ble_eq_true rfl) ?_
  refine m_aload_n rfl rfl rfl ?_
  refine m_gix (k := 3) (x := mem 6 _ 3) rfl rfl (Nat.le_of_ble_eq_true rfl) rfl rfl (by first | decide | assumption | (simp only [cnt]; omega)) (by first | rfl | ((repeat (first | rw [ms_s] | rw [ms_t (by decide)] | rw [ms_k (by decide)])) <;> rfl)) ?_
  refine m_if_ne (tgt := 17) rfl rfl rfl (by omega) (fun c4 => ?_) (fun c4 => ?_)
  · refine m_aload_n rfl rfl rfl ?_
    refine m_gr (k := 0) rfl rfl (Nat.le_of_ble_eq_true rfl) rfl rfl (by first | decide | assumption | (simp only [cnt]; omega)) ?_
    refine m_aload_n rfl rfl rfl ?_
    refine m_gr (k := 1) rfl rfl (Nat.le_of_ble_eq_true rfl) rfl rfl (by first | decide | assumption | (simp only [cnt]; omega)) ?_
    refine m_cv0 rfl rfl lk_6_236 (c_beCp01 hl h11 h3 h8) rfl (by first | decide | assumption | (simp only [cnt]; omega)) (Nat.le_of_ble_eq_true rfl) rfl rfl (Nat.le_of_ble_eq_true rfl) (Nat.le_of_ble_eq_true rfl) (Nat.le_of_ble_eq_true rfl) (Nat.le_of_ble_eq_true rfl) (Nat.le_of_ble_eq_true rfl) ?_
    refine m_aload_n rfl rfl rfl ?_
    refine m_gr (k := 0) rfl rfl (Nat.le_of_ble_eq_true rfl) rfl rfl (by first | decide | assumption | (simp only [cnt]; omega)) ?_
    refine m_gix (k := 7) (x := beCp mem 0 1 0 0 7) rfl rfl (Nat.le_of_ble_eq_true rfl) rfl rfl (by decide) rfl ?_
    refine m_iret rfl rfl rfl (Nat.le_of_ble_eq_true rfl) (Nat.le_of_ble_eq_true rfl) ?_
    unfold caRst
    first | (rw [if_pos (by omega)]; exact ⟨rfl, rfl⟩) | (rw [if_neg (by omega)]; exact ⟨rfl, rfl⟩)
  · refine m_throw rfl rfl rfl rfl rfl rfl rfl rfl rfl rfl rfl rfl (List.mem_of_getElem? (i := 2) rfl) (List.mem_of_getElem? (i := 23) rfl) (Nat.le_of_ble_eq_true rfl) (Nat.le_of_ble_eq_true rfl) (Nat.le_of_ble_eq_true rfl) (Nat.le_of_ble_eq_true rfl) ?_
    unfold caRst
    first | (rw [if_pos (by omega)]; exact ⟨rfl, rfl⟩) | (rw [if_neg (by omega)]; exact ⟨rfl, rfl⟩)

