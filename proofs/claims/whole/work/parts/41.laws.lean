/-! the law's wrappers -/
theorem ctL_13 : Cond.classLink (zkR 9) 13 xIA ∈ zkGw := zkIn_use (by decide +kernel)
theorem ctL_15 : Cond.classLink (zkR 9) 15 xIS ∈ zkGw := zkIn_use (by decide +kernel)
theorem ctL_17 : Cond.classLink (zkR 9) 17 xUO ∈ zkGw := zkIn_use (by decide +kernel)
theorem ctL_23 : Cond.classLink (zkR 9) 23 xIO ∈ zkGw := zkIn_use (by decide +kernel)
theorem ctL_48 : Cond.classLink (zkR 9) 48 zkNE ∈ zkGw := zkIn_use (by decide +kernel)
theorem ctL_87 : Cond.classLink (zkR 9) 87 xAE ∈ zkGw := zkIn_use (by decide +kernel)
set_option maxRecDepth 10000 in
theorem c_la_addTask {l : Launch} {G : zkG} {mem : zkM} (hl : l.stackTraces = false) {r : zkO} {f g : zkM} {c : Int} {a0 a1 a2 a3 : Int} (hc : zkCt l G i_Cw_addTask 7 1 6 [vr 6 0, vi a0, vi a1, vi a2, vi a3] mem (zkRf r f)) (hr : (∃ v : Int, r = Sum.inl (some (vi v)) ∧ inR v ∧ c = 0 ∧ g = mset f 50 0 0 v) ∨ (r = Sum.inr xIA ∧ c = 1 ∧ g = f) ∨ (r = Sum.inr xIS ∧ c = 2 ∧ g = f) ∨ (r = Sum.inr xUO ∧ c = 3 ∧ g = f)) : zkCt l G i_La_addTask 8 1 6 [vr 6 0, vi a0, vi a1, vi a2, vi a3, vr 50 0] mem (zkR1 (vi c) g) := by
  refine zkCt_ofH hl ok_La_addTask (by decide +kernel) rfl (by decide) (List.forall_mem_cons.mpr ⟨rfl, (List.forall_mem_cons.mpr ⟨rfl, (List.forall_mem_cons.mpr ⟨rfl, (List.forall_mem_cons.mpr ⟨rfl, (List.forall_mem_cons.mpr ⟨rfl, (List.forall_mem_cons.mpr ⟨rfl, fun _ h => nomatch h⟩)⟩)⟩)⟩)⟩)⟩) (Nat.le_of_ble_eq_true rfl) ?_
  rcases hr with ⟨v, rfl, hv, rfl, rfl⟩ | ⟨rfl, rfl, rfl⟩ | ⟨rfl, rfl, rfl⟩ | ⟨rfl, rfl, rfl⟩
  · skip
    refine m_aload rfl rfl rfl ?_
    refine m_iconst rfl rfl ?_
    refine m_aload_n rfl rfl rfl ?_
    refine m_iload_n rfl rfl rfl ?_
    refine m_iload_n rfl rfl rfl ?_
    refine m_iload_n rfl rfl rfl ?_
    refine m_iload rfl rfl rfl ?_
    refine m_cvf rfl rfl lk_9_7 (hc) rfl (by first | decide | assumption | (simp only [cnt]; omega)) (Nat.le_of_ble_eq_true rfl) rfl rfl (Nat.le_of_ble_eq_true rfl) (Nat.le_of_ble_eq_true rfl) (Nat.le_of_ble_eq_true rfl) (Nat.le_of_ble_eq_true rfl) (Nat.le_of_ble_eq_true rfl) (fun v9 c9 => ?_) (fun E9 c9 => ?_)
    · cases c9
      refine m_i2l rfl rfl (by omega) ?_
      refine m_last rfl rfl ?_
      refine m_goto (tgt := 29) rfl rfl rfl ?_
      refine m_iconst rfl rfl ?_
      refine m_iret rfl rfl rfl (Nat.le_of_ble_eq_true rfl) (Nat.le_of_ble_eq_true rfl) ?_
      exact ⟨rfl, rfl⟩
    · cases c9
  · skip
    refine m_aload rfl rfl rfl ?_
    refine m_iconst rfl rfl ?_
    refine m_aload_n rfl rfl rfl ?_
    refine m_iload_n rfl rfl rfl ?_
    refine m_iload_n rfl rfl rfl ?_
    refine m_iload_n rfl rfl rfl ?_
    refine m_iload rfl rfl rfl ?_
    refine m_cvf rfl rfl lk_9_7 (hc) rfl (by first | decide | assumption | (simp only [cnt]; omega)) (Nat.le_of_ble_eq_true rfl) rfl rfl (Nat.le_of_ble_eq_true rfl) (Nat.le_of_ble_eq_true rfl) (Nat.le_of_ble_eq_true rfl) (Nat.le_of_ble_eq_true rfl) (Nat.le_of_ble_eq_true rfl) (fun v9 c9 => ?_) (fun E9 c9 => ?_)
    · cases c9
    · cases c9
      refine x_catch (A := []) (B := [(0, 14, 21, 15), (0, 14, 25, 17)]) (s0 := 0) (e0 := 14) (hp := 17) (ct := 13) rfl rfl (by decide) (by decide) ctL_13 (fun _ h => nomatch h) (fun q => ?_)
      refine m_astore_v rfl rfl (Nat.le_of_ble_eq_true rfl) rfl ?_
      refine m_iconst rfl rfl ?_
      refine m_iret rfl rfl rfl (Nat.le_of_ble_eq_true rfl) (Nat.le_of_ble_eq_true rfl) ?_
      exact ⟨rfl, rfl⟩
  · skip
    refine m_aload rfl rfl rfl ?_
    refine m_iconst rfl rfl ?_
    refine m_aload_n rfl rfl rfl ?_
    refine m_iload_n rfl rfl rfl ?_
    refine m_iload_n rfl rfl rfl ?_
    refine m_iload_n rfl rfl rfl ?_
    refine m_iload rfl rfl rfl ?_
    refine m_cvf rfl rfl lk_9_7 (hc) rfl (by first | decide | assumption | (simp only [cnt]; omega)) (Nat.le_of_ble_eq_true rfl) rfl rfl (Nat.le_of_ble_eq_true rfl) (Nat.le_of_ble_eq_true rfl) (Nat.le_of_ble_eq_true rfl) (Nat.le_of_ble_eq_true rfl) (Nat.le_of_ble_eq_true rfl) (fun v9 c9 => ?_) (fun E9 c9 => ?_)
    · cases c9
    · cases c9
      refine x_catch (A := [(0, 14, 17, 13)]) (B := [(0, 14, 25, 17)]) (s0 := 0) (e0 := 14) (hp := 21) (ct := 15) rfl rfl (by decide) (by decide) ctL_15 (List.forall_mem_cons.mpr ⟨⟨by decide, xIA, by decide, by decide, ctL_13⟩, fun _ h => nomatch h⟩) (fun q => ?_)
      refine m_astore_v rfl rfl (Nat.le_of_ble_eq_true rfl) rfl ?_
      refine m_iconst rfl rfl ?_
      refine m_iret rfl rfl rfl (Nat.le_of_ble_eq_true rfl) (Nat.le_of_ble_eq_true rfl) ?_
      exact ⟨rfl, rfl⟩
  · skip
    refine m_aload rfl rfl rfl ?_
    refine m_iconst rfl rfl ?_
    refine m_aload_n rfl rfl rfl ?_
    refine m_iload_n rfl rfl rfl ?_
    refine m_iload_n rfl rfl rfl ?_
    refine m_iload_n rfl rfl rfl ?_
    refine m_iload rfl rfl rfl ?_
    refine m_cvf rfl rfl lk_9_7 (hc) rfl (by first | decide | assumption | (simp only [cnt]; omega)) (Nat.le_of_ble_eq_true rfl) rfl rfl (Nat.le_of_ble_eq_true rfl) (Nat.le_of_ble_eq_true rfl) (Nat.le_of_ble_eq_true rfl) (Nat.le_of_ble_eq_true rfl) (Nat.le_of_ble_eq_true rfl) (fun v9 c9 => ?_) (fun E9 c9 => ?_)
    · cases c9
    · cases c9
      refine x_catch (A := [(0, 14, 17, 13), (0, 14, 21, 15)]) (B := []) (s0 := 0) (e0 := 14) (hp := 25) (ct := 17) rfl rfl (by decide) (by decide) ctL_17 (List.forall_mem_cons.mpr ⟨⟨by decide, xIA, by decide, by decide, ctL_13⟩, (List.forall_mem_cons.mpr ⟨⟨by decide, xIS, by decide, by decide, ctL_15⟩, fun _ h => nomatch h⟩)⟩) (fun q => ?_)
      refine m_astore_v rfl rfl (Nat.le_of_ble_eq_true rfl) rfl ?_
      refine m_iconst rfl rfl ?_
      refine m_iret rfl rfl rfl (Nat.le_of_ble_eq_true rfl) (Nat.le_of_ble_eq_true rfl) ?_
      exact ⟨rfl, rfl⟩

set_option maxRecDepth 10000 in
theorem c_la_addSegment {l : Launch} {G : zkG} {mem : zkM} (hl : l.stackTraces = false) {r : zkO} {f g : zkM} {c : Int} {a0 a1 a2 : Int} (hc : zkCt l G i_Cw_addSegment 7 1 6 [vr 6 0, vi a0, vi a1, vi a2] mem (zkRf r f)) (hr : (∃ v : Int, r = Sum.inl (some (vi v)) ∧ inR v ∧ c = 0 ∧ g = mset f 50 0 0 v) ∨ (r = Sum.inr xIO ∧ c = 1 ∧ g = f) ∨ (r = Sum.inr xIA ∧ c = 2 ∧ g = f) ∨ (r = Sum.inr xIS ∧ c = 3 ∧ g = f)) : zkCt l G i_La_addSegment 8 1 6 [vr 6 0, vi a0, vi a1, vi a2, vr 50 0] mem (zkR1 (vi c) g) := by
  refine zkCt_ofH hl ok_La_addSegment (by decide +kernel) rfl (by decide) (List.forall_mem_cons.mpr ⟨rfl, (List.forall_mem_cons.mpr ⟨rfl, (List.forall_mem_cons.mpr ⟨rfl, (List.forall_mem_cons.mpr ⟨rfl, (List.forall_mem_cons.mpr ⟨rfl, fun _ h => nomatch h⟩)⟩)⟩)⟩)⟩) (Nat.le_of_ble_eq_true rfl) ?_
  rcases hr with ⟨v, rfl, hv, rfl, rfl⟩ | ⟨rfl, rfl, rfl⟩ | ⟨rfl, rfl, rfl⟩ | ⟨rfl, rfl, rfl⟩
  · skip
    refine m_aload rfl rfl rfl ?_
    refine m_iconst rfl rfl ?_
    refine m_aload_n rfl rfl rfl ?_
    refine m_iload_n rfl rfl rfl ?_
    refine m_iload_n rfl rfl rfl ?_
    refine m_iload_n rfl rfl rfl ?_
    refine m_cvf rfl rfl lk_9_19 (hc) rfl (by first | decide | assumption | (simp only [cnt]; omega)) (Nat.le_of_ble_eq_true rfl) rfl rfl (Nat.le_of_ble_eq_true rfl) (Nat.le_of_ble_eq_true rfl) (Nat.le_of_ble_eq_true rfl) (Nat.le_of_ble_eq_true rfl) (Nat.le_of_ble_eq_true rfl) (fun v7 c7 => ?_) (fun E7 c7 => ?_)
    · cases c7
      refine m_i2l rfl rfl (by omega) ?_
      refine m_last rfl rfl ?_
      refine m_goto (tgt := 27) rfl rfl rfl ?_
      refine m_iconst rfl rfl ?_
      refine m_iret rfl rfl rfl (Nat.le_of_ble_eq_true rfl) (Nat.le_of_ble_eq_true rfl) ?_
      exact ⟨rfl, rfl⟩
    · cases c7
  · skip
    refine m_aload rfl rfl rfl ?_
    refine m_iconst rfl rfl ?_
    refine m_aload_n rfl rfl rfl ?_
    refine m_iload_n rfl rfl rfl ?_
    refine m_iload_n rfl rfl rfl ?_
    refine m_iload_n rfl rfl rfl ?_
    refine m_cvf rfl rfl lk_9_19 (hc) rfl (by first | decide | assumption | (simp only [cnt]; omega)) (Nat.le_of_ble_eq_true rfl) rfl rfl (Nat.le_of_ble_eq_true rfl) (Nat.le_of_ble_eq_true rfl) (Nat.le_of_ble_eq_true rfl) (Nat.le_of_ble_eq_true rfl) (Nat.le_of_ble_eq_true rfl) (fun v7 c7 => ?_) (fun E7 c7 => ?_)
    · cases c7
    · cases c7
      refine x_catch (A := []) (B := [(0, 12, 19, 13), (0, 12, 23, 15)]) (s0 := 0) (e0 := 12) (hp := 15) (ct := 23) rfl rfl (by decide) (by decide) ctL_23 (fun _ h => nomatch h) (fun q => ?_)
      refine m_astore_v rfl rfl (Nat.le_of_ble_eq_true rfl) rfl ?_
      refine m_iconst rfl rfl ?_
      refine m_iret rfl rfl rfl (Nat.le_of_ble_eq_true rfl) (Nat.le_of_ble_eq_true rfl) ?_
      exact ⟨rfl, rfl⟩
  · skip
    refine m_aload rfl rfl rfl ?_
    refine m_iconst rfl rfl ?_
    refine m_aload_n rfl rfl rfl ?_
    refine m_iload_n rfl rfl rfl ?_
    refine m_iload_n rfl rfl rfl ?_
    refine m_iload_n rfl rfl rfl ?_
    refine m_cvf rfl rfl lk_9_19 (hc) rfl (by first | decide | assumption | (simp only [cnt]; omega)) (Nat.le_of_ble_eq_true rfl) rfl rfl (Nat.le_of_ble_eq_true rfl) (Nat.le_of_ble_eq_true rfl) (Nat.le_of_ble_eq_true rfl) (Nat.le_of_ble_eq_true rfl) (Nat.le_of_ble_eq_true rfl) (fun v7 c7 => ?_) (fun E7 c7 => ?_)
    · cases c7
    · cases c7
      refine x_catch (A := [(0, 12, 15, 23)]) (B := [(0, 12, 23, 15)]) (s0 := 0) (e0 := 12) (hp := 19) (ct := 13) rfl rfl (by decide) (by decide) ctL_13 (List.forall_mem_cons.mpr ⟨⟨by decide, xIO, by decide, by decide, ctL_23⟩, fun _ h => nomatch h⟩) (fun q => ?_)
      refine m_astore_v rfl rfl (Nat.le_of_ble_eq_true rfl) rfl ?_
      refine m_iconst rfl rfl ?_
      refine m_iret rfl rfl rfl (Nat.le_of_ble_eq_true rfl) (Nat.le_of_ble_eq_true rfl) ?_
      exact ⟨rfl, rfl⟩
  · skip
    refine m_aload rfl rfl rfl ?_
    refine m_iconst rfl rfl ?_
    refine m_aload_n rfl rfl rfl ?_
    refine m_iload_n rfl rfl rfl ?_
    refine m_iload_n rfl rfl rfl ?_
    refine m_iload_n rfl rfl rfl ?_
    refine m_cvf rfl rfl lk_9_19 (hc) rfl (by first | decide | assumption | (simp only [cnt]; omega)) (Nat.le_of_ble_eq_true rfl) rfl rfl (Nat.le_of_ble_eq_true rfl) (Nat.le_of_ble_eq_true rfl) (Nat.le_of_ble_eq_true rfl) (Nat.le_of_ble_eq_true rfl) (Nat.le_of_ble_eq_true rfl) (fun v7 c7 => ?_) (fun E7 c7 => ?_)
    · cases c7
    · cases c7
      refine x_catch (A := [(0, 12, 15, 23), (0, 12, 19, 13)]) (B := []) (s0 := 0) (e0 := 12) (hp := 23) (ct := 15) rfl rfl (by decide) (by decide) ctL_15 (List.forall_mem_cons.mpr ⟨⟨by decide, xIO, by decide, by decide, ctL_23⟩, (List.forall_mem_cons.mpr ⟨⟨by decide, xIA, by decide, by decide, ctL_13⟩, fun _ h => nomatch h⟩)⟩) (fun q => ?_)
      refine m_astore_v rfl rfl (Nat.le_of_ble_eq_true rfl) rfl ?_
      refine m_iconst rfl rfl ?_
      refine m_iret rfl rfl rfl (Nat.le_of_ble_eq_true rfl) (Nat.le_of_ble_eq_true rfl) ?_
      exact ⟨rfl, rfl⟩

set_option maxRecDepth 10000 in
theorem c_la_setServer {l : Launch} {G : zkG} {mem : zkM} (hl : l.stackTraces = false) {r : zkO} {f g : zkM} {c : Int} {a0 a1 a2 : Int} (hc : zkCt l G i_Cw_setServer 7 1 6 [vr 6 0, vi a0, vi a1, vi a2] mem (zkRf r f)) (hr : (∃ v : Bool, r = Sum.inl (some (vi (b2i v))) ∧ True ∧ c = 0 ∧ g = mset f 50 0 0 (b2i v)) ∨ (r = Sum.inr xIA ∧ c = 1 ∧ g = f) ∨ (r = Sum.inr xIS ∧ c = 2 ∧ g = f) ∨ (r = Sum.inr xUO ∧ c = 3 ∧ g = f)) : zkCt l G i_La_setServer 8 1 6 [vr 6 0, vi a0, vi a1, vi a2, vr 50 0] mem (zkR1 (vi c) g) := by
  refine zkCt_ofH hl ok_La_setServer (by decide +kernel) rfl (by decide) (List.forall_mem_cons.mpr ⟨rfl, (List.forall_mem_cons.mpr ⟨rfl, (List.forall_mem_cons.mpr ⟨rfl, (List.forall_mem_cons.mpr ⟨rfl, (List.forall_mem_cons.mpr ⟨rfl, fun _ h => nomatch h⟩)⟩)⟩)⟩)⟩) (Nat.le_of_ble_eq_true rfl) ?_
  rcases hr with ⟨v, rfl, hv, rfl, rfl⟩ | ⟨rfl, rfl, rfl⟩ | ⟨rfl, rfl, rfl⟩ | ⟨rfl, rfl, rfl⟩
  · skip
    refine m_aload rfl rfl rfl ?_
    refine m_iconst rfl rfl ?_
    refine m_aload_n rfl rfl rfl ?_
    refine m_iload_n rfl rfl rfl ?_
    refine m_iload_n rfl rfl rfl ?_
    refine m_iload_n rfl rfl rfl ?_
    refine m_cvf rfl rfl lk_9_25 (hc) rfl (by first | decide | assumption | (simp only [cnt]; omega)) (Nat.le_of_ble_eq_true rfl) rfl rfl (Nat.le_of_ble_eq_true rfl) (Nat.le_of_ble_eq_true rfl) (Nat.le_of_ble_eq_true rfl) (Nat.le_of_ble_eq_true rfl) (Nat.le_of_ble_eq_true rfl) (fun v7 c7 => ?_) (fun E7 c7 => ?_)
    · cases c7
      refine m_if_eq_b (tgt := 17) rfl rfl rfl (fun c10 => ?_) (fun c10 => ?_)
      · refine m_lconst (x := 0) rfl rfl rfl ?_
        refine m_last rfl rfl ?_
        refine m_goto (tgt := 34) rfl rfl rfl ?_
        refine m_iconst rfl rfl ?_
        refine m_iret rfl rfl rfl (Nat.le_of_ble_eq_true rfl) (Nat.le_of_ble_eq_true rfl) ?_
        subst c10
        exact ⟨rfl, rfl⟩
      · refine m_lconst (x := 1) rfl rfl rfl ?_
        refine m_goto (tgt := 18) rfl rfl rfl ?_
        refine m_last rfl rfl ?_
        refine m_goto (tgt := 34) rfl rfl rfl ?_
        refine m_iconst rfl rfl ?_
        refine m_iret rfl rfl rfl (Nat.le_of_ble_eq_true rfl) (Nat.le_of_ble_eq_true rfl) ?_
        subst c10
        exact ⟨rfl, rfl⟩
    · cases c7
  · skip
    refine m_aload rfl rfl rfl ?_
    refine m_iconst rfl rfl ?_
    refine m_aload_n rfl rfl rfl ?_
    refine m_iload_n rfl rfl rfl ?_
    refine m_iload_n rfl rfl rfl ?_
    refine m_iload_n rfl rfl rfl ?_
    refine m_cvf rfl rfl lk_9_25 (hc) rfl (by first | decide | assumption | (simp only [cnt]; omega)) (Nat.le_of_ble_eq_true rfl) rfl rfl (Nat.le_of_ble_eq_true rfl) (Nat.le_of_ble_eq_true rfl) (Nat.le_of_ble_eq_true rfl) (Nat.le_of_ble_eq_true rfl) (Nat.le_of_ble_eq_true rfl) (fun v7 c7 => ?_) (fun E7 c7 => ?_)
    · cases c7
    · cases c7
      refine x_catch (A := []) (B := [(0, 19, 26, 15), (0, 19, 30, 17)]) (s0 := 0) (e0 := 19) (hp := 22) (ct := 13) rfl rfl (by decide) (by decide) ctL_13 (fun _ h => nomatch h) (fun q => ?_)
      refine m_astore_v rfl rfl (Nat.le_of_ble_eq_true rfl) rfl ?_
      refine m_iconst rfl rfl ?_
      refine m_iret rfl rfl rfl (Nat.le_of_ble_eq_true rfl) (Nat.le_of_ble_eq_true rfl) ?_
      exact ⟨rfl, rfl⟩
  · skip
    refine m_aload rfl rfl rfl ?_
    refine m_iconst rfl rfl ?_
    refine m_aload_n rfl rfl rfl ?_
    refine m_iload_n rfl rfl rfl ?_
    refine m_iload_n rfl rfl rfl ?_
    refine m_iload_n rfl rfl rfl ?_
    refine m_cvf rfl rfl lk_9_25 (hc) rfl (by first | decide | assumption | (simp only [cnt]; omega)) (Nat.le_of_ble_eq_true rfl) rfl rfl (Nat.le_of_ble_eq_true rfl) (Nat.le_of_ble_eq_true rfl) (Nat.le_of_ble_eq_true rfl) (Nat.le_of_ble_eq_true rfl) (Nat.le_of_ble_eq_true rfl) (fun v7 c7 => ?_) (fun E7 c7 => ?_)
    · cases c7
    · cases c7
      refine x_catch (A := [(0, 19, 22, 13)]) (B := [(0, 19, 30, 17)]) (s0 := 0) (e0 := 19) (hp := 26) (ct := 15) rfl rfl (by decide) (by decide) ctL_15 (List.forall_mem_cons.mpr ⟨⟨by decide, xIA, by decide, by decide, ctL_13⟩, fun _ h => nomatch h⟩) (fun q => ?_)
      refine m_astore_v rfl rfl (Nat.le_of_ble_eq_true rfl) rfl ?_
      refine m_iconst rfl rfl ?_
      refine m_iret rfl rfl rfl (Nat.le_of_ble_eq_true rfl) (Nat.le_of_ble_eq_true rfl) ?_
      exact ⟨rfl, rfl⟩
  · skip
    refine m_aload rfl rfl rfl ?_
    refine m_iconst rfl rfl ?_
    refine m_aload_n rfl rfl rfl ?_
    refine m_iload_n rfl rfl rfl ?_
    refine m_iload_n rfl rfl rfl ?_
    refine m_iload_n rfl rfl rfl ?_
    refine m_cvf rfl rfl lk_9_25 (hc) rfl (by first | decide | assumption | (simp only [cnt]; omega)) (Nat.le_of_ble_eq_true rfl) rfl rfl (Nat.le_of_ble_eq_true rfl) (Nat.le_of_ble_eq_true rfl) (Nat.le_of_ble_eq_true rfl) (Nat.le_of_ble_eq_true rfl) (Nat.le_of_ble_eq_true rfl) (fun v7 c7 => ?_) (fun E7 c7 => ?_)
    · cases c7
    · cases c7
      refine x_catch (A := [(0, 19, 22, 13), (0, 19, 26, 15)]) (B := []) (s0 := 0) (e0 := 19) (hp := 30) (ct := 17) rfl rfl (by decide) (by decide) ctL_17 (List.forall_mem_cons.mpr ⟨⟨by decide, xIA, by decide, by decide, ctL_13⟩, (List.forall_mem_cons.mpr ⟨⟨by decide, xIS, by decide, by decide, ctL_15⟩, fun _ h => nomatch h⟩)⟩) (fun q => ?_)
      refine m_astore_v rfl rfl (Nat.le_of_ble_eq_true rfl) rfl ?_
      refine m_iconst rfl rfl ?_
      refine m_iret rfl rfl rfl (Nat.le_of_ble_eq_true rfl) (Nat.le_of_ble_eq_true rfl) ?_
      exact ⟨rfl, rfl⟩

set_option maxRecDepth 10000 in
theorem c_la_request {l : Launch} {G : zkG} {mem : zkM} (hl : l.stackTraces = false) {r : zkO} {f g : zkM} {c : Int} {a0 a1 : Int} (hc : zkCt l G i_Cw_request 7 1 6 [vr 6 0, vi a0, vi a1] mem (zkRf r f)) (hr : (∃ v : Int, r = Sum.inl (some (vi v)) ∧ inR v ∧ c = 0 ∧ g = mset f 50 0 0 v) ∨ (r = Sum.inr xIA ∧ c = 1 ∧ g = f) ∨ (r = Sum.inr xIS ∧ c = 2 ∧ g = f)) : zkCt l G i_La_request 8 1 6 [vr 6 0, vi a0, vi a1, vr 50 0] mem (zkR1 (vi c) g) := by
  refine zkCt_ofH hl ok_La_request (by decide +kernel) rfl (by decide) (List.forall_mem_cons.mpr ⟨rfl, (List.forall_mem_cons.mpr ⟨rfl, (List.forall_mem_cons.mpr ⟨rfl, (List.forall_mem_cons.mpr ⟨rfl, fun _ h => nomatch h⟩)⟩)⟩)⟩) (Nat.le_of_ble_eq_true rfl) ?_
  rcases hr with ⟨v, rfl, hv, rfl, rfl⟩ | ⟨rfl, rfl, rfl⟩ | ⟨rfl, rfl, rfl⟩
  · skip
    refine m_aload_n rfl rfl rfl ?_
    refine m_iconst rfl rfl ?_
    refine m_aload_n rfl rfl rfl ?_
    refine m_iload_n rfl rfl rfl ?_
    refine m_iload_n rfl rfl rfl ?_
    refine m_cvf rfl rfl lk_9_29 (hc) rfl (by first | decide | assumption | (simp only [cnt]; omega)) (Nat.le_of_ble_eq_true rfl) rfl rfl (Nat.le_of_ble_eq_true rfl) (Nat.le_of_ble_eq_true rfl) (Nat.le_of_ble_eq_true rfl) (Nat.le_of_ble_eq_true rfl) (Nat.le_of_ble_eq_true rfl) (fun v5 c5 => ?_) (fun E5 c5 => ?_)
    · cases c5
      refine m_i2l rfl rfl (by omega) ?_
      refine m_last rfl rfl ?_
      refine m_goto (tgt := 21) rfl rfl rfl ?_
      refine m_iconst rfl rfl ?_
      refine m_iret rfl rfl rfl (Nat.le_of_ble_eq_true rfl) (Nat.le_of_ble_eq_true rfl) ?_
      exact ⟨rfl, rfl⟩
    · cases c5
  · skip
    refine m_aload_n rfl rfl rfl ?_
    refine m_iconst rfl rfl ?_
    refine m_aload_n rfl rfl rfl ?_
    refine m_iload_n rfl rfl rfl ?_
    refine m_iload_n rfl rfl rfl ?_
    refine m_cvf rfl rfl lk_9_29 (hc) rfl (by first | decide | assumption | (simp only [cnt]; omega)) (Nat.le_of_ble_eq_true rfl) rfl rfl (Nat.le_of_ble_eq_true rfl) (Nat.le_of_ble_eq_true rfl) (Nat.le_of_ble_eq_true rfl) (Nat.le_of_ble_eq_true rfl) (Nat.le_of_ble_eq_true rfl) (fun v5 c5 => ?_) (fun E5 c5 => ?_)
    · cases c5
    · cases c5
      refine x_catch (A := []) (B := [(0, 10, 17, 15)]) (s0 := 0) (e0 := 10) (hp := 13) (ct := 13) rfl rfl (by decide) (by decide) ctL_13 (fun _ h => nomatch h) (fun q => ?_)
      refine m_astore_v rfl rfl (Nat.le_of_ble_eq_true rfl) rfl ?_
      refine m_iconst rfl rfl ?_
      refine m_iret rfl rfl rfl (Nat.le_of_ble_eq_true rfl) (Nat.le_of_ble_eq_true rfl) ?_
      exact ⟨rfl, rfl⟩
  · skip
    refine m_aload_n rfl rfl rfl ?_
    refine m_iconst rfl rfl ?_
    refine m_aload_n rfl rfl rfl ?_
    refine m_iload_n rfl rfl rfl ?_
    refine m_iload_n rfl rfl rfl ?_
    refine m_cvf rfl rfl lk_9_29 (hc) rfl (by first | decide | assumption | (simp only [cnt]; omega)) (Nat.le_of_ble_eq_true rfl) rfl rfl (Nat.le_of_ble_eq_true rfl) (Nat.le_of_ble_eq_true rfl) (Nat.le_of_ble_eq_true rfl) (Nat.le_of_ble_eq_true rfl) (Nat.le_of_ble_eq_true rfl) (fun v5 c5 => ?_) (fun E5 c5 => ?_)
    · cases c5
    · cases c5
      refine x_catch (A := [(0, 10, 13, 13)]) (B := []) (s0 := 0) (e0 := 10) (hp := 17) (ct := 15) rfl rfl (by decide) (by decide) ctL_15 (List.forall_mem_cons.mpr ⟨⟨by decide, xIA, by decide, by decide, ctL_13⟩, fun _ h => nomatch h⟩) (fun q => ?_)
      refine m_astore_v rfl rfl (Nat.le_of_ble_eq_true rfl) rfl ?_
      refine m_iconst rfl rfl ?_
      refine m_iret rfl rfl rfl (Nat.le_of_ble_eq_true rfl) (Nat.le_of_ble_eq_true rfl) ?_
      exact ⟨rfl, rfl⟩

set_option maxRecDepth 10000 in
theorem c_la_setPolicy {l : Launch} {G : zkG} {mem : zkM} (hl : l.stackTraces = false) {r : zkO} {f g : zkM} {c : Int} {a0 : Int} (hc : zkCt l G i_Cw_setPolicy 7 1 6 [vr 6 0, vi a0] mem (zkRf r f)) (hr : (∃ v : Int, r = Sum.inl (some (vi v)) ∧ inR v ∧ c = 0 ∧ g = mset f 50 0 0 v) ∨ (r = Sum.inr xIA ∧ c = 1 ∧ g = f)) : zkCt l G i_La_setPolicy 8 1 6 [vr 6 0, vi a0, vr 50 0] mem (zkR1 (vi c) g) := by
  refine zkCt_ofH hl ok_La_setPolicy (by decide +kernel) rfl (by decide) (List.forall_mem_cons.mpr ⟨rfl, (List.forall_mem_cons.mpr ⟨rfl, (List.forall_mem_cons.mpr ⟨rfl, fun _ h => nomatch h⟩)⟩)⟩) (Nat.le_of_ble_eq_true rfl) ?_
  rcases hr with ⟨v, rfl, hv, rfl, rfl⟩ | ⟨rfl, rfl, rfl⟩
  · skip
    refine m_aload_n rfl rfl rfl ?_
    refine m_iconst rfl rfl ?_
    refine m_aload_n rfl rfl rfl ?_
    refine m_iload_n rfl rfl rfl ?_
    refine m_cvf rfl rfl lk_9_33 (hc) rfl (by first | decide | assumption | (simp only [cnt]; omega)) (Nat.le_of_ble_eq_true rfl) rfl rfl (Nat.le_of_ble_eq_true rfl) (Nat.le_of_ble_eq_true rfl) (Nat.le_of_ble_eq_true rfl) (Nat.le_of_ble_eq_true rfl) (Nat.le_of_ble_eq_true rfl) (fun v4 c4 => ?_) (fun E4 c4 => ?_)
    · cases c4
      refine m_i2l rfl rfl (by omega) ?_
      refine m_last rfl rfl ?_
      refine m_goto (tgt := 15) rfl rfl rfl ?_
      refine m_iconst rfl rfl ?_
      refine m_iret rfl rfl rfl (Nat.le_of_ble_eq_true rfl) (Nat.le_of_ble_eq_true rfl) ?_
      exact ⟨rfl, rfl⟩
    · cases c4
  · skip
    refine m_aload_n rfl rfl rfl ?_
    refine m_iconst rfl rfl ?_
    refine m_aload_n rfl rfl rfl ?_
    refine m_iload_n rfl rfl rfl ?_
    refine m_cvf rfl rfl lk_9_33 (hc) rfl (by first | decide | assumption | (simp only [cnt]; omega)) (Nat.le_of_ble_eq_true rfl) rfl rfl (Nat.le_of_ble_eq_true rfl) (Nat.le_of_ble_eq_true rfl) (Nat.le_of_ble_eq_true rfl) (Nat.le_of_ble_eq_true rfl) (Nat.le_of_ble_eq_true rfl) (fun v4 c4 => ?_) (fun E4 c4 => ?_)
    · cases c4
    · cases c4
      refine x_catch (A := []) (B := []) (s0 := 0) (e0 := 9) (hp := 12) (ct := 13) rfl rfl (by decide) (by decide) ctL_13 (fun _ h => nomatch h) (fun q => ?_)
      refine m_astore_nv rfl rfl (Nat.le_of_ble_eq_true rfl) rfl ?_
      refine m_iconst rfl rfl ?_
      refine m_iret rfl rfl rfl (Nat.le_of_ble_eq_true rfl) (Nat.le_of_ble_eq_true rfl) ?_
      exact ⟨rfl, rfl⟩

set_option maxRecDepth 10000 in
theorem c_la_append {l : Launch} {G : zkG} {mem : zkM} (hl : l.stackTraces = false) {r : zkO} {f g : zkM} {c : Int} {a0 : Int} (hc : zkCt l G i_Cw_append 6 1 6 [vr 6 0, vi a0] mem (zkRf r f)) (hr : (∃ v : Int, r = Sum.inl (some (vi v)) ∧ inR v ∧ c = 0 ∧ g = mset f 50 0 0 v) ∨ (r = Sum.inr xIA ∧ c = 1 ∧ g = f) ∨ (r = Sum.inr xIS ∧ c = 2 ∧ g = f)) : zkCt l G i_La_append 7 1 6 [vr 6 0, vi a0, vr 50 0] mem (zkR1 (vi c) g) := by
  refine zkCt_ofH hl ok_La_append (by decide +kernel) rfl (by decide) (List.forall_mem_cons.mpr ⟨rfl, (List.forall_mem_cons.mpr ⟨rfl, (List.forall_mem_cons.mpr ⟨rfl, fun _ h => nomatch h⟩)⟩)⟩) (Nat.le_of_ble_eq_true rfl) ?_
  rcases hr with ⟨v, rfl, hv, rfl, rfl⟩ | ⟨rfl, rfl, rfl⟩ | ⟨rfl, rfl, rfl⟩
  · skip
    refine m_aload_n rfl rfl rfl ?_
    refine m_iconst rfl rfl ?_
    refine m_aload_n rfl rfl rfl ?_
    refine m_iload_n rfl rfl rfl ?_
    refine m_cvf rfl rfl lk_9_37 (hc) rfl (by first | decide | assumption | (simp only [cnt]; omega)) (Nat.le_of_ble_eq_true rfl) rfl rfl (Nat.le_of_ble_eq_true rfl) (Nat.le_of_ble_eq_true rfl) (Nat.le_of_ble_eq_true rfl) (Nat.le_of_ble_eq_true rfl) (Nat.le_of_ble_eq_true rfl) (fun v4 c4 => ?_) (fun E4 c4 => ?_)
    · cases c4
      refine m_i2l rfl rfl (by omega) ?_
      refine m_last rfl rfl ?_
      refine m_goto (tgt := 18) rfl rfl rfl ?_
      refine m_iconst rfl rfl ?_
      refine m_iret rfl rfl rfl (Nat.le_of_ble_eq_true rfl) (Nat.le_of_ble_eq_true rfl) ?_
      exact ⟨rfl, rfl⟩
    · cases c4
  · skip
    refine m_aload_n rfl rfl rfl ?_
    refine m_iconst rfl rfl ?_
    refine m_aload_n rfl rfl rfl ?_
    refine m_iload_n rfl rfl rfl ?_
    refine m_cvf rfl rfl lk_9_37 (hc) rfl (by first | decide | assumption | (simp only [cnt]; omega)) (Nat.le_of_ble_eq_true rfl) rfl rfl (Nat.le_of_ble_eq_true rfl) (Nat.le_of_ble_eq_true rfl) (Nat.le_of_ble_eq_true rfl) (Nat.le_of_ble_eq_true rfl) (Nat.le_of_ble_eq_true rfl) (fun v4 c4 => ?_) (fun E4 c4 => ?_)
    · cases c4
    · cases c4
      refine x_catch (A := []) (B := [(0, 9, 15, 15)]) (s0 := 0) (e0 := 9) (hp := 12) (ct := 13) rfl rfl (by decide) (by decide) ctL_13 (fun _ h => nomatch h) (fun q => ?_)
      refine m_astore_nv rfl rfl (Nat.le_of_ble_eq_true rfl) rfl ?_
      refine m_iconst rfl rfl ?_
      refine m_iret rfl rfl rfl (Nat.le_of_ble_eq_true rfl) (Nat.le_of_ble_eq_true rfl) ?_
      exact ⟨rfl, rfl⟩
  · skip
    refine m_aload_n rfl rfl rfl ?_
    refine m_iconst rfl rfl ?_
    refine m_aload_n rfl rfl rfl ?_
    refine m_iload_n rfl rfl rfl ?_
    refine m_cvf rfl rfl lk_9_37 (hc) rfl (by first | decide | assumption | (simp only [cnt]; omega)) (Nat.le_of_ble_eq_true rfl) rfl rfl (Nat.le_of_ble_eq_true rfl) (Nat.le_of_ble_eq_true rfl) (Nat.le_of_ble_eq_true rfl) (Nat.le_of_ble_eq_true rfl) (Nat.le_of_ble_eq_true rfl) (fun v4 c4 => ?_) (fun E4 c4 => ?_)
    · cases c4
    · cases c4
      refine x_catch (A := [(0, 9, 12, 13)]) (B := []) (s0 := 0) (e0 := 9) (hp := 15) (ct := 15) rfl rfl (by decide) (by decide) ctL_15 (List.forall_mem_cons.mpr ⟨⟨by decide, xIA, by decide, by decide, ctL_13⟩, fun _ h => nomatch h⟩) (fun q => ?_)
      refine m_astore_nv rfl rfl (Nat.le_of_ble_eq_true rfl) rfl ?_
      refine m_iconst rfl rfl ?_
      refine m_iret rfl rfl rfl (Nat.le_of_ble_eq_true rfl) (Nat.le_of_ble_eq_true rfl) ?_
      exact ⟨rfl, rfl⟩

set_option maxRecDepth 10000 in
theorem c_la_configure {l : Launch} {G : zkG} {mem : zkM} (hl : l.stackTraces = false) {r : zkO} {f g : zkM} {c : Int} (hc : zkCt l G i_Cw_configure 9 1 6 [vr 6 0] mem (zkRf r f)) (hr : (∃ v : Int, r = Sum.inl (some (vi v)) ∧ inR v ∧ c = 0 ∧ g = mset f 50 0 0 v) ∨ (r = Sum.inr xIA ∧ c = 1 ∧ g = f) ∨ (r = Sum.inr xIS ∧ c = 2 ∧ g = f)) : zkCt l G i_La_configure 10 1 6 [vr 6 0, vr 50 0] mem (zkR1 (vi c) g) := by
  refine zkCt_ofH hl ok_La_configure (by decide +kernel) rfl (by decide) (List.forall_mem_cons.mpr ⟨rfl, (List.forall_mem_cons.mpr ⟨rfl, fun _ h => nomatch h⟩)⟩) (Nat.le_of_ble_eq_true rfl) ?_
  rcases hr with ⟨v, rfl, hv, rfl, rfl⟩ | ⟨rfl, rfl, rfl⟩ | ⟨rfl, rfl, rfl⟩
  · skip
    refine m_aload_n rfl rfl rfl ?_
    refine m_iconst rfl rfl ?_
    refine m_aload_n rfl rfl rfl ?_
    refine m_cvf rfl rfl lk_9_41 (hc) rfl (by first | decide | assumption | (simp only [cnt]; omega)) (Nat.le_of_ble_eq_true rfl) rfl rfl (Nat.le_of_ble_eq_true rfl) (Nat.le_of_ble_eq_true rfl) (Nat.le_of_ble_eq_true rfl) (Nat.le_of_ble_eq_true rfl) (Nat.le_of_ble_eq_true rfl) (fun v3 c3 => ?_) (fun E3 c3 => ?_)
    · cases c3
      refine m_i2l rfl rfl (by omega) ?_
      refine m_last rfl rfl ?_
      refine m_goto (tgt := 17) rfl rfl rfl ?_
      refine m_iconst rfl rfl ?_
      refine m_iret rfl rfl rfl (Nat.le_of_ble_eq_true rfl) (Nat.le_of_ble_eq_true rfl) ?_
      exact ⟨rfl, rfl⟩
    · cases c3
  · skip
    refine m_aload_n rfl rfl rfl ?_
    refine m_iconst rfl rfl ?_
    refine m_aload_n rfl rfl rfl ?_
    refine m_cvf rfl rfl lk_9_41 (hc) rfl (by first | decide | assumption | (simp only [cnt]; omega)) (Nat.le_of_ble_eq_true rfl) rfl rfl (Nat.le_of_ble_eq_true rfl) (Nat.le_of_ble_eq_true rfl) (Nat.le_of_ble_eq_true rfl) (Nat.le_of_ble_eq_true rfl) (Nat.le_of_ble_eq_true rfl) (fun v3 c3 => ?_) (fun E3 c3 => ?_)
    · cases c3
    · cases c3
      refine x_catch (A := []) (B := [(0, 8, 14, 15)]) (s0 := 0) (e0 := 8) (hp := 11) (ct := 13) rfl rfl (by decide) (by decide) ctL_13 (fun _ h => nomatch h) (fun q => ?_)
      refine m_astore_nv rfl rfl (Nat.le_of_ble_eq_true rfl) rfl ?_
      refine m_iconst rfl rfl ?_
      refine m_iret rfl rfl rfl (Nat.le_of_ble_eq_true rfl) (Nat.le_of_ble_eq_true rfl) ?_
      exact ⟨rfl, rfl⟩
  · skip
    refine m_aload_n rfl rfl rfl ?_
    refine m_iconst rfl rfl ?_
    refine m_aload_n rfl rfl rfl ?_
    refine m_cvf rfl rfl lk_9_41 (hc) rfl (by first | decide | assumption | (simp only [cnt]; omega)) (Nat.le_of_ble_eq_true rfl) rfl rfl (Nat.le_of_ble_eq_true rfl) (Nat.le_of_ble_eq_true rfl) (Nat.le_of_ble_eq_true rfl) (Nat.le_of_ble_eq_true rfl) (Nat.le_of_ble_eq_true rfl) (fun v3 c3 => ?_) (fun E3 c3 => ?_)
    · cases c3
    · cases c3
      refine x_catch (A := [(0, 8, 11, 13)]) (B := []) (s0 := 0) (e0 := 8) (hp := 14) (ct := 15) rfl rfl (by decide) (by decide) ctL_15 (List.forall_mem_cons.mpr ⟨⟨by decide, xIA, by decide, by decide, ctL_13⟩, fun _ h => nomatch h⟩) (fun q => ?_)
      refine m_astore_nv rfl rfl (Nat.le_of_ble_eq_true rfl) rfl ?_
      refine m_iconst rfl rfl ?_
      refine m_iret rfl rfl rfl (Nat.le_of_ble_eq_true rfl) (Nat.le_of_ble_eq_true rfl) ?_
      exact ⟨rfl, rfl⟩

set_option maxRecDepth 10000 in
theorem c_la_errorPosition {l : Launch} {G : zkG} {mem : zkM} (hl : l.stackTraces = false) {r : zkO} {f g : zkM} {c : Int} (hc : zkCt l G i_Cw_errorPosition 6 1 6 [vr 6 0] mem (zkRf r f)) (hr : (∃ v : Int, r = Sum.inl (some (vi v)) ∧ inR v ∧ c = 0 ∧ g = mset f 50 0 0 v) ∨ (r = Sum.inr zkNE ∧ c = 1 ∧ g = f)) : zkCt l G i_La_errorPosition 7 1 6 [vr 6 0, vr 50 0] mem (zkR1 (vi c) g) := by
  refine zkCt_ofH hl ok_La_errorPosition (by decide +kernel) rfl (by decide) (List.forall_mem_cons.mpr ⟨rfl, (List.forall_mem_cons.mpr ⟨rfl, fun _ h => nomatch h⟩)⟩) (Nat.le_of_ble_eq_true rfl) ?_
  rcases hr with ⟨v, rfl, hv, rfl, rfl⟩ | ⟨rfl, rfl, rfl⟩
  · skip
    refine m_aload_n rfl rfl rfl ?_
    refine m_iconst rfl rfl ?_
    refine m_aload_n rfl rfl rfl ?_
    refine m_cvf rfl rfl lk_9_45 (hc) rfl (by first | decide | assumption | (simp only [cnt]; omega)) (Nat.le_of_ble_eq_true rfl) rfl rfl (Nat.le_of_ble_eq_true rfl) (Nat.le_of_ble_eq_true rfl) (Nat.le_of_ble_eq_true rfl) (Nat.le_of_ble_eq_true rfl) (Nat.le_of_ble_eq_true rfl) (fun v3 c3 => ?_) (fun E3 c3 => ?_)
    · cases c3
      refine m_i2l rfl rfl (by omega) ?_
      refine m_last rfl rfl ?_
      refine m_goto (tgt := 14) rfl rfl rfl ?_
      refine m_iconst rfl rfl ?_
      refine m_iret rfl rfl rfl (Nat.le_of_ble_eq_true rfl) (Nat.le_of_ble_eq_true rfl) ?_
      exact ⟨rfl, rfl⟩
    · cases c3
  · skip
    refine m_aload_n rfl rfl rfl ?_
    refine m_iconst rfl rfl ?_
    refine m_aload_n rfl rfl rfl ?_
    refine m_cvf rfl rfl lk_9_45 (hc) rfl (by first | decide | assumption | (simp only [cnt]; omega)) (Nat.le_of_ble_eq_true rfl) rfl rfl (Nat.le_of_ble_eq_true rfl) (Nat.le_of_ble_eq_true rfl) (Nat.le_of_ble_eq_true rfl) (Nat.le_of_ble_eq_true rfl) (Nat.le_of_ble_eq_true rfl) (fun v3 c3 => ?_) (fun E3 c3 => ?_)
    · cases c3
    · cases c3
      refine x_catch (A := []) (B := []) (s0 := 0) (e0 := 8) (hp := 11) (ct := 48) rfl rfl (by decide) (by decide) ctL_48 (fun _ h => nomatch h) (fun q => ?_)
      refine m_astore_nv rfl rfl (Nat.le_of_ble_eq_true rfl) rfl ?_
      refine m_iconst rfl rfl ?_
      refine m_iret rfl rfl rfl (Nat.le_of_ble_eq_true rfl) (Nat.le_of_ble_eq_true rfl) ?_
      exact ⟨rfl, rfl⟩

set_option maxRecDepth 10000 in
theorem c_la_task {l : Launch} {G : zkG} {mem : zkM} (hl : l.stackTraces = false) {r : zkO} {f g : zkM} {c : Int} {a0 a1 : Int} (hc : zkCt l G i_Cw_task 7 2 12 [vr 6 0, vi a0, vi a1] mem (zkRf r f)) (hr : (∃ v : Int, r = Sum.inl (some (vi v)) ∧ inR v ∧ c = 0 ∧ g = mset f 50 0 0 v) ∨ (r = Sum.inr xIO ∧ c = 1 ∧ g = f) ∨ (r = Sum.inr xIA ∧ c = 2 ∧ g = f)) : zkCt l G i_La_task 8 2 12 [vr 6 0, vi a0, vi a1, vr 50 0] mem (zkR1 (vi c) g) := by
  refine zkCt_ofH hl ok_La_task (by decide +kernel) rfl (by decide) (List.forall_mem_cons.mpr ⟨rfl, (List.forall_mem_cons.mpr ⟨rfl, (List.forall_mem_cons.mpr ⟨rfl, (List.forall_mem_cons.mpr ⟨rfl, fun _ h => nomatch h⟩)⟩)⟩)⟩) (Nat.le_of_ble_eq_true rfl) ?_
  rcases hr with ⟨v, rfl, hv, rfl, rfl⟩ | ⟨rfl, rfl, rfl⟩ | ⟨rfl, rfl, rfl⟩
  · skip
    refine m_aload_n rfl rfl rfl ?_
    refine m_iconst rfl rfl ?_
    refine m_aload_n rfl rfl rfl ?_
    refine m_iload_n rfl rfl rfl ?_
    refine m_iload_n rfl rfl rfl ?_
    refine m_cvf rfl rfl lk_9_50 (hc) rfl (by first | decide | assumption | (simp only [cnt]; omega)) (Nat.le_of_ble_eq_true rfl) rfl rfl (Nat.le_of_ble_eq_true rfl) (Nat.le_of_ble_eq_true rfl) (Nat.le_of_ble_eq_true rfl) (Nat.le_of_ble_eq_true rfl) (Nat.le_of_ble_eq_true rfl) (fun v5 c5 => ?_) (fun E5 c5 => ?_)
    · cases c5
      refine m_i2l rfl rfl (by omega) ?_
      refine m_last rfl rfl ?_
      refine m_goto (tgt := 21) rfl rfl rfl ?_
      refine m_iconst rfl rfl ?_
      refine m_iret rfl rfl rfl (Nat.le_of_ble_eq_true rfl) (Nat.le_of_ble_eq_true rfl) ?_
      exact ⟨rfl, rfl⟩
    · cases c5
  · skip
    refine m_aload_n rfl rfl rfl ?_
    refine m_iconst rfl rfl ?_
    refine m_aload_n rfl rfl rfl ?_
    refine m_iload_n rfl rfl rfl ?_
    refine m_iload_n rfl rfl rfl ?_
    refine m_cvf rfl rfl lk_9_50 (hc) rfl (by first | decide | assumption | (simp only [cnt]; omega)) (Nat.le_of_ble_eq_true rfl) rfl rfl (Nat.le_of_ble_eq_true rfl) (Nat.le_of_ble_eq_true rfl) (Nat.le_of_ble_eq_true rfl) (Nat.le_of_ble_eq_true rfl) (Nat.le_of_ble_eq_true rfl) (fun v5 c5 => ?_) (fun E5 c5 => ?_)
    · cases c5
    · cases c5
      refine x_catch (A := []) (B := [(0, 10, 17, 13)]) (s0 := 0) (e0 := 10) (hp := 13) (ct := 23) rfl rfl (by decide) (by decide) ctL_23 (fun _ h => nomatch h) (fun q => ?_)
      refine m_astore_v rfl rfl (Nat.le_of_ble_eq_true rfl) rfl ?_
      refine m_iconst rfl rfl ?_
      refine m_iret rfl rfl rfl (Nat.le_of_ble_eq_true rfl) (Nat.le_of_ble_eq_true rfl) ?_
      exact ⟨rfl, rfl⟩
  · skip
    refine m_aload_n rfl rfl rfl ?_
    refine m_iconst rfl rfl ?_
    refine m_aload_n rfl rfl rfl ?_
    refine m_iload_n rfl rfl rfl ?_
    refine m_iload_n rfl rfl rfl ?_
    refine m_cvf rfl rfl lk_9_50 (hc) rfl (by first | decide | assumption | (simp only [cnt]; omega)) (Nat.le_of_ble_eq_true rfl) rfl rfl (Nat.le_of_ble_eq_true rfl) (Nat.le_of_ble_eq_true rfl) (Nat.le_of_ble_eq_true rfl) (Nat.le_of_ble_eq_true rfl) (Nat.le_of_ble_eq_true rfl) (fun v5 c5 => ?_) (fun E5 c5 => ?_)
    · cases c5
    · cases c5
      refine x_catch (A := [(0, 10, 13, 23)]) (B := []) (s0 := 0) (e0 := 10) (hp := 17) (ct := 13) rfl rfl (by decide) (by decide) ctL_13 (List.forall_mem_cons.mpr ⟨⟨by decide, xIO, by decide, by decide, ctL_23⟩, fun _ h => nomatch h⟩) (fun q => ?_)
      refine m_astore_v rfl rfl (Nat.le_of_ble_eq_true rfl) rfl ?_
      refine m_iconst rfl rfl ?_
      refine m_iret rfl rfl rfl (Nat.le_of_ble_eq_true rfl) (Nat.le_of_ble_eq_true rfl) ?_
      exact ⟨rfl, rfl⟩

set_option maxRecDepth 10000 in
theorem c_la_ceiling {l : Launch} {G : zkG} {mem : zkM} (hl : l.stackTraces = false) {r : zkO} {f g : zkM} {c : Int} {a0 : Int} (hc : zkCt l G i_Cw_ceiling 7 1 6 [vr 6 0, vi a0] mem (zkRf r f)) (hr : (∃ v : Int, r = Sum.inl (some (vi v)) ∧ inR v ∧ c = 0 ∧ g = mset f 50 0 0 v) ∨ (r = Sum.inr xIO ∧ c = 1 ∧ g = f)) : zkCt l G i_La_ceiling 8 1 6 [vr 6 0, vi a0, vr 50 0] mem (zkR1 (vi c) g) := by
  refine zkCt_ofH hl ok_La_ceiling (by decide +kernel) rfl (by decide) (List.forall_mem_cons.mpr ⟨rfl, (List.forall_mem_cons.mpr ⟨rfl, (List.forall_mem_cons.mpr ⟨rfl, fun _ h => nomatch h⟩)⟩)⟩) (Nat.le_of_ble_eq_true rfl) ?_
  rcases hr with ⟨v, rfl, hv, rfl, rfl⟩ | ⟨rfl, rfl, rfl⟩
  · skip
    refine m_aload_n rfl rfl rfl ?_
    refine m_iconst rfl rfl ?_
    refine m_aload_n rfl rfl rfl ?_
    refine m_iload_n rfl rfl rfl ?_
    refine m_cvf rfl rfl lk_9_53 (hc) rfl (by first | decide | assumption | (simp only [cnt]; omega)) (Nat.le_of_ble_eq_true rfl) rfl rfl (Nat.le_of_ble_eq_true rfl) (Nat.le_of_ble_eq_true rfl) (Nat.le_of_ble_eq_true rfl) (Nat.le_of_ble_eq_true rfl) (Nat.le_of_ble_eq_true rfl) (fun v4 c4 => ?_) (fun E4 c4 => ?_)
    · cases c4
      refine m_i2l rfl rfl (by omega) ?_
      refine m_last rfl rfl ?_
      refine m_goto (tgt := 15) rfl rfl rfl ?_
      refine m_iconst rfl rfl ?_
      refine m_iret rfl rfl rfl (Nat.le_of_ble_eq_true rfl) (Nat.le_of_ble_eq_true rfl) ?_
      exact ⟨rfl, rfl⟩
    · cases c4
  · skip
    refine m_aload_n rfl rfl rfl ?_
    refine m_iconst rfl rfl ?_
    refine m_aload_n rfl rfl rfl ?_
    refine m_iload_n rfl rfl rfl ?_
    refine m_cvf rfl rfl lk_9_53 (hc) rfl (by first | decide | assumption | (simp only [cnt]; omega)) (Nat.le_of_ble_eq_true rfl) rfl rfl (Nat.le_of_ble_eq_true rfl) (Nat.le_of_ble_eq_true rfl) (Nat.le_of_ble_eq_true rfl) (Nat.le_of_ble_eq_true rfl) (Nat.le_of_ble_eq_true rfl) (fun v4 c4 => ?_) (fun E4 c4 => ?_)
    · cases c4
    · cases c4
      refine x_catch (A := []) (B := []) (s0 := 0) (e0 := 9) (hp := 12) (ct := 23) rfl rfl (by decide) (by decide) ctL_23 (fun _ h => nomatch h) (fun q => ?_)
      refine m_astore_nv rfl rfl (Nat.le_of_ble_eq_true rfl) rfl ?_
      refine m_iconst rfl rfl ?_
      refine m_iret rfl rfl rfl (Nat.le_of_ble_eq_true rfl) (Nat.le_of_ble_eq_true rfl) ?_
      exact ⟨rfl, rfl⟩

set_option maxRecDepth 10000 in
theorem c_la_blocking {l : Launch} {G : zkG} {mem : zkM} (hl : l.stackTraces = false) {r : zkO} {f g : zkM} {c : Int} {a0 : Int} (hc : zkCt l G i_Cw_blocking 7 1 6 [vr 6 0, vi a0] mem (zkRf r f)) (hr : (∃ v : Int, r = Sum.inl (some (vi v)) ∧ inR v ∧ c = 0 ∧ g = mset f 50 0 0 v) ∨ (r = Sum.inr xIO ∧ c = 1 ∧ g = f)) : zkCt l G i_La_blocking 8 1 6 [vr 6 0, vi a0, vr 50 0] mem (zkR1 (vi c) g) := by
  refine zkCt_ofH hl ok_La_blocking (by decide +kernel) rfl (by decide) (List.forall_mem_cons.mpr ⟨rfl, (List.forall_mem_cons.mpr ⟨rfl, (List.forall_mem_cons.mpr ⟨rfl, fun _ h => nomatch h⟩)⟩)⟩) (Nat.le_of_ble_eq_true rfl) ?_
  rcases hr with ⟨v, rfl, hv, rfl, rfl⟩ | ⟨rfl, rfl, rfl⟩
  · skip
    refine m_aload_n rfl rfl rfl ?_
    refine m_iconst rfl rfl ?_
    refine m_aload_n rfl rfl rfl ?_
    refine m_iload_n rfl rfl rfl ?_
    refine m_cvf rfl rfl lk_9_56 (hc) rfl (by first | decide | assumption | (simp only [cnt]; omega)) (Nat.le_of_ble_eq_true rfl) rfl rfl (Nat.le_of_ble_eq_true rfl) (Nat.le_of_ble_eq_true rfl) (Nat.le_of_ble_eq_true rfl) (Nat.le_of_ble_eq_true rfl) (Nat.le_of_ble_eq_true rfl) (fun v4 c4 => ?_) (fun E4 c4 => ?_)
    · cases c4
      refine m_i2l rfl rfl (by omega) ?_
      refine m_last rfl rfl ?_
      refine m_goto (tgt := 15) rfl rfl rfl ?_
      refine m_iconst rfl rfl ?_
      refine m_iret rfl rfl rfl (Nat.le_of_ble_eq_true rfl) (Nat.le_of_ble_eq_true rfl) ?_
      exact ⟨rfl, rfl⟩
    · cases c4
  · skip
    refine m_aload_n rfl rfl rfl ?_
    refine m_iconst rfl rfl ?_
    refine m_aload_n rfl rfl rfl ?_
    refine m_iload_n rfl rfl rfl ?_
    refine m_cvf rfl rfl lk_9_56 (hc) rfl (by first | decide | assumption | (simp only [cnt]; omega)) (Nat.le_of_ble_eq_true rfl) rfl rfl (Nat.le_of_ble_eq_true rfl) (Nat.le_of_ble_eq_true rfl) (Nat.le_of_ble_eq_true rfl) (Nat.le_of_ble_eq_true rfl) (Nat.le_of_ble_eq_true rfl) (fun v4 c4 => ?_) (fun E4 c4 => ?_)
    · cases c4
    · cases c4
      refine x_catch (A := []) (B := []) (s0 := 0) (e0 := 9) (hp := 12) (ct := 23) rfl rfl (by decide) (by decide) ctL_23 (fun _ h => nomatch h) (fun q => ?_)
      refine m_astore_nv rfl rfl (Nat.le_of_ble_eq_true rfl) rfl ?_
      refine m_iconst rfl rfl ?_
      refine m_iret rfl rfl rfl (Nat.le_of_ble_eq_true rfl) (Nat.le_of_ble_eq_true rfl) ?_
      exact ⟨rfl, rfl⟩

set_option maxRecDepth 10000 in
theorem c_la_bound {l : Launch} {G : zkG} {mem : zkM} (hl : l.stackTraces = false) {r : zkO} {f g : zkM} {c : Int} {a0 : Int} (hc : zkCt l G i_Cw_bound 8 3 18 [vr 6 0, vi a0] mem (zkRf r f)) (hr : (∃ v : Int, r = Sum.inl (some (vi v)) ∧ inR v ∧ c = 0 ∧ g = mset f 50 0 0 v) ∨ (r = Sum.inr xIO ∧ c = 1 ∧ g = f) ∨ (r = Sum.inr xIS ∧ c = 2 ∧ g = f) ∨ (r = Sum.inr zkNE ∧ c = 3 ∧ g = f)) : zkCt l G i_La_bound 9 3 18 [vr 6 0, vi a0, vr 50 0] mem (zkR1 (vi c) g) := by
  refine zkCt_ofH hl ok_La_bound (by decide +kernel) rfl (by decide) (List.forall_mem_cons.mpr ⟨rfl, (List.forall_mem_cons.mpr ⟨rfl, (List.forall_mem_cons.mpr ⟨rfl, fun _ h => nomatch h⟩)⟩)⟩) (Nat.le_of_ble_eq_true rfl) ?_
  rcases hr with ⟨v, rfl, hv, rfl, rfl⟩ | ⟨rfl, rfl, rfl⟩ | ⟨rfl, rfl, rfl⟩ | ⟨rfl, rfl, rfl⟩
  · skip
    refine m_aload_n rfl rfl rfl ?_
    refine m_iconst rfl rfl ?_
    refine m_aload_n rfl rfl rfl ?_
    refine m_iload_n rfl rfl rfl ?_
    refine m_cvf rfl rfl lk_9_59 (hc) rfl (by first | decide | assumption | (simp only [cnt]; omega)) (Nat.le_of_ble_eq_true rfl) rfl rfl (Nat.le_of_ble_eq_true rfl) (Nat.le_of_ble_eq_true rfl) (Nat.le_of_ble_eq_true rfl) (Nat.le_of_ble_eq_true rfl) (Nat.le_of_ble_eq_true rfl) (fun v4 c4 => ?_) (fun E4 c4 => ?_)
    · cases c4
      refine m_i2l rfl rfl (by omega) ?_
      refine m_last rfl rfl ?_
      refine m_goto (tgt := 21) rfl rfl rfl ?_
      refine m_iconst rfl rfl ?_
      refine m_iret rfl rfl rfl (Nat.le_of_ble_eq_true rfl) (Nat.le_of_ble_eq_true rfl) ?_
      exact ⟨rfl, rfl⟩
    · cases c4
  · skip
    refine m_aload_n rfl rfl rfl ?_
    refine m_iconst rfl rfl ?_
    refine m_aload_n rfl rfl rfl ?_
    refine m_iload_n rfl rfl rfl ?_
    refine m_cvf rfl rfl lk_9_59 (hc) rfl (by first | decide | assumption | (simp only [cnt]; omega)) (Nat.le_of_ble_eq_true rfl) rfl rfl (Nat.le_of_ble_eq_true rfl) (Nat.le_of_ble_eq_true rfl) (Nat.le_of_ble_eq_true rfl) (Nat.le_of_ble_eq_true rfl) (Nat.le_of_ble_eq_true rfl) (fun v4 c4 => ?_) (fun E4 c4 => ?_)
    · cases c4
    · cases c4
      refine x_catch (A := []) (B := [(0, 9, 15, 15), (0, 9, 18, 48)]) (s0 := 0) (e0 := 9) (hp := 12) (ct := 23) rfl rfl (by decide) (by decide) ctL_23 (fun _ h => nomatch h) (fun q => ?_)
      refine m_astore_nv rfl rfl (Nat.le_of_ble_eq_true rfl) rfl ?_
      refine m_iconst rfl rfl ?_
      refine m_iret rfl rfl rfl (Nat.le_of_ble_eq_true rfl) (Nat.le_of_ble_eq_true rfl) ?_
      exact ⟨rfl, rfl⟩
  · skip
    refine m_aload_n rfl rfl rfl ?_
    refine m_iconst rfl rfl ?_
    refine m_aload_n rfl rfl rfl ?_
    refine m_iload_n rfl rfl rfl ?_
    refine m_cvf rfl rfl lk_9_59 (hc) rfl (by first | decide | assumption | (simp only [cnt]; omega)) (Nat.le_of_ble_eq_true rfl) rfl rfl (Nat.le_of_ble_eq_true rfl) (Nat.le_of_ble_eq_true rfl) (Nat.le_of_ble_eq_true rfl) (Nat.le_of_ble_eq_true rfl) (Nat.le_of_ble_eq_true rfl) (fun v4 c4 => ?_) (fun E4 c4 => ?_)
    · cases c4
    · cases c4
      refine x_catch (A := [(0, 9, 12, 23)]) (B := [(0, 9, 18, 48)]) (s0 := 0) (e0 := 9) (hp := 15) (ct := 15) rfl rfl (by decide) (by decide) ctL_15 (List.forall_mem_cons.mpr ⟨⟨by decide, xIO, by decide, by decide, ctL_23⟩, fun _ h => nomatch h⟩) (fun q => ?_)
      refine m_astore_nv rfl rfl (Nat.le_of_ble_eq_true rfl) rfl ?_
      refine m_iconst rfl rfl ?_
      refine m_iret rfl rfl rfl (Nat.le_of_ble_eq_true rfl) (Nat.le_of_ble_eq_true rfl) ?_
      exact ⟨rfl, rfl⟩
  · skip
    refine m_aload_n rfl rfl rfl ?_
    refine m_iconst rfl rfl ?_
    refine m_aload_n rfl rfl rfl ?_
    refine m_iload_n rfl rfl rfl ?_
    refine m_cvf rfl rfl lk_9_59 (hc) rfl (by first | decide | assumption | (simp only [cnt]; omega)) (Nat.le_of_ble_eq_true rfl) rfl rfl (Nat.le_of_ble_eq_true rfl) (Nat.le_of_ble_eq_true rfl) (Nat.le_of_ble_eq_true rfl) (Nat.le_of_ble_eq_true rfl) (Nat.le_of_ble_eq_true rfl) (fun v4 c4 => ?_) (fun E4 c4 => ?_)
    · cases c4
    · cases c4
      refine x_catch (A := [(0, 9, 12, 23), (0, 9, 15, 15)]) (B := []) (s0 := 0) (e0 := 9) (hp := 18) (ct := 48) rfl rfl (by decide) (by decide) ctL_48 (List.forall_mem_cons.mpr ⟨⟨by decide, xIO, by decide, by decide, ctL_23⟩, (List.forall_mem_cons.mpr ⟨⟨by decide, xIS, by decide, by decide, ctL_15⟩, fun _ h => nomatch h⟩)⟩) (fun q => ?_)
      refine m_astore_nv rfl rfl (Nat.le_of_ble_eq_true rfl) rfl ?_
      refine m_iconst rfl rfl ?_
      refine m_iret rfl rfl rfl (Nat.le_of_ble_eq_true rfl) (Nat.le_of_ble_eq_true rfl) ?_
      exact ⟨rfl, rfl⟩

set_option maxRecDepth 10000 in
theorem c_la_witness {l : Launch} {G : zkG} {mem : zkM} (hl : l.stackTraces = false) {r : zkO} {f g : zkM} {c : Int} {a0 : Int} (hc : zkCt l G i_Cw_witness 8 3 18 [vr 6 0, vi a0] mem (zkRf r f)) (hr : (∃ v : Int, r = Sum.inl (some (vi v)) ∧ inR v ∧ c = 0 ∧ g = mset f 50 0 0 v) ∨ (r = Sum.inr xIO ∧ c = 1 ∧ g = f) ∨ (r = Sum.inr xIS ∧ c = 2 ∧ g = f) ∨ (r = Sum.inr zkNE ∧ c = 3 ∧ g = f)) : zkCt l G i_La_witness 9 3 18 [vr 6 0, vi a0, vr 50 0] mem (zkR1 (vi c) g) := by
  refine zkCt_ofH hl ok_La_witness (by decide +kernel) rfl (by decide) (List.forall_mem_cons.mpr ⟨rfl, (List.forall_mem_cons.mpr ⟨rfl, (List.forall_mem_cons.mpr ⟨rfl, fun _ h => nomatch h⟩)⟩)⟩) (Nat.le_of_ble_eq_true rfl) ?_
  rcases hr with ⟨v, rfl, hv, rfl, rfl⟩ | ⟨rfl, rfl, rfl⟩ | ⟨rfl, rfl, rfl⟩ | ⟨rfl, rfl, rfl⟩
  · skip
    refine m_aload_n rfl rfl rfl ?_
    refine m_iconst rfl rfl ?_
    refine m_aload_n rfl rfl rfl ?_
    refine m_iload_n rfl rfl rfl ?_
    refine m_cvf rfl rfl lk_9_62 (hc) rfl (by first | decide | assumption | (simp only [cnt]; omega)) (Nat.le_of_ble_eq_true rfl) rfl rfl (Nat.le_of_ble_eq_true rfl) (Nat.le_of_ble_eq_true rfl) (Nat.le_of_ble_eq_true rfl) (Nat.le_of_ble_eq_true rfl) (Nat.le_of_ble_eq_true rfl) (fun v4 c4 => ?_) (fun E4 c4 => ?_)
    · cases c4
      refine m_i2l rfl rfl (by omega) ?_
      refine m_last rfl rfl ?_
      refine m_goto (tgt := 21) rfl rfl rfl ?_
      refine m_iconst rfl rfl ?_
      refine m_iret rfl rfl rfl (Nat.le_of_ble_eq_true rfl) (Nat.le_of_ble_eq_true rfl) ?_
      exact ⟨rfl, rfl⟩
    · cases c4
  · skip
    refine m_aload_n rfl rfl rfl ?_
    refine m_iconst rfl rfl ?_
    refine m_aload_n rfl rfl rfl ?_
    refine m_iload_n rfl rfl rfl ?_
    refine m_cvf rfl rfl lk_9_62 (hc) rfl (by first | decide | assumption | (simp only [cnt]; omega)) (Nat.le_of_ble_eq_true rfl) rfl rfl (Nat.le_of_ble_eq_true rfl) (Nat.le_of_ble_eq_true rfl) (Nat.le_of_ble_eq_true rfl) (Nat.le_of_ble_eq_true rfl) (Nat.le_of_ble_eq_true rfl) (fun v4 c4 => ?_) (fun E4 c4 => ?_)
    · cases c4
    · cases c4
      refine x_catch (A := []) (B := [(0, 9, 15, 15), (0, 9, 18, 48)]) (s0 := 0) (e0 := 9) (hp := 12) (ct := 23) rfl rfl (by decide) (by decide) ctL_23 (fun _ h => nomatch h) (fun q => ?_)
      refine m_astore_nv rfl rfl (Nat.le_of_ble_eq_true rfl) rfl ?_
      refine m_iconst rfl rfl ?_
      refine m_iret rfl rfl rfl (Nat.le_of_ble_eq_true rfl) (Nat.le_of_ble_eq_true rfl) ?_
      exact ⟨rfl, rfl⟩
  · skip
    refine m_aload_n rfl rfl rfl ?_
    refine m_iconst rfl rfl ?_
    refine m_aload_n rfl rfl rfl ?_
    refine m_iload_n rfl rfl rfl ?_
    refine m_cvf rfl rfl lk_9_62 (hc) rfl (by first | decide | assumption | (simp only [cnt]; omega)) (Nat.le_of_ble_eq_true rfl) rfl rfl (Nat.le_of_ble_eq_true rfl) (Nat.le_of_ble_eq_true rfl) (Nat.le_of_ble_eq_true rfl) (Nat.le_of_ble_eq_true rfl) (Nat.le_of_ble_eq_true rfl) (fun v4 c4 => ?_) (fun E4 c4 => ?_)
    · cases c4
    · cases c4
      refine x_catch (A := [(0, 9, 12, 23)]) (B := [(0, 9, 18, 48)]) (s0 := 0) (e0 := 9) (hp := 15) (ct := 15) rfl rfl (by decide) (by decide) ctL_15 (List.forall_mem_cons.mpr ⟨⟨by decide, xIO, by decide, by decide, ctL_23⟩, fun _ h => nomatch h⟩) (fun q => ?_)
      refine m_astore_nv rfl rfl (Nat.le_of_ble_eq_true rfl) rfl ?_
      refine m_iconst rfl rfl ?_
      refine m_iret rfl rfl rfl (Nat.le_of_ble_eq_true rfl) (Nat.le_of_ble_eq_true rfl) ?_
      exact ⟨rfl, rfl⟩
  · skip
    refine m_aload_n rfl rfl rfl ?_
    refine m_iconst rfl rfl ?_
    refine m_aload_n rfl rfl rfl ?_
    refine m_iload_n rfl rfl rfl ?_
    refine m_cvf rfl rfl lk_9_62 (hc) rfl (by first | decide | assumption | (simp only [cnt]; omega)) (Nat.le_of_ble_eq_true rfl) rfl rfl (Nat.le_of_ble_eq_true rfl) (Nat.le_of_ble_eq_true rfl) (Nat.le_of_ble_eq_true rfl) (Nat.le_of_ble_eq_true rfl) (Nat.le_of_ble_eq_true rfl) (fun v4 c4 => ?_) (fun E4 c4 => ?_)
    · cases c4
    · cases c4
      refine x_catch (A := [(0, 9, 12, 23), (0, 9, 15, 15)]) (B := []) (s0 := 0) (e0 := 9) (hp := 18) (ct := 48) rfl rfl (by decide) (by decide) ctL_48 (List.forall_mem_cons.mpr ⟨⟨by decide, xIO, by decide, by decide, ctL_23⟩, (List.forall_mem_cons.mpr ⟨⟨by decide, xIS, by decide, by decide, ctL_15⟩, fun _ h => nomatch h⟩)⟩) (fun q => ?_)
      refine m_astore_nv rfl rfl (Nat.le_of_ble_eq_true rfl) rfl ?_
      refine m_iconst rfl rfl ?_
      refine m_iret rfl rfl rfl (Nat.le_of_ble_eq_true rfl) (Nat.le_of_ble_eq_true rfl) ?_
      exact ⟨rfl, rfl⟩

set_option maxRecDepth 10000 in
theorem c_la_run {l : Launch} {G : zkG} {mem : zkM} (hl : l.stackTraces = false) {r : zkO} {f g : zkM} {c : Int} {a0 : Int} (hc : zkCt l G i_Cw_run 6 1 6 [vr 6 0, vi a0] mem (zkRf r f)) (hr : (∃ v : Int, r = Sum.inl (some (vi v)) ∧ inR v ∧ c = 0 ∧ g = mset f 50 0 0 v) ∨ (r = Sum.inr xIA ∧ c = 1 ∧ g = f) ∨ (r = Sum.inr xIS ∧ c = 2 ∧ g = f)) : zkCt l G i_La_run 7 1 6 [vr 6 0, vi a0, vr 50 0] mem (zkR1 (vi c) g) := by
  refine zkCt_ofH hl ok_La_run (by decide +kernel) rfl (by decide) (List.forall_mem_cons.mpr ⟨rfl, (List.forall_mem_cons.mpr ⟨rfl, (List.forall_mem_cons.mpr ⟨rfl, fun _ h => nomatch h⟩)⟩)⟩) (Nat.le_of_ble_eq_true rfl) ?_
  rcases hr with ⟨v, rfl, hv, rfl, rfl⟩ | ⟨rfl, rfl, rfl⟩ | ⟨rfl, rfl, rfl⟩
  · skip
    refine m_aload_n rfl rfl rfl ?_
    refine m_iconst rfl rfl ?_
    refine m_aload_n rfl rfl rfl ?_
    refine m_iload_n rfl rfl rfl ?_
    refine m_cvf rfl rfl lk_9_65 (hc) rfl (by first | decide | assumption | (simp only [cnt]; omega)) (Nat.le_of_ble_eq_true rfl) rfl rfl (Nat.le_of_ble_eq_true rfl) (Nat.le_of_ble_eq_true rfl) (Nat.le_of_ble_eq_true rfl) (Nat.le_of_ble_eq_true rfl) (Nat.le_of_ble_eq_true rfl) (fun v4 c4 => ?_) (fun E4 c4 => ?_)
    · cases c4
      refine m_i2l rfl rfl (by omega) ?_
      refine m_last rfl rfl ?_
      refine m_goto (tgt := 18) rfl rfl rfl ?_
      refine m_iconst rfl rfl ?_
      refine m_iret rfl rfl rfl (Nat.le_of_ble_eq_true rfl) (Nat.le_of_ble_eq_true rfl) ?_
      exact ⟨rfl, rfl⟩
    · cases c4
  · skip
    refine m_aload_n rfl rfl rfl ?_
    refine m_iconst rfl rfl ?_
    refine m_aload_n rfl rfl rfl ?_
    refine m_iload_n rfl rfl rfl ?_
    refine m_cvf rfl rfl lk_9_65 (hc) rfl (by first | decide | assumption | (simp only [cnt]; omega)) (Nat.le_of_ble_eq_true rfl) rfl rfl (Nat.le_of_ble_eq_true rfl) (Nat.le_of_ble_eq_true rfl) (Nat.le_of_ble_eq_true rfl) (Nat.le_of_ble_eq_true rfl) (Nat.le_of_ble_eq_true rfl) (fun v4 c4 => ?_) (fun E4 c4 => ?_)
    · cases c4
    · cases c4
      refine x_catch (A := []) (B := [(0, 9, 15, 15)]) (s0 := 0) (e0 := 9) (hp := 12) (ct := 13) rfl rfl (by decide) (by decide) ctL_13 (fun _ h => nomatch h) (fun q => ?_)
      refine m_astore_nv rfl rfl (Nat.le_of_ble_eq_true rfl) rfl ?_
      refine m_iconst rfl rfl ?_
      refine m_iret rfl rfl rfl (Nat.le_of_ble_eq_true rfl) (Nat.le_of_ble_eq_true rfl) ?_
      exact ⟨rfl, rfl⟩
  · skip
    refine m_aload_n rfl rfl rfl ?_
    refine m_iconst rfl rfl ?_
    refine m_aload_n rfl rfl rfl ?_
    refine m_iload_n rfl rfl rfl ?_
    refine m_cvf rfl rfl lk_9_65 (hc) rfl (by first | decide | assumption | (simp only [cnt]; omega)) (Nat.le_of_ble_eq_true rfl) rfl rfl (Nat.le_of_ble_eq_true rfl) (Nat.le_of_ble_eq_true rfl) (Nat.le_of_ble_eq_true rfl) (Nat.le_of_ble_eq_true rfl) (Nat.le_of_ble_eq_true rfl) (fun v4 c4 => ?_) (fun E4 c4 => ?_)
    · cases c4
    · cases c4
      refine x_catch (A := [(0, 9, 12, 13)]) (B := []) (s0 := 0) (e0 := 9) (hp := 15) (ct := 15) rfl rfl (by decide) (by decide) ctL_15 (List.forall_mem_cons.mpr ⟨⟨by decide, xIA, by decide, by decide, ctL_13⟩, fun _ h => nomatch h⟩) (fun q => ?_)
      refine m_astore_nv rfl rfl (Nat.le_of_ble_eq_true rfl) rfl ?_
      refine m_iconst rfl rfl ?_
      refine m_iret rfl rfl rfl (Nat.le_of_ble_eq_true rfl) (Nat.le_of_ble_eq_true rfl) ?_
      exact ⟨rfl, rfl⟩

set_option maxRecDepth 10000 in
theorem c_la_ranAt {l : Launch} {G : zkG} {mem : zkM} (hl : l.stackTraces = false) {r : zkO} {f g : zkM} {c : Int} {a0 : Int} (hc : zkCt l G i_Cw_ranAt 6 1 6 [vr 6 0, vi a0] mem (zkRf r f)) (hr : (∃ v : Int, r = Sum.inl (some (vi v)) ∧ inR v ∧ c = 0 ∧ g = mset f 50 0 0 v) ∨ (r = Sum.inr xIO ∧ c = 1 ∧ g = f)) : zkCt l G i_La_ranAt 7 1 6 [vr 6 0, vi a0, vr 50 0] mem (zkR1 (vi c) g) := by
  refine zkCt_ofH hl ok_La_ranAt (by decide +kernel) rfl (by decide) (List.forall_mem_cons.mpr ⟨rfl, (List.forall_mem_cons.mpr ⟨rfl, (List.forall_mem_cons.mpr ⟨rfl, fun _ h => nomatch h⟩)⟩)⟩) (Nat.le_of_ble_eq_true rfl) ?_
  rcases hr with ⟨v, rfl, hv, rfl, rfl⟩ | ⟨rfl, rfl, rfl⟩
  · skip
    refine m_aload_n rfl rfl rfl ?_
    refine m_iconst rfl rfl ?_
    refine m_aload_n rfl rfl rfl ?_
    refine m_iload_n rfl rfl rfl ?_
    refine m_cvf rfl rfl lk_9_68 (hc) rfl (by first | decide | assumption | (simp only [cnt]; omega)) (Nat.le_of_ble_eq_true rfl) rfl rfl (Nat.le_of_ble_eq_true rfl) (Nat.le_of_ble_eq_true rfl) (Nat.le_of_ble_eq_true rfl) (Nat.le_of_ble_eq_true rfl) (Nat.le_of_ble_eq_true rfl) (fun v4 c4 => ?_) (fun E4 c4 => ?_)
    · cases c4
      refine m_i2l rfl rfl (by omega) ?_
      refine m_last rfl rfl ?_
      refine m_goto (tgt := 15) rfl rfl rfl ?_
      refine m_iconst rfl rfl ?_
      refine m_iret rfl rfl rfl (Nat.le_of_ble_eq_true rfl) (Nat.le_of_ble_eq_true rfl) ?_
      exact ⟨rfl, rfl⟩
    · cases c4
  · skip
    refine m_aload_n rfl rfl rfl ?_
    refine m_iconst rfl rfl ?_
    refine m_aload_n rfl rfl rfl ?_
    refine m_iload_n rfl rfl rfl ?_
    refine m_cvf rfl rfl lk_9_68 (hc) rfl (by first | decide | assumption | (simp only [cnt]; omega)) (Nat.le_of_ble_eq_true rfl) rfl rfl (Nat.le_of_ble_eq_true rfl) (Nat.le_of_ble_eq_true rfl) (Nat.le_of_ble_eq_true rfl) (Nat.le_of_ble_eq_true rfl) (Nat.le_of_ble_eq_true rfl) (fun v4 c4 => ?_) (fun E4 c4 => ?_)
    · cases c4
    · cases c4
      refine x_catch (A := []) (B := []) (s0 := 0) (e0 := 9) (hp := 12) (ct := 23) rfl rfl (by decide) (by decide) ctL_23 (fun _ h => nomatch h) (fun q => ?_)
      refine m_astore_nv rfl rfl (Nat.le_of_ble_eq_true rfl) rfl ?_
      refine m_iconst rfl rfl ?_
      refine m_iret rfl rfl rfl (Nat.le_of_ble_eq_true rfl) (Nat.le_of_ble_eq_true rfl) ?_
      exact ⟨rfl, rfl⟩

set_option maxRecDepth 10000 in
theorem c_la_pending {l : Launch} {G : zkG} {mem : zkM} (hl : l.stackTraces = false) {r : zkO} {f g : zkM} {c : Int} {a0 : Int} (hc : zkCt l G i_Cw_pending 7 1 6 [vr 6 0, vi a0] mem (zkRf r f)) (hr : (∃ v : Int, r = Sum.inl (some (vi v)) ∧ inR v ∧ c = 0 ∧ g = mset f 50 0 0 v) ∨ (r = Sum.inr xIO ∧ c = 1 ∧ g = f)) : zkCt l G i_La_pending 8 1 6 [vr 6 0, vi a0, vr 50 0] mem (zkR1 (vi c) g) := by
  refine zkCt_ofH hl ok_La_pending (by decide +kernel) rfl (by decide) (List.forall_mem_cons.mpr ⟨rfl, (List.forall_mem_cons.mpr ⟨rfl, (List.forall_mem_cons.mpr ⟨rfl, fun _ h => nomatch h⟩)⟩)⟩) (Nat.le_of_ble_eq_true rfl) ?_
  rcases hr with ⟨v, rfl, hv, rfl, rfl⟩ | ⟨rfl, rfl, rfl⟩
  · skip
    refine m_aload_n rfl rfl rfl ?_
    refine m_iconst rfl rfl ?_
    refine m_aload_n rfl rfl rfl ?_
    refine m_iload_n rfl rfl rfl ?_
    refine m_cvf rfl rfl lk_9_71 (hc) rfl (by first | decide | assumption | (simp only [cnt]; omega)) (Nat.le_of_ble_eq_true rfl) rfl rfl (Nat.le_of_ble_eq_true rfl) (Nat.le_of_ble_eq_true rfl) (Nat.le_of_ble_eq_true rfl) (Nat.le_of_ble_eq_true rfl) (Nat.le_of_ble_eq_true rfl) (fun v4 c4 => ?_) (fun E4 c4 => ?_)
    · cases c4
      refine m_i2l rfl rfl (by omega) ?_
      refine m_last rfl rfl ?_
      refine m_goto (tgt := 15) rfl rfl rfl ?_
      refine m_iconst rfl rfl ?_
      refine m_iret rfl rfl rfl (Nat.le_of_ble_eq_true rfl) (Nat.le_of_ble_eq_true rfl) ?_
      exact ⟨rfl, rfl⟩
    · cases c4
  · skip
    refine m_aload_n rfl rfl rfl ?_
    refine m_iconst rfl rfl ?_
    refine m_aload_n rfl rfl rfl ?_
    refine m_iload_n rfl rfl rfl ?_
    refine m_cvf rfl rfl lk_9_71 (hc) rfl (by first | decide | assumption | (simp only [cnt]; omega)) (Nat.le_of_ble_eq_true rfl) rfl rfl (Nat.le_of_ble_eq_true rfl) (Nat.le_of_ble_eq_true rfl) (Nat.le_of_ble_eq_true rfl) (Nat.le_of_ble_eq_true rfl) (Nat.le_of_ble_eq_true rfl) (fun v4 c4 => ?_) (fun E4 c4 => ?_)
    · cases c4
    · cases c4
      refine x_catch (A := []) (B := []) (s0 := 0) (e0 := 9) (hp := 12) (ct := 23) rfl rfl (by decide) (by decide) ctL_23 (fun _ h => nomatch h) (fun q => ?_)
      refine m_astore_nv rfl rfl (Nat.le_of_ble_eq_true rfl) rfl ?_
      refine m_iconst rfl rfl ?_
      refine m_iret rfl rfl rfl (Nat.le_of_ble_eq_true rfl) (Nat.le_of_ble_eq_true rfl) ?_
      exact ⟨rfl, rfl⟩

set_option maxRecDepth 10000 in
theorem c_la_activePriority {l : Launch} {G : zkG} {mem : zkM} (hl : l.stackTraces = false) {r : zkO} {f g : zkM} {c : Int} {a0 : Int} (hc : zkCt l G i_Cw_activePriority 7 2 12 [vr 6 0, vi a0] mem (zkRf r f)) (hr : (∃ v : Int, r = Sum.inl (some (vi v)) ∧ inR v ∧ c = 0 ∧ g = mset f 50 0 0 v) ∨ (r = Sum.inr xIO ∧ c = 1 ∧ g = f) ∨ (r = Sum.inr zkNE ∧ c = 2 ∧ g = f)) : zkCt l G i_La_activePriority 8 2 12 [vr 6 0, vi a0, vr 50 0] mem (zkR1 (vi c) g) := by
  refine zkCt_ofH hl ok_La_activePriority (by decide +kernel) rfl (by decide) (List.forall_mem_cons.mpr ⟨rfl, (List.forall_mem_cons.mpr ⟨rfl, (List.forall_mem_cons.mpr ⟨rfl, fun _ h => nomatch h⟩)⟩)⟩) (Nat.le_of_ble_eq_true rfl) ?_
  rcases hr with ⟨v, rfl, hv, rfl, rfl⟩ | ⟨rfl, rfl, rfl⟩ | ⟨rfl, rfl, rfl⟩
  · skip
    refine m_aload_n rfl rfl rfl ?_
    refine m_iconst rfl rfl ?_
    refine m_aload_n rfl rfl rfl ?_
    refine m_iload_n rfl rfl rfl ?_
    refine m_cvf rfl rfl lk_9_74 (hc) rfl (by first | decide | assumption | (simp only [cnt]; omega)) (Nat.le_of_ble_eq_true rfl) rfl rfl (Nat.le_of_ble_eq_true rfl) (Nat.le_of_ble_eq_true rfl) (Nat.le_of_ble_eq_true rfl) (Nat.le_of_ble_eq_true rfl) (Nat.le_of_ble_eq_true rfl) (fun v4 c4 => ?_) (fun E4 c4 => ?_)
    · cases c4
      refine m_i2l rfl rfl (by omega) ?_
      refine m_last rfl rfl ?_
      refine m_goto (tgt := 18) rfl rfl rfl ?_
      refine m_iconst rfl rfl ?_
      refine m_iret rfl rfl rfl (Nat.le_of_ble_eq_true rfl) (Nat.le_of_ble_eq_true rfl) ?_
      exact ⟨rfl, rfl⟩
    · cases c4
  · skip
    refine m_aload_n rfl rfl rfl ?_
    refine m_iconst rfl rfl ?_
    refine m_aload_n rfl rfl rfl ?_
    refine m_iload_n rfl rfl rfl ?_
    refine m_cvf rfl rfl lk_9_74 (hc) rfl (by first | decide | assumption | (simp only [cnt]; omega)) (Nat.le_of_ble_eq_true rfl) rfl rfl (Nat.le_of_ble_eq_true rfl) (Nat.le_of_ble_eq_true rfl) (Nat.le_of_ble_eq_true rfl) (Nat.le_of_ble_eq_true rfl) (Nat.le_of_ble_eq_true rfl) (fun v4 c4 => ?_) (fun E4 c4 => ?_)
    · cases c4
    · cases c4
      refine x_catch (A := []) (B := [(0, 9, 15, 48)]) (s0 := 0) (e0 := 9) (hp := 12) (ct := 23) rfl rfl (by decide) (by decide) ctL_23 (fun _ h => nomatch h) (fun q => ?_)
      refine m_astore_nv rfl rfl (Nat.le_of_ble_eq_true rfl) rfl ?_
      refine m_iconst rfl rfl ?_
      refine m_iret rfl rfl rfl (Nat.le_of_ble_eq_true rfl) (Nat.le_of_ble_eq_true rfl) ?_
      exact ⟨rfl, rfl⟩
  · skip
    refine m_aload_n rfl rfl rfl ?_
    refine m_iconst rfl rfl ?_
    refine m_aload_n rfl rfl rfl ?_
    refine m_iload_n rfl rfl rfl ?_
    refine m_cvf rfl rfl lk_9_74 (hc) rfl (by first | decide | assumption | (simp only [cnt]; omega)) (Nat.le_of_ble_eq_true rfl) rfl rfl (Nat.le_of_ble_eq_true rfl) (Nat.le_of_ble_eq_true rfl) (Nat.le_of_ble_eq_true rfl) (Nat.le_of_ble_eq_true rfl) (Nat.le_of_ble_eq_true rfl) (fun v4 c4 => ?_) (fun E4 c4 => ?_)
    · cases c4
    · cases c4
      refine x_catch (A := [(0, 9, 12, 23)]) (B := []) (s0 := 0) (e0 := 9) (hp := 15) (ct := 48) rfl rfl (by decide) (by decide) ctL_48 (List.forall_mem_cons.mpr ⟨⟨by decide, xIO, by decide, by decide, ctL_23⟩, fun _ h => nomatch h⟩) (fun q => ?_)
      refine m_astore_nv rfl rfl (Nat.le_of_ble_eq_true rfl) rfl ?_
      refine m_iconst rfl rfl ?_
      refine m_iret rfl rfl rfl (Nat.le_of_ble_eq_true rfl) (Nat.le_of_ble_eq_true rfl) ?_
      exact ⟨rfl, rfl⟩

set_option maxRecDepth 10000 in
theorem c_la_holder {l : Launch} {G : zkG} {mem : zkM} (hl : l.stackTraces = false) {r : zkO} {f g : zkM} {c : Int} {a0 : Int} (hc : zkCt l G i_Cw_holder 7 1 6 [vr 6 0, vi a0] mem (zkRf r f)) (hr : (∃ v : Int, r = Sum.inl (some (vi v)) ∧ inR v ∧ c = 0 ∧ g = mset f 50 0 0 v) ∨ (r = Sum.inr xIO ∧ c = 1 ∧ g = f)) : zkCt l G i_La_holder 8 1 6 [vr 6 0, vi a0, vr 50 0] mem (zkR1 (vi c) g) := by
  refine zkCt_ofH hl ok_La_holder (by decide +kernel) rfl (by decide) (List.forall_mem_cons.mpr ⟨rfl, (List.forall_mem_cons.mpr ⟨rfl, (List.forall_mem_cons.mpr ⟨rfl, fun _ h => nomatch h⟩)⟩)⟩) (Nat.le_of_ble_eq_true rfl) ?_
  rcases hr with ⟨v, rfl, hv, rfl, rfl⟩ | ⟨rfl, rfl, rfl⟩
  · skip
    refine m_aload_n rfl rfl rfl ?_
    refine m_iconst rfl rfl ?_
    refine m_aload_n rfl rfl rfl ?_
    refine m_iload_n rfl rfl rfl ?_
    refine m_cvf rfl rfl lk_9_77 (hc) rfl (by first | decide | assumption | (simp only [cnt]; omega)) (Nat.le_of_ble_eq_true rfl) rfl rfl (Nat.le_of_ble_eq_true rfl) (Nat.le_of_ble_eq_true rfl) (Nat.le_of_ble_eq_true rfl) (Nat.le_of_ble_eq_true rfl) (Nat.le_of_ble_eq_true rfl) (fun v4 c4 => ?_) (fun E4 c4 => ?_)
    · cases c4
      refine m_i2l rfl rfl (by omega) ?_
      refine m_last rfl rfl ?_
      refine m_goto (tgt := 15) rfl rfl rfl ?_
      refine m_iconst rfl rfl ?_
      refine m_iret rfl rfl rfl (Nat.le_of_ble_eq_true rfl) (Nat.le_of_ble_eq_true rfl) ?_
      exact ⟨rfl, rfl⟩
    · cases c4
  · skip
    refine m_aload_n rfl rfl rfl ?_
    refine m_iconst rfl rfl ?_
    refine m_aload_n rfl rfl rfl ?_
    refine m_iload_n rfl rfl rfl ?_
    refine m_cvf rfl rfl lk_9_77 (hc) rfl (by first | decide | assumption | (simp only [cnt]; omega)) (Nat.le_of_ble_eq_true rfl) rfl rfl (Nat.le_of_ble_eq_true rfl) (Nat.le_of_ble_eq_true rfl) (Nat.le_of_ble_eq_true rfl) (Nat.le_of_ble_eq_true rfl) (Nat.le_of_ble_eq_true rfl) (fun v4 c4 => ?_) (fun E4 c4 => ?_)
    · cases c4
    · cases c4
      refine x_catch (A := []) (B := []) (s0 := 0) (e0 := 9) (hp := 12) (ct := 23) rfl rfl (by decide) (by decide) ctL_23 (fun _ h => nomatch h) (fun q => ?_)
      refine m_astore_nv rfl rfl (Nat.le_of_ble_eq_true rfl) rfl ?_
      refine m_iconst rfl rfl ?_
      refine m_iret rfl rfl rfl (Nat.le_of_ble_eq_true rfl) (Nat.le_of_ble_eq_true rfl) ?_
      exact ⟨rfl, rfl⟩

set_option maxRecDepth 10000 in
theorem c_la_result {l : Launch} {G : zkG} {mem : zkM} (hl : l.stackTraces = false) {r : zkO} {f g : zkM} {c : Int} {a0 a1 : Int} (hc : zkCt l G i_Cw_result 7 2 12 [vr 6 0, vi a0, vi a1] mem (zkRf r f)) (hr : (∃ v : Int, r = Sum.inl (some (vi v)) ∧ inR v ∧ c = 0 ∧ g = mset f 50 0 0 v) ∨ (r = Sum.inr xIO ∧ c = 1 ∧ g = f) ∨ (r = Sum.inr xIA ∧ c = 2 ∧ g = f)) : zkCt l G i_La_result 8 2 12 [vr 6 0, vi a0, vi a1, vr 50 0] mem (zkR1 (vi c) g) := by
  refine zkCt_ofH hl ok_La_result (by decide +kernel) rfl (by decide) (List.forall_mem_cons.mpr ⟨rfl, (List.forall_mem_cons.mpr ⟨rfl, (List.forall_mem_cons.mpr ⟨rfl, (List.forall_mem_cons.mpr ⟨rfl, fun _ h => nomatch h⟩)⟩)⟩)⟩) (Nat.le_of_ble_eq_true rfl) ?_
  rcases hr with ⟨v, rfl, hv, rfl, rfl⟩ | ⟨rfl, rfl, rfl⟩ | ⟨rfl, rfl, rfl⟩
  · skip
    refine m_aload_n rfl rfl rfl ?_
    refine m_iconst rfl rfl ?_
    refine m_aload_n rfl rfl rfl ?_
    refine m_iload_n rfl rfl rfl ?_
    refine m_iload_n rfl rfl rfl ?_
    refine m_cvf rfl rfl lk_9_80 (hc) rfl (by first | decide | assumption | (simp only [cnt]; omega)) (Nat.le_of_ble_eq_true rfl) rfl rfl (Nat.le_of_ble_eq_true rfl) (Nat.le_of_ble_eq_true rfl) (Nat.le_of_ble_eq_true rfl) (Nat.le_of_ble_eq_true rfl) (Nat.le_of_ble_eq_true rfl) (fun v5 c5 => ?_) (fun E5 c5 => ?_)
    · cases c5
      refine m_i2l rfl rfl (by omega) ?_
      refine m_last rfl rfl ?_
      refine m_goto (tgt := 21) rfl rfl rfl ?_
      refine m_iconst rfl rfl ?_
      refine m_iret rfl rfl rfl (Nat.le_of_ble_eq_true rfl) (Nat.le_of_ble_eq_true rfl) ?_
      exact ⟨rfl, rfl⟩
    · cases c5
  · skip
    refine m_aload_n rfl rfl rfl ?_
    refine m_iconst rfl rfl ?_
    refine m_aload_n rfl rfl rfl ?_
    refine m_iload_n rfl rfl rfl ?_
    refine m_iload_n rfl rfl rfl ?_
    refine m_cvf rfl rfl lk_9_80 (hc) rfl (by first | decide | assumption | (simp only [cnt]; omega)) (Nat.le_of_ble_eq_true rfl) rfl rfl (Nat.le_of_ble_eq_true rfl) (Nat.le_of_ble_eq_true rfl) (Nat.le_of_ble_eq_true rfl) (Nat.le_of_ble_eq_true rfl) (Nat.le_of_ble_eq_true rfl) (fun v5 c5 => ?_) (fun E5 c5 => ?_)
    · cases c5
    · cases c5
      refine x_catch (A := []) (B := [(0, 10, 17, 13)]) (s0 := 0) (e0 := 10) (hp := 13) (ct := 23) rfl rfl (by decide) (by decide) ctL_23 (fun _ h => nomatch h) (fun q => ?_)
      refine m_astore_v rfl rfl (Nat.le_of_ble_eq_true rfl) rfl ?_
      refine m_iconst rfl rfl ?_
      refine m_iret rfl rfl rfl (Nat.le_of_ble_eq_true rfl) (Nat.le_of_ble_eq_true rfl) ?_
      exact ⟨rfl, rfl⟩
  · skip
    refine m_aload_n rfl rfl rfl ?_
    refine m_iconst rfl rfl ?_
    refine m_aload_n rfl rfl rfl ?_
    refine m_iload_n rfl rfl rfl ?_
    refine m_iload_n rfl rfl rfl ?_
    refine m_cvf rfl rfl lk_9_80 (hc) rfl (by first | decide | assumption | (simp only [cnt]; omega)) (Nat.le_of_ble_eq_true rfl) rfl rfl (Nat.le_of_ble_eq_true rfl) (Nat.le_of_ble_eq_true rfl) (Nat.le_of_ble_eq_true rfl) (Nat.le_of_ble_eq_true rfl) (Nat.le_of_ble_eq_true rfl) (fun v5 c5 => ?_) (fun E5 c5 => ?_)
    · cases c5
    · cases c5
      refine x_catch (A := [(0, 10, 13, 23)]) (B := []) (s0 := 0) (e0 := 10) (hp := 17) (ct := 13) rfl rfl (by decide) (by decide) ctL_13 (List.forall_mem_cons.mpr ⟨⟨by decide, xIO, by decide, by decide, ctL_23⟩, fun _ h => nomatch h⟩) (fun q => ?_)
      refine m_astore_v rfl rfl (Nat.le_of_ble_eq_true rfl) rfl ?_
      refine m_iconst rfl rfl ?_
      refine m_iret rfl rfl rfl (Nat.le_of_ble_eq_true rfl) (Nat.le_of_ble_eq_true rfl) ?_
      exact ⟨rfl, rfl⟩

set_option maxRecDepth 10000 in
theorem c_la_averageResponse {l : Launch} {G : zkG} {mem : zkM} (hl : l.stackTraces = false) {r : zkO} {f g : zkM} {c : Int} {a0 : Int} (hc : zkCt l G i_Cw_averageResponse 7 2 12 [vr 6 0, vi a0] mem (zkRf r f)) (hr : (∃ v : UInt32, r = Sum.inl (some (vf v)) ∧ vf_n64 (FP.f2d v) ∧ c = 0 ∧ g = mset f 51 0 0 ((FP.f2d v).toNat : Int)) ∨ (r = Sum.inr xIO ∧ c = 1 ∧ g = f) ∨ (r = Sum.inr xAE ∧ c = 2 ∧ g = f)) : zkCt l G i_La_averageResponse 8 2 12 [vr 6 0, vi a0, vr 51 0] mem (zkR1 (vi c) g) := by
  refine zkCt_ofH hl ok_La_averageResponse (by decide +kernel) rfl (by decide) (List.forall_mem_cons.mpr ⟨rfl, (List.forall_mem_cons.mpr ⟨rfl, (List.forall_mem_cons.mpr ⟨rfl, fun _ h => nomatch h⟩)⟩)⟩) (Nat.le_of_ble_eq_true rfl) ?_
  rcases hr with ⟨v, rfl, hv, rfl, rfl⟩ | ⟨rfl, rfl, rfl⟩ | ⟨rfl, rfl, rfl⟩
  · skip
    refine m_aload_n rfl rfl rfl ?_
    refine m_iconst rfl rfl ?_
    refine m_aload_n rfl rfl rfl ?_
    refine m_iload_n rfl rfl rfl ?_
    refine m_cvf rfl rfl lk_9_83 (hc) rfl (by first | decide | assumption | (simp only [cnt]; omega)) (Nat.le_of_ble_eq_true rfl) rfl rfl (Nat.le_of_ble_eq_true rfl) (Nat.le_of_ble_eq_true rfl) (Nat.le_of_ble_eq_true rfl) (Nat.le_of_ble_eq_true rfl) (Nat.le_of_ble_eq_true rfl) (fun v4 c4 => ?_) (fun E4 c4 => ?_)
    · cases c4
      refine m_f2d rfl rfl hv ?_
      refine m_dast rfl rfl ?_
      refine m_goto (tgt := 18) rfl rfl rfl ?_
      refine m_iconst rfl rfl ?_
      refine m_iret rfl rfl rfl (Nat.le_of_ble_eq_true rfl) (Nat.le_of_ble_eq_true rfl) ?_
      exact ⟨rfl, rfl⟩
    · cases c4
  · skip
    refine m_aload_n rfl rfl rfl ?_
    refine m_iconst rfl rfl ?_
    refine m_aload_n rfl rfl rfl ?_
    refine m_iload_n rfl rfl rfl ?_
    refine m_cvf rfl rfl lk_9_83 (hc) rfl (by first | decide | assumption | (simp only [cnt]; omega)) (Nat.le_of_ble_eq_true rfl) rfl rfl (Nat.le_of_ble_eq_true rfl) (Nat.le_of_ble_eq_true rfl) (Nat.le_of_ble_eq_true rfl) (Nat.le_of_ble_eq_true rfl) (Nat.le_of_ble_eq_true rfl) (fun v4 c4 => ?_) (fun E4 c4 => ?_)
    · cases c4
    · cases c4
      refine x_catch (A := []) (B := [(0, 9, 15, 87)]) (s0 := 0) (e0 := 9) (hp := 12) (ct := 23) rfl rfl (by decide) (by decide) ctL_23 (fun _ h => nomatch h) (fun q => ?_)
      refine m_astore_nv rfl rfl (Nat.le_of_ble_eq_true rfl) rfl ?_
      refine m_iconst rfl rfl ?_
      refine m_iret rfl rfl rfl (Nat.le_of_ble_eq_true rfl) (Nat.le_of_ble_eq_true rfl) ?_
      exact ⟨rfl, rfl⟩
  · skip
    refine m_aload_n rfl rfl rfl ?_
    refine m_iconst rfl rfl ?_
    refine m_aload_n rfl rfl rfl ?_
    refine m_iload_n rfl rfl rfl ?_
    refine m_cvf rfl rfl lk_9_83 (hc) rfl (by first | decide | assumption | (simp only [cnt]; omega)) (Nat.le_of_ble_eq_true rfl) rfl rfl (Nat.le_of_ble_eq_true rfl) (Nat.le_of_ble_eq_true rfl) (Nat.le_of_ble_eq_true rfl) (Nat.le_of_ble_eq_true rfl) (Nat.le_of_ble_eq_true rfl) (fun v4 c4 => ?_) (fun E4 c4 => ?_)
    · cases c4
    · cases c4
      refine x_catch (A := [(0, 9, 12, 23)]) (B := []) (s0 := 0) (e0 := 9) (hp := 15) (ct := 87) rfl rfl (by decide) (by decide) ctL_87 (List.forall_mem_cons.mpr ⟨⟨by decide, xIO, by decide, by decide, ctL_23⟩, fun _ h => nomatch h⟩) (fun q => ?_)
      refine m_astore_nv rfl rfl (Nat.le_of_ble_eq_true rfl) rfl ?_
      refine m_iconst rfl rfl ?_
      refine m_iret rfl rfl rfl (Nat.le_of_ble_eq_true rfl) (Nat.le_of_ble_eq_true rfl) ?_
      exact ⟨rfl, rfl⟩

set_option maxRecDepth 10000 in
theorem c_la_balance {l : Launch} {G : zkG} {mem : zkM} (hl : l.stackTraces = false) {r : zkO} {f g : zkM} {c : Int} (hc : zkCt l G i_Cw_balance 7 1 6 [vr 6 0] mem (zkRf r f)) (hr : (∃ v : Int, r = Sum.inl (some (vi v)) ∧ inR v ∧ c = 0 ∧ g = mset f 50 0 0 v) ∨ (r = Sum.inr xIS ∧ c = 1 ∧ g = f)) : zkCt l G i_La_balance 8 1 6 [vr 6 0, vr 50 0] mem (zkR1 (vi c) g) := by
  refine zkCt_ofH hl ok_La_balance (by decide +kernel) rfl (by decide) (List.forall_mem_cons.mpr ⟨rfl, (List.forall_mem_cons.mpr ⟨rfl, fun _ h => nomatch h⟩)⟩) (Nat.le_of_ble_eq_true rfl) ?_
  rcases hr with ⟨v, rfl, hv, rfl, rfl⟩ | ⟨rfl, rfl, rfl⟩
  · skip
    refine m_aload_n rfl rfl rfl ?_
    refine m_iconst rfl rfl ?_
    refine m_aload_n rfl rfl rfl ?_
    refine m_cvf rfl rfl lk_9_89 (hc) rfl (by first | decide | assumption | (simp only [cnt]; omega)) (Nat.le_of_ble_eq_true rfl) rfl rfl (Nat.le_of_ble_eq_true rfl) (Nat.le_of_ble_eq_true rfl) (Nat.le_of_ble_eq_true rfl) (Nat.le_of_ble_eq_true rfl) (Nat.le_of_ble_eq_true rfl) (fun v3 c3 => ?_) (fun E3 c3 => ?_)
    · cases c3
      refine m_i2l rfl rfl (by omega) ?_
      refine m_last rfl rfl ?_
      refine m_goto (tgt := 14) rfl rfl rfl ?_
      refine m_iconst rfl rfl ?_
      refine m_iret rfl rfl rfl (Nat.le_of_ble_eq_true rfl) (Nat.le_of_ble_eq_true rfl) ?_
      exact ⟨rfl, rfl⟩
    · cases c3
  · skip
    refine m_aload_n rfl rfl rfl ?_
    refine m_iconst rfl rfl ?_
    refine m_aload_n rfl rfl rfl ?_
    refine m_cvf rfl rfl lk_9_89 (hc) rfl (by first | decide | assumption | (simp only [cnt]; omega)) (Nat.le_of_ble_eq_true rfl) rfl rfl (Nat.le_of_ble_eq_true rfl) (Nat.le_of_ble_eq_true rfl) (Nat.le_of_ble_eq_true rfl) (Nat.le_of_ble_eq_true rfl) (Nat.le_of_ble_eq_true rfl) (fun v3 c3 => ?_) (fun E3 c3 => ?_)
    · cases c3
    · cases c3
      refine x_catch (A := []) (B := []) (s0 := 0) (e0 := 8) (hp := 11) (ct := 15) rfl rfl (by decide) (by decide) ctL_15 (fun _ h => nomatch h) (fun q => ?_)
      refine m_astore_nv rfl rfl (Nat.le_of_ble_eq_true rfl) rfl ?_
      refine m_iconst rfl rfl ?_
      refine m_iret rfl rfl rfl (Nat.le_of_ble_eq_true rfl) (Nat.le_of_ble_eq_true rfl) ?_
      exact ⟨rfl, rfl⟩

set_option maxRecDepth 10000 in
theorem c_la_nextReplenishment {l : Launch} {G : zkG} {mem : zkM} (hl : l.stackTraces = false) {r : zkO} {f g : zkM} {c : Int} (hc : zkCt l G i_Cw_nextReplenishment 7 2 12 [vr 6 0] mem (zkRf r f)) (hr : (∃ v : Int, r = Sum.inl (some (vi v)) ∧ inR v ∧ c = 0 ∧ g = mset f 50 0 0 v) ∨ (r = Sum.inr xIS ∧ c = 1 ∧ g = f) ∨ (r = Sum.inr zkNE ∧ c = 2 ∧ g = f)) : zkCt l G i_La_nextReplenishment 8 2 12 [vr 6 0, vr 50 0] mem (zkR1 (vi c) g) := by
  refine zkCt_ofH hl ok_La_nextReplenishment (by decide +kernel) rfl (by decide) (List.forall_mem_cons.mpr ⟨rfl, (List.forall_mem_cons.mpr ⟨rfl, fun _ h => nomatch h⟩)⟩) (Nat.le_of_ble_eq_true rfl) ?_
  rcases hr with ⟨v, rfl, hv, rfl, rfl⟩ | ⟨rfl, rfl, rfl⟩ | ⟨rfl, rfl, rfl⟩
  · skip
    refine m_aload_n rfl rfl rfl ?_
    refine m_iconst rfl rfl ?_
    refine m_aload_n rfl rfl rfl ?_
    refine m_cvf rfl rfl lk_9_92 (hc) rfl (by first | decide | assumption | (simp only [cnt]; omega)) (Nat.le_of_ble_eq_true rfl) rfl rfl (Nat.le_of_ble_eq_true rfl) (Nat.le_of_ble_eq_true rfl) (Nat.le_of_ble_eq_true rfl) (Nat.le_of_ble_eq_true rfl) (Nat.le_of_ble_eq_true rfl) (fun v3 c3 => ?_) (fun E3 c3 => ?_)
    · cases c3
      refine m_i2l rfl rfl (by omega) ?_
      refine m_last rfl rfl ?_
      refine m_goto (tgt := 17) rfl rfl rfl ?_
      refine m_iconst rfl rfl ?_
      refine m_iret rfl rfl rfl (Nat.le_of_ble_eq_true rfl) (Nat.le_of_ble_eq_true rfl) ?_
      exact ⟨rfl, rfl⟩
    · cases c3
  · skip
    refine m_aload_n rfl rfl rfl ?_
    refine m_iconst rfl rfl ?_
    refine m_aload_n rfl rfl rfl ?_
    refine m_cvf rfl rfl lk_9_92 (hc) rfl (by first | decide | assumption | (simp only [cnt]; omega)) (Nat.le_of_ble_eq_true rfl) rfl rfl (Nat.le_of_ble_eq_true rfl) (Nat.le_of_ble_eq_true rfl) (Nat.le_of_ble_eq_true rfl) (Nat.le_of_ble_eq_true rfl) (Nat.le_of_ble_eq_true rfl) (fun v3 c3 => ?_) (fun E3 c3 => ?_)
    · cases c3
    · cases c3
      refine x_catch (A := []) (B := [(0, 8, 14, 48)]) (s0 := 0) (e0 := 8) (hp := 11) (ct := 15) rfl rfl (by decide) (by decide) ctL_15 (fun _ h => nomatch h) (fun q => ?_)
      refine m_astore_nv rfl rfl (Nat.le_of_ble_eq_true rfl) rfl ?_
      refine m_iconst rfl rfl ?_
      refine m_iret rfl rfl rfl (Nat.le_of_ble_eq_true rfl) (Nat.le_of_ble_eq_true rfl) ?_
      exact ⟨rfl, rfl⟩
  · skip
    refine m_aload_n rfl rfl rfl ?_
    refine m_iconst rfl rfl ?_
    refine m_aload_n rfl rfl rfl ?_
    refine m_cvf rfl rfl lk_9_92 (hc) rfl (by first | decide | assumption | (simp only [cnt]; omega)) (Nat.le_of_ble_eq_true rfl) rfl rfl (Nat.le_of_ble_eq_true rfl) (Nat.le_of_ble_eq_true rfl) (Nat.le_of_ble_eq_true rfl) (Nat.le_of_ble_eq_true rfl) (Nat.le_of_ble_eq_true rfl) (fun v3 c3 => ?_) (fun E3 c3 => ?_)
    · cases c3
    · cases c3
      refine x_catch (A := [(0, 8, 11, 15)]) (B := []) (s0 := 0) (e0 := 8) (hp := 14) (ct := 48) rfl rfl (by decide) (by decide) ctL_48 (List.forall_mem_cons.mpr ⟨⟨by decide, xIS, by decide, by decide, ctL_15⟩, fun _ h => nomatch h⟩) (fun q => ?_)
      refine m_astore_nv rfl rfl (Nat.le_of_ble_eq_true rfl) rfl ?_
      refine m_iconst rfl rfl ?_
      refine m_iret rfl rfl rfl (Nat.le_of_ble_eq_true rfl) (Nat.le_of_ble_eq_true rfl) ?_
      exact ⟨rfl, rfl⟩

set_option maxRecDepth 10000 in
theorem c_la_requestResponse {l : Launch} {G : zkG} {mem : zkM} (hl : l.stackTraces = false) {r : zkO} {f g : zkM} {c : Int} {a0 : Int} (hc : zkCt l G i_Cw_requestResponse 6 1 6 [vr 6 0, vi a0] mem (zkRf r f)) (hr : (∃ v : Int, r = Sum.inl (some (vi v)) ∧ inR v ∧ c = 0 ∧ g = mset f 50 0 0 v) ∨ (r = Sum.inr xIO ∧ c = 1 ∧ g = f) ∨ (r = Sum.inr xIS ∧ c = 2 ∧ g = f)) : zkCt l G i_La_requestResponse 7 1 6 [vr 6 0, vi a0, vr 50 0] mem (zkR1 (vi c) g) := by
  refine zkCt_ofH hl ok_La_requestResponse (by decide +kernel) rfl (by decide) (List.forall_mem_cons.mpr ⟨rfl, (List.forall_mem_cons.mpr ⟨rfl, (List.forall_mem_cons.mpr ⟨rfl, fun _ h => nomatch h⟩)⟩)⟩) (Nat.le_of_ble_eq_true rfl) ?_
  rcases hr with ⟨v, rfl, hv, rfl, rfl⟩ | ⟨rfl, rfl, rfl⟩ | ⟨rfl, rfl, rfl⟩
  · skip
    refine m_aload_n rfl rfl rfl ?_
    refine m_iconst rfl rfl ?_
    refine m_aload_n rfl rfl rfl ?_
    refine m_iload_n rfl rfl rfl ?_
    refine m_cvf rfl rfl lk_9_95 (hc) rfl (by first | decide | assumption | (simp only [cnt]; omega)) (Nat.le_of_ble_eq_true rfl) rfl rfl (Nat.le_of_ble_eq_true rfl) (Nat.le_of_ble_eq_true rfl) (Nat.le_of_ble_eq_true rfl) (Nat.le_of_ble_eq_true rfl) (Nat.le_of_ble_eq_true rfl) (fun v4 c4 => ?_) (fun E4 c4 => ?_)
    · cases c4
      refine m_i2l rfl rfl (by omega) ?_
      refine m_last rfl rfl ?_
      refine m_goto (tgt := 18) rfl rfl rfl ?_
      refine m_iconst rfl rfl ?_
      refine m_iret rfl rfl rfl (Nat.le_of_ble_eq_true rfl) (Nat.le_of_ble_eq_true rfl) ?_
      exact ⟨rfl, rfl⟩
    · cases c4
  · skip
    refine m_aload_n rfl rfl rfl ?_
    refine m_iconst rfl rfl ?_
    refine m_aload_n rfl rfl rfl ?_
    refine m_iload_n rfl rfl rfl ?_
    refine m_cvf rfl rfl lk_9_95 (hc) rfl (by first | decide | assumption | (simp only [cnt]; omega)) (Nat.le_of_ble_eq_true rfl) rfl rfl (Nat.le_of_ble_eq_true rfl) (Nat.le_of_ble_eq_true rfl) (Nat.le_of_ble_eq_true rfl) (Nat.le_of_ble_eq_true rfl) (Nat.le_of_ble_eq_true rfl) (fun v4 c4 => ?_) (fun E4 c4 => ?_)
    · cases c4
    · cases c4
      refine x_catch (A := []) (B := [(0, 9, 15, 15)]) (s0 := 0) (e0 := 9) (hp := 12) (ct := 23) rfl rfl (by decide) (by decide) ctL_23 (fun _ h => nomatch h) (fun q => ?_)
      refine m_astore_nv rfl rfl (Nat.le_of_ble_eq_true rfl) rfl ?_
      refine m_iconst rfl rfl ?_
      refine m_iret rfl rfl rfl (Nat.le_of_ble_eq_true rfl) (Nat.le_of_ble_eq_true rfl) ?_
      exact ⟨rfl, rfl⟩
  · skip
    refine m_aload_n rfl rfl rfl ?_
    refine m_iconst rfl rfl ?_
    refine m_aload_n rfl rfl rfl ?_
    refine m_iload_n rfl rfl rfl ?_
    refine m_cvf rfl rfl lk_9_95 (hc) rfl (by first | decide | assumption | (simp only [cnt]; omega)) (Nat.le_of_ble_eq_true rfl) rfl rfl (Nat.le_of_ble_eq_true rfl) (Nat.le_of_ble_eq_true rfl) (Nat.le_of_ble_eq_true rfl) (Nat.le_of_ble_eq_true rfl) (Nat.le_of_ble_eq_true rfl) (fun v4 c4 => ?_) (fun E4 c4 => ?_)
    · cases c4
    · cases c4
      refine x_catch (A := [(0, 9, 12, 23)]) (B := []) (s0 := 0) (e0 := 9) (hp := 15) (ct := 15) rfl rfl (by decide) (by decide) ctL_15 (List.forall_mem_cons.mpr ⟨⟨by decide, xIO, by decide, by decide, ctL_23⟩, fun _ h => nomatch h⟩) (fun q => ?_)
      refine m_astore_nv rfl rfl (Nat.le_of_ble_eq_true rfl) rfl ?_
      refine m_iconst rfl rfl ?_
      refine m_iret rfl rfl rfl (Nat.le_of_ble_eq_true rfl) (Nat.le_of_ble_eq_true rfl) ?_
      exact ⟨rfl, rfl⟩

set_option maxRecDepth 10000 in
theorem c_la_utilization {l : Launch} {G : zkG} {mem : zkM} (hl : l.stackTraces = false) {r : zkO} {f g : zkM} {c : Int} (hc : zkCt l G i_Cw_utilization 6 1 6 [vr 6 0] mem (zkRf r f)) (hr : (∃ v : UInt64, r = Sum.inl (some (vd v)) ∧ True ∧ c = 0 ∧ g = mset f 51 0 0 (v.toNat : Int)) ∨ (r = Sum.inr xAE ∧ c = 1 ∧ g = f)) : zkCt l G i_La_utilization 7 1 6 [vr 6 0, vr 51 0] mem (zkR1 (vi c) g) := by
  refine zkCt_ofH hl ok_La_utilization (by decide +kernel) rfl (by decide) (List.forall_mem_cons.mpr ⟨rfl, (List.forall_mem_cons.mpr ⟨rfl, fun _ h => nomatch h⟩)⟩) (Nat.le_of_ble_eq_true rfl) ?_
  rcases hr with ⟨v, rfl, hv, rfl, rfl⟩ | ⟨rfl, rfl, rfl⟩
  · skip
    refine m_aload_n rfl rfl rfl ?_
    refine m_iconst rfl rfl ?_
    refine m_aload_n rfl rfl rfl ?_
    refine m_cvf rfl rfl lk_9_98 (hc) rfl (by first | decide | assumption | (simp only [cnt]; omega)) (Nat.le_of_ble_eq_true rfl) rfl rfl (Nat.le_of_ble_eq_true rfl) (Nat.le_of_ble_eq_true rfl) (Nat.le_of_ble_eq_true rfl) (Nat.le_of_ble_eq_true rfl) (Nat.le_of_ble_eq_true rfl) (fun v3 c3 => ?_) (fun E3 c3 => ?_)
    · cases c3
      refine m_dast rfl rfl ?_
      refine m_goto (tgt := 13) rfl rfl rfl ?_
      refine m_iconst rfl rfl ?_
      refine m_iret rfl rfl rfl (Nat.le_of_ble_eq_true rfl) (Nat.le_of_ble_eq_true rfl) ?_
      exact ⟨rfl, rfl⟩
    · cases c3
  · skip
    refine m_aload_n rfl rfl rfl ?_
    refine m_iconst rfl rfl ?_
    refine m_aload_n rfl rfl rfl ?_
    refine m_cvf rfl rfl lk_9_98 (hc) rfl (by first | decide | assumption | (simp only [cnt]; omega)) (Nat.le_of_ble_eq_true rfl) rfl rfl (Nat.le_of_ble_eq_true rfl) (Nat.le_of_ble_eq_true rfl) (Nat.le_of_ble_eq_true rfl) (Nat.le_of_ble_eq_true rfl) (Nat.le_of_ble_eq_true rfl) (fun v3 c3 => ?_) (fun E3 c3 => ?_)
    · cases c3
    · cases c3
      refine x_catch (A := []) (B := []) (s0 := 0) (e0 := 7) (hp := 10) (ct := 87) rfl rfl (by decide) (by decide) ctL_87 (fun _ h => nomatch h) (fun q => ?_)
      refine m_astore_nv rfl rfl (Nat.le_of_ble_eq_true rfl) rfl ?_
      refine m_iconst rfl rfl ?_
      refine m_iret rfl rfl rfl (Nat.le_of_ble_eq_true rfl) (Nat.le_of_ble_eq_true rfl) ?_
      exact ⟨rfl, rfl⟩

set_option maxRecDepth 10000 in
theorem c_la_restore {l : Launch} {G : zkG} {mem : zkM} (hl : l.stackTraces = false) {r : zkO} {f g : zkM} {c : Int} (hc : zkCt l G i_Cw_restore 6 1 6 [vr 6 0] mem (zkRf r f)) (hr : (∃ v : Int, r = Sum.inl (some (vi v)) ∧ inR v ∧ c = 0 ∧ g = mset f 50 0 0 v) ∨ (r = Sum.inr xIS ∧ c = 1 ∧ g = f)) : zkCt l G i_La_restore 7 1 6 [vr 6 0, vr 50 0] mem (zkR1 (vi c) g) := by
  refine zkCt_ofH hl ok_La_restore (by decide +kernel) rfl (by decide) (List.forall_mem_cons.mpr ⟨rfl, (List.forall_mem_cons.mpr ⟨rfl, fun _ h => nomatch h⟩)⟩) (Nat.le_of_ble_eq_true rfl) ?_
  rcases hr with ⟨v, rfl, hv, rfl, rfl⟩ | ⟨rfl, rfl, rfl⟩
  · skip
    refine m_aload_n rfl rfl rfl ?_
    refine m_iconst rfl rfl ?_
    refine m_aload_n rfl rfl rfl ?_
    refine m_cvf rfl rfl lk_9_102 (hc) rfl (by first | decide | assumption | (simp only [cnt]; omega)) (Nat.le_of_ble_eq_true rfl) rfl rfl (Nat.le_of_ble_eq_true rfl) (Nat.le_of_ble_eq_true rfl) (Nat.le_of_ble_eq_true rfl) (Nat.le_of_ble_eq_true rfl) (Nat.le_of_ble_eq_true rfl) (fun v3 c3 => ?_) (fun E3 c3 => ?_)
    · cases c3
      refine m_i2l rfl rfl (by omega) ?_
      refine m_last rfl rfl ?_
      refine m_goto (tgt := 14) rfl rfl rfl ?_
      refine m_iconst rfl rfl ?_
      refine m_iret rfl rfl rfl (Nat.le_of_ble_eq_true rfl) (Nat.le_of_ble_eq_true rfl) ?_
      exact ⟨rfl, rfl⟩
    · cases c3
  · skip
    refine m_aload_n rfl rfl rfl ?_
    refine m_iconst rfl rfl ?_
    refine m_aload_n rfl rfl rfl ?_
    refine m_cvf rfl rfl lk_9_102 (hc) rfl (by first | decide | assumption | (simp only [cnt]; omega)) (Nat.le_of_ble_eq_true rfl) rfl rfl (Nat.le_of_ble_eq_true rfl) (Nat.le_of_ble_eq_true rfl) (Nat.le_of_ble_eq_true rfl) (Nat.le_of_ble_eq_true rfl) (Nat.le_of_ble_eq_true rfl) (fun v3 c3 => ?_) (fun E3 c3 => ?_)
    · cases c3
    · cases c3
      refine x_catch (A := []) (B := []) (s0 := 0) (e0 := 8) (hp := 11) (ct := 15) rfl rfl (by decide) (by decide) ctL_15 (fun _ h => nomatch h) (fun q => ?_)
      refine m_astore_nv rfl rfl (Nat.le_of_ble_eq_true rfl) rfl ?_
      refine m_iconst rfl rfl ?_
      refine m_iret rfl rfl rfl (Nat.le_of_ble_eq_true rfl) (Nat.le_of_ble_eq_true rfl) ?_
      exact ⟨rfl, rfl⟩

