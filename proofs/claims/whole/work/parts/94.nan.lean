/-! no NaN is made -/
theorem n64_of {a : UInt64} (h : FP.dIsNaN a = false) : vf_n64 a := by
  have h1 : ¬ (9218868437227405312 < a.toNat % 2 ^ 63) := fun q => by
    have := (FP.Core.isNaN_bits a).mpr q
    rw [show FP.Core.dIsNaN a = false from h] at this
    cases this
  unfold vf_n64
  rw [UInt64.le_iff_toNat_le, UInt64.toNat_and]
  show a.toNat &&& (2 ^ 63 - 1) ≤ 9218868437227405312
  rw [Nat.and_two_pow_sub_one_eq_mod]
  omega
theorem n32_of {a : UInt32} (h : FP.fIsNaN a = false) : vf_n32 a := by
  have h1 : ¬ (2139095040 < a.toNat % 2 ^ 31) := fun q => by
    have := (FP.Core.isNaN_bits32 a).mpr q
    rw [show FP.Core.fIsNaN a = false from h] at this
    cases this
  unfold vf_n32
  rw [UInt32.le_iff_toNat_le, UInt32.toNat_and]
  show a.toNat &&& (2 ^ 31 - 1) ≤ 2139095040
  rw [Nat.and_two_pow_sub_one_eq_mod]
  omega
theorem n64_lt {a : UInt64} {K : Nat} (h : a.toNat % 2 ^ 63 < K * 2 ^ 52) (hK : K ≤ 2047) : vf_n64 a := n64_of (FP.Core.fin_of_lt h hK).notNaN
theorem i32n0 {x : Int} (h : inR x) (h0 : x ≠ 0) : Int32.ofInt x ≠ 0 := fun e => by
  have := i32_toInt h
  rw [e] at this
  exact h0 this.symm
theorem i32n0' {x : Int} (h : inR x) (h0 : x ≠ 0) : (Int32.ofInt x).toInt ≠ 0 := by rw [i32_toInt h]; exact h0
theorem dDiv_lt {x y : Int} (hy : inR y) (h0 : y ≠ 0) : (dDiv x y).toNat % 2 ^ 63 < 1057 * 2 ^ 52 := by
  have h1 := FP.Core.i2d_mag (Int32.ofInt x)
  have h2 := FP.Core.i2d_big (i32n0' hy h0)
  have := FP.Core.ddiv_mag h1 h2.1 h2.2 (by decide) (by decide)
  exact Nat.lt_of_lt_of_le this (Nat.mul_le_mul_right _ (by decide))
theorem dc0_lt : FP.dconst0.toNat % 2 ^ 63 < 1057 * 2 ^ 52 := by decide +kernel
theorem dc1_lt : FP.dconst1.toNat % 2 ^ 63 < 1057 * 2 ^ 52 := by decide +kernel
theorem moPe_ok {m : zkM} (hA : moA m) {j : Nat} (hj : j < moN m) : inR (moPe m j) ∧ moPe m j ≠ 0 := by
  have h1 := moA_e1 hA hj
  have h2 := moA_e hA (i := j) (by have := moA_n hA; omega)
  unfold inR
  omega
theorem moLf_lt {m : zkM} (hA : moA m) : ∀ j : Nat, j ≤ moN m → (lp (moLf m) j FP.dconst0).toNat % 2 ^ 63 < (1057 + 2 * j) * 2 ^ 52
  | 0, _ => dc0_lt
  | j + 1, hj => by
    have h5 := (moA_n hA).2
    have h1 := moLf_lt hA j (by omega)
    have h2 := moPe_ok hA (j := j) (by omega)
    have h3 := dDiv_lt (x := moDe m j) h2.1 h2.2
    have h4 := FP.Core.dadd_mag (K := 1057 + 2 * j) h1 (Nat.lt_of_lt_of_le h3 (Nat.mul_le_mul_right _ (by omega))) (by omega)
    have e : (lp (moLf m) (j + 1) FP.dconst0) = FP.Core.dadd (lp (moLf m) j FP.dconst0) (dDiv (moDe m j) (moPe m j)) := rfl
    rw [e]
    exact Nat.lt_of_lt_of_le h4 (Nat.mul_le_mul_right _ (by omega))
theorem srv_ok {m : zkM} (hA : moA m) (hs : 0 < m 7 0 6) : inR (m 7 0 8) ∧ m 7 0 8 ≠ 0 := by
  obtain ⟨-, -, -, -, -, g6, g7, g8, g9⟩ := hA
  have := g9 hs
  unfold inR
  omega
theorem moLok_of {m : zkM} (hA : moA m) : moLok m := by
  have h5 := (moA_n hA).2
  refine ⟨fun j hj => ⟨?_, ?_⟩, fun hs => ⟨?_, ?_⟩⟩
  · have h2 := moPe_ok hA hj
    exact n64_lt (dDiv_lt h2.1 h2.2) (by decide)
  · exact n64_lt (moLf_lt hA (j + 1) (by omega)) (by omega)
  · have h2 := srv_ok hA hs
    exact n64_lt (dDiv_lt h2.1 h2.2) (by decide)
  · have h2 := srv_ok hA hs
    have h1 := moLf_lt hA (moN m) (Nat.le_refl _)
    exact n64_lt (FP.Core.dadd_mag (K := 1057 + 2 * moN m) h1 (Nat.lt_of_lt_of_le (dDiv_lt h2.1 h2.2) (Nat.mul_le_mul_right _ (by omega))) (by omega)) (by omega)
theorem dDiv1_lt {x y : Int} (hy : inR y) (h0 : y ≠ 0) : (FP.dadd (dDiv x y) FP.dconst1).toNat % 2 ^ 63 < 1059 * 2 ^ 52 := FP.Core.dadd_mag (K := 1057) (dDiv_lt hy h0) dc1_lt (by decide)
theorem moHf_lt {m : zkM} (hA : moA m) : ∀ j : Nat, j ≤ moN m → (lp (moHfy m) j FP.dconst1).toNat % 2 ^ 63 < (1057 + 37 * j) * 2 ^ 52
  | 0, _ => dc1_lt
  | j + 1, hj => by
    have h5 := (moA_n hA).2
    have h1 := moHf_lt hA j (by omega)
    have h2 := moPe_ok hA (j := j) (by omega)
    have h3 := dDiv1_lt (x := moDe m j) h2.1 h2.2
    have h4 := FP.Core.dmul_mag (Ka := 1057 + 37 * j) h1 h3 (by omega) (by decide)
    have e : (lp (moHfy m) (j + 1) FP.dconst1) = FP.Core.dmul (lp (moHfy m) j FP.dconst1) (FP.dadd (dDiv (moDe m j) (moPe m j)) FP.dconst1) := rfl
    rw [e]
    exact Nat.lt_of_lt_of_le h4 (Nat.mul_le_mul_right _ (by omega))
theorem moHok_of {m : zkM} (hA : moA m) : moHok m := by
  have h5 := (moA_n hA).2
  refine ⟨fun j hj => ⟨?_, ?_, ?_⟩, fun hs => ⟨?_, ?_, ?_⟩⟩
  · have h2 := moPe_ok hA hj
    exact n64_lt (dDiv_lt h2.1 h2.2) (by decide)
  · have h2 := moPe_ok hA hj
    exact n64_lt (dDiv1_lt h2.1 h2.2) (by decide)
  · exact n64_lt (moHf_lt hA (j + 1) (by omega)) (by omega)
  · have h2 := srv_ok hA hs
    exact n64_lt (dDiv_lt h2.1 h2.2) (by decide)
  · have h2 := srv_ok hA hs
    exact n64_lt (dDiv1_lt h2.1 h2.2) (by decide)
  · have h2 := srv_ok hA hs
    have h1 := moHf_lt hA (moN m) (Nat.le_refl _)
    exact n64_lt (FP.Core.dmul_mag (Ka := 1057 + 37 * moN m) h1 (dDiv1_lt h2.1 h2.2) (by omega) (by decide)) (by omega)
theorem ddiv_n64 {x y : Int} (hy : inR y) (h0 : y ≠ 0) : vf_n64 (FP.ddiv (FP.i2d (Int32.ofInt x)) (FP.i2d (Int32.ofInt y))) := n64_lt (dDiv_lt hy h0) (by decide)
theorem fdiv_nn {x y : Int} (hy : inR y) (h0 : y ≠ 0) : FP.fIsNaN (FP.fdiv (FP.i2f (Int32.ofInt x)) (FP.i2f (Int32.ofInt y))) = false :=
  FP.Core.fdiv_out (FP.Core.i2f_fin _).notNaN (FP.Core.i2f_fin _) (fun hz => FP.Core.i2f_ne_zero (i32n0 hy h0) ((FP.Core.zero_bits232 _).mp hz))
theorem f2d_n64 {v : UInt32} (h : FP.fIsNaN v = false) : vf_n64 (FP.f2d v) := n64_of (by rw [FP.f2d_nan]; exact h)
/-- load, hyperbolicLoad -/
theorem op_load {m : zkM} (hI : zInv m) : anLd m = moLoad m ∧ moLok m ∧ anLok m ∧ anHy m = moHyp m ∧ moHok m ∧ anHok m := by
  obtain ⟨T, hT⟩ := hI.1
  have hM := (pm_m hT).1
  have hR := aq_rlC hT
  exact ⟨rl_anLd hR hM, moLok_of hM, rl_anLok hR hM (moLok_of hM), rl_anHy hR hM, moHok_of hM, rl_anHok hR hM (moHok_of hM)⟩
def opD (m g m2 : zkM) (ans : UInt64) (c : Int) : Prop := (m2 7 0 0 = c ∧ inR c) ∧ (c = 0 → m2 51 0 0 = (ans.toNat : Int) ∧ vf_n64 ans) ∧ zInv m2 ∧ ∃ T, sR m m T ∧ sR m g T
theorem opD_q {m g m2 : zkM} {ans : UInt64} {c T : Int} (hI : zInv m) (hT : sR m m T) (hg : gO m g) (hq : qf g m2) (h0 : m2 7 0 0 = c) (hcr : 0 ≤ c ∧ c ≤ 3) (ha : c = 0 → g 51 0 0 = (ans.toNat : Int) ∧ vf_n64 ans) : opD m g m2 ans c := by
  have hl := fr_g (cf_r m) hg
  refine ⟨⟨h0, by unfold inR; omega⟩, fun h => ?_, zInv_fin hI (cf_r m) hg (qf_mf hq) ⟨T, sR_lv (lv_r m) (qf_lm hq) (sR_lv (lv_r m) hl hT)⟩ (by rw [h0]; unfold inR; omega), T, hT, sR_lv (lv_r m) hl hT⟩
  rw [hq 51 0 0 (by omega)]
  exact ha h
theorem op_utilization {m : zkM} (hI : zInv m) : ∃ (g : zkM) (c : Int), ((∃ v : UInt64, caUt m = Sum.inl (some (vd v)) ∧ True ∧ c = 0 ∧ g = mset m 51 0 0 (v.toNat : Int)) ∨ (caUt m = Sum.inr xAE ∧ c = 1 ∧ g = m)) ∧ opD m g (moUtil g).2 (moUtil g).1 c ∧ (m 0 0 7 ≠ 0 → vf_n64 (caUr m)) ∧ (g 7 0 11 ≠ 0 → vf_n64 (moUr g)) := by
  obtain ⟨T, hT⟩ := hI.1
  have h7 := hT.2.1
  have h11 := hT.2.2.1
  have hTb := hT.2.2.2
  have hnc : m 0 0 7 ≠ 0 → vf_n64 (caUr m) := fun h => ddiv_n64 (by unfold inR; omega) h
  by_cases k0 : m 0 0 7 = 0
  · have eA : caUt m = Sum.inr xAE := by unfold caUt; rw [if_pos k0]
    have eB : moUtil m = (FP.i2d (Int32.ofInt 0), mset (mset m 7 0 0 0) 7 0 0 1) := by unfold moUtil; rw [if_pos (by omega)]
    refine ⟨m, 1, Or.inr ⟨eA, rfl, rfl⟩, ?_, hnc, fun h => absurd (show m 7 0 11 = 0 by omega) h⟩
    rw [eB]
    exact opD_q hI hT (gO_r m) (qf_2 m 0 1) (by simp [mset]) (by omega) (fun h => absurd h (by decide))
  · have eA : caUt m = Sum.inl (some (vd (caUr m))) := by unfold caUt; rw [if_neg k0]
    have hg := gO_51 m ((caUr m).toNat : Int)
    have l := fr_g (cf_r m) hg
    have hg2 := sR_lv (lv_r m) l hT
    have e11 : mset m 51 0 0 ((caUr m).toNat : Int) 7 0 11 = m 7 0 11 := l.1 11 (by decide) (by decide)
    have eU : moUr (mset m 51 0 0 ((caUr m).toNat : Int)) = caUr m := by
      unfold moUr
      rw [← aq_us hg2, e11, h11, ← h7]
      rfl
    have eB : moUtil (mset m 51 0 0 ((caUr m).toNat : Int)) = (caUr m, mset (mset m 51 0 0 ((caUr m).toNat : Int)) 7 0 0 0) := by
      unfold moUtil
      rw [e11, if_neg (by omega), eU]
    refine ⟨_, 0, Or.inl ⟨caUr m, eA, trivial, rfl, rfl⟩, ?_, hnc, fun _ => by rw [eU]; exact hnc k0⟩
    rw [eB]
    exact opD_q hI hT hg (qf_1 _ _) (by simp [mset]) (by omega) (fun _ => ⟨by rw [ms_s], hnc k0⟩)
theorem op_averageResponse {m : zkM} (hI : zInv m) (x : Int) : ∃ (g : zkM) (c : Int), ((∃ v : UInt32, caAve m x = Sum.inl (some (vf v)) ∧ vf_n64 (FP.f2d v) ∧ c = 0 ∧ g = mset m 51 0 0 ((FP.f2d v).toNat : Int)) ∨ (caAve m x = Sum.inr xIO ∧ c = 1 ∧ g = m) ∨ (caAve m x = Sum.inr xAE ∧ c = 2 ∧ g = m)) ∧ opD m g (moAve g x).2 (FP.f2d (moAve g x).1) c ∧ (0 ≤ x ∧ x ≤ m 0 0 5 - 1 → m 22 x.toNat 0 ≠ 0 → vf_n32 (caAvg m x)) ∧ (0 ≤ x ∧ x ≤ g 7 0 2 - 1 → g 39 0 (6 * x.toNat) ≠ 0 → vf_n32 (moAvg g x)) := by
  obtain ⟨T, hT⟩ := hI.1
  have hn := aq_n hT
  have hC := pm_c hT
  have hMm := pm_m hT
  have hnc : 0 ≤ x ∧ x ≤ m 0 0 5 - 1 → m 22 x.toNat 0 ≠ 0 → FP.fIsNaN (caAvg m x) = false := fun h h0 => fdiv_nn (hC.2.2.2.2.2.2.2.2.1 _ (by omega)) h0
  have hnm : ∀ g, gO m g → 0 ≤ x ∧ x ≤ g 7 0 2 - 1 → g 39 0 (6 * x.toNat) ≠ 0 → vf_n32 (moAvg g x) := fun g hg h h0 => by
    have h1 := pm_m (sR_lv (lv_r m) (fr_g (cf_r m) hg) hT)
    have h2 := h1.1.1
    exact n32_of (fdiv_nn (h1.2.2.2.2.1 _ (by omega)) h0)
  by_cases k0 : ¬ (0 ≤ x ∧ x ≤ m 0 0 5 - 1)
  · have eA : caAve m x = Sum.inr xIO := by unfold caAve; rw [if_pos k0]
    have eB : moAve m x = (FP.fconst0, mset m 7 0 0 1) := by unfold moAve; rw [if_pos (by omega)]
    refine ⟨m, 1, Or.inr (Or.inl ⟨eA, rfl, rfl⟩), ?_, fun h h0 => n32_of (hnc h h0), hnm m (gO_r m)⟩
    rw [eB]
    exact opD_q hI hT (gO_r m) (qf_1 m 1) (by simp [mset]) (by omega) (fun h => absurd h (by decide))
  · have k0' := Decidable.not_not.mp k0
    have hx : x.toNat < moN m := aq_t hT (by omega)
    have hR := (hT.1.2.1 x.toNat hx).2.2.2
    have e22 := (hR.2.1 0 (by decide)).1
    rw [Nat.add_zero] at e22
    by_cases k1 : m 22 x.toNat 0 = 0
    · have eA : caAve m x = Sum.inr xAE := by unfold caAve; rw [if_neg k0, if_pos k1]
      have eB : moAve m x = (FP.fconst0, mset m 7 0 0 2) := by unfold moAve; rw [if_neg (by omega), if_pos (by rw [← e22]; exact k1)]
      refine ⟨m, 2, Or.inr (Or.inr ⟨eA, rfl, rfl⟩), ?_, fun h h0 => n32_of (hnc h h0), hnm m (gO_r m)⟩
      rw [eB]
      exact opD_q hI hT (gO_r m) (qf_1 m 2) (by simp [mset]) (by omega) (fun h => absurd h (by decide))
    · have eA : caAve m x = Sum.inl (some (vf (caAvg m x))) := by unfold caAve; rw [if_neg k0, if_neg k1]
      have hv := f2d_n64 (hnc k0' k1)
      obtain ⟨V, hV⟩ : ∃ V : Int, V = ((FP.f2d (caAvg m x)).toNat : Int) := ⟨_, rfl⟩
      have hg := gO_51 m V
      have l := fr_g (cf_r m) hg
      have e2 : mset m 51 0 0 V 7 0 2 = m 7 0 2 := l.1 2 (by decide) (by decide)
      have e39 : mset m 51 0 0 V 39 0 (6 * x.toNat) = m 39 0 (6 * x.toNat) := ms_t (by decide) _ _ _ _ _ _
      have e40 : mset m 51 0 0 V 40 0 x.toNat = m 40 0 x.toNat := ms_t (by decide) _ _ _ _ _ _
      have eV : moAvg (mset m 51 0 0 V) x = caAvg m x := by
        unfold moAvg caAvg
        rw [e39, e40, ← e22, ← hR.2.2.1]
      have eB : moAve (mset m 51 0 0 V) x = (caAvg m x, mset (mset m 51 0 0 V) 7 0 0 0) := by
        unfold moAve
        rw [e2, e39, if_neg (by omega), if_neg (by rw [← e22]; exact k1), eV]
      refine ⟨mset m 51 0 0 V, 0, Or.inl ⟨caAvg m x, eA, hv, rfl, by rw [hV]⟩, ?_, fun h h0 => n32_of (hnc h h0), hnm _ hg⟩
      rw [eB]
      exact opD_q hI hT hg (qf_1 _ _) (by simp [mset]) (by omega) (fun _ => ⟨by rw [ms_s, hV], hv⟩)
