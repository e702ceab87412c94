/-! the answers of the asking calls, over two memories -/
theorem aq_rlC {m : zkM} {T : Int} (h : sR m m T) : rlC m := by
  obtain ⟨⟨hK, -⟩, ha, hb, -⟩ := h
  refine ⟨hK.1.1, fun i hi => (hK.2.1 i hi).1, hK.2.2.1, hK.2.2.2.1.1, fun h6 => ?_, hK.1.2.1, by rw [ha, hb]⟩
  have := hK.2.2.2.1.2 h6
  exact ⟨this.1, this.2.1, this.2.2.1⟩
/-- the model's functions of the configuration read only what lm keeps -/
theorem moBl_lm {b b' : zkM} (h : lm b b') (i : Nat) : moBl b' i = moBl b i := by
  unfold moBl moBi moBf
  simp only [moN_lm h, moCe_lm h]
  unfold moPr moS moRe moLe
  rw [h.2 30 (by decide) (by decide), h.2 31 (by decide) (by decide), h.2 32 (by decide) (by decide)]
theorem moWk_lm {b b' : zkM} (h : lm b b') (i : Nat) (r : Int) : moWk b' i r = moWk b i r := by
  unfold moWk moWf
  simp only [moN_lm h, moBl_lm h, moDe_lm h]
  unfold moPr moPe
  rw [h.2 30 (by decide) (by decide), h.1 6 (by decide) (by decide), h.1 7 (by decide) (by decide), h.1 8 (by decide) (by decide)]
theorem moBdf_lm {b b' : zkM} (h : lm b b') (i : Nat) : ∀ (n : Nat) (r : Int), moBdf b' i n r = moBdf b i n r
  | 0, r => rfl
  | n + 1, r => by
    unfold moBdf
    rw [moWk_lm h, moBdf_lm h i n]
theorem moBd_lm {b b' : zkM} (h : lm b b') (i : Nat) : moBd b' i = moBd b i := moBdf_lm h i _ _
theorem moCm_lm {b b' : zkM} (h : lm b b') (i : Nat) (t : Int) : moCm b' i t = moCm b i t := by
  unfold moCm moCf
  simp only [moN_lm h, moDe_lm h]
  unfold moPr moPe
  rw [h.2 30 (by decide) (by decide), h.1 6 (by decide) (by decide), h.1 7 (by decide) (by decide), h.1 8 (by decide) (by decide)]
theorem moWtf_lm {b b' : zkM} (h : lm b b') (i : Nat) : ∀ (n : Nat) (t o w : Int), moWtf b' i n t o w = moWtf b i n t o w
  | 0, _, _, _ => rfl
  | n + 1, t, o, w => by
    unfold moWtf moWo moWw
    rw [moBl_lm h, moCm_lm h, moWtf_lm h i n]
theorem moWt_lm {b b' : zkM} (h : lm b b') (i : Nat) : moWt b' i = moWt b i := by
  unfold moWt
  rw [moDe_lm h, moWtf_lm h]
theorem moSch_lm {b b' : zkM} (h : lm b b') : moSch b' = moSch b := by
  unfold moSch moSf
  simp only [moN_lm h, moBd_lm h]
  rw [h.2 30 (by decide) (by decide), h.2 31 (by decide) (by decide)]
theorem moLoad_lm {b b' : zkM} (h : lm b b') : moLoad b' = moLoad b := by
  unfold moLoad moL0 moLf
  simp only [moN_lm h, moDe_lm h]
  unfold moPe
  rw [h.2 30 (by decide) (by decide), h.1 6 (by decide) (by decide), h.1 7 (by decide) (by decide), h.1 8 (by decide) (by decide)]
theorem moHyp_lm {b b' : zkM} (h : lm b b') : moHyp b' = moHyp b := by
  unfold moHyp moH0 moHfy
  simp only [moN_lm h, moDe_lm h]
  unfold moPe
  rw [h.2 30 (by decide) (by decide), h.1 6 (by decide) (by decide), h.1 7 (by decide) (by decide), h.1 8 (by decide) (by decide)]
theorem aq_le {a b : zkM} {T : Int} (h : sR a b T) {i : Nat} (hi : i < moN b) (hS : 0 < b 31 0 i) : 1 ≤ a 5 i 9 := by
  have hC := h.1.1.2.1 i hi
  have hup := moDp_up hC.2.2 (moS b i) 0 (by omega)
  rw [Nat.zero_add, moDp_0, ← moDe_p] at hup
  rw [hC.1.2.2.2.2.2.1]
  have : (moS b i : Int) = b 31 0 i := by unfold moS; omega
  omega
theorem aq_anBl0 {m : zkM} (hA : anA m) (n : Nat) : 0 ≤ anBl m n := by
  unfold anBl
  refine lp_inv (fun (_ : Nat) (s : Int) => 0 ≤ s) _ _ _ (Int.le_refl 0) (fun j s _ hs => ?_)
  unfold anBo
  split <;> omega
theorem aq_bd {m : zkM} {T : Int} (h : sR m m T) {i : Nat} (hi : i < moN m) (hS : 0 < m 31 0 i) : anBd m i = moBd m i := by
  refine rl_bd (aq_rlC h) h.1.1.2.2.2.2.1 h.1.1.2.2.2.2.2 hi ?_
  have h1 := aq_le h hi hS
  have h2 := aq_anBl0 h.1.1.2.2.2.2.1 i
  unfold anLe
  omega
theorem aq_sch {m : zkM} {T : Int} (h : sR m m T) : anMd m = moSch m := by
  refine rl_md (aq_rlC h) h.1.1.2.2.2.2.1 h.1.1.2.2.2.2.2 (fun i hi => (h.1.1.2.1 i hi).2.1.2.2.2.1) (fun i hi hS => ?_)
  have h1 := aq_le h hi hS
  have h2 := aq_anBl0 h.1.1.2.2.2.2.1 i
  unfold anLe
  omega
theorem aq_us {a b : zkM} {T : Int} (h : sR a b T) : beUs a = moUs b := by
  obtain ⟨⟨hK, hR, hB, hS, hQ, hN, hX, hO⟩, ha, hb, hT⟩ := h
  unfold beUs moUs beUf
  rw [ha, hb]
  refine lp_cong (fun t s ht => ?_) 0
  rw [hN.1 t (by omega)]
  split <;> omega
theorem aq_nx {a b : zkM} {T : Int} (h : sR a b T) : seNx a = moNr b := by
  obtain ⟨⟨hK, hR, hB, hS, hQ, hN, hX, hO⟩, ha, hb, hT⟩ := h
  obtain ⟨s1, s2, s3, s4, -⟩ := hS
  unfold seNx moNr
  rw [s2.1]
  by_cases hp : 0 < b 7 0 26
  · rw [if_pos hp]
    have g0 := s3 0 (by omega)
    have hgo : ∀ j : Nat, 1 ≤ j → (j : Int) ≤ b 7 0 26 → lp (moNf b) j (-1) = b 43 0 0 := by
      intro j
      induction j with
      | zero => intro h; omega
      | succ j ih =>
        intro _ hj
        show moNf b j (lp (moNf b) j (-1)) = _
        by_cases e : j = 0
        · subst e
          show moNf b 0 (-1) = _
          unfold moNf
          rw [if_pos rfl]
        · rw [ih (by omega) (by omega)]
          unfold moNf
          have hm := mono_q (v := fun k => b 43 0 (2 * k)) (Q := (b 7 0 26).toNat) (fun k hk => s4 k (by omega)) j 0 (by omega)
          simp only [Nat.zero_add, Nat.mul_zero] at hm
          have := g0.2.2.1
          simp only [Nat.mul_zero] at this
          rw [if_neg (by omega)]
          omega
    have := hgo (b 7 0 26).toNat (by omega) (by omega)
    rw [this]
    simpa using g0.1
  · rw [if_neg hp]
    have : (b 7 0 26).toNat = 0 := by omega
    rw [this]
    rfl
/-- what a query finds of a task -/
theorem aq_t {a b : zkM} {T : Int} (h : sR a b T) {x : Int} (hx : 0 ≤ x ∧ x ≤ b 7 0 2 - 1) : x.toNat < moN b := by unfold moN; omega
theorem aq_n {a b : zkM} {T : Int} (h : sR a b T) : a 0 0 5 = b 7 0 2 ∧ 0 ≤ b 7 0 2 ∧ b 7 0 2 ≤ 5 := by
  have := kR_n h.1.1
  omega
