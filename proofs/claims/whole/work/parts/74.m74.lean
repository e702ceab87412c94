/-! policy, requests and server keep the relation -/
theorem st_pol {a b : zkM} {T : Int} (h : sR a b T) (p : Int) : sR (bePp a p).2 (moSetP b p).2 T := by
  unfold bePp moSetP
  by_cases hp : 0 ≤ p ∧ p ≤ 2
  · rw [if_neg (fun g => g hp), if_neg (fun g => g hp)]
    obtain ⟨⟨hK, hR, hB, hS, hQ, hN, hX, hO⟩, ha, hb, hT⟩ := sR_thr (x := 0) h
    exact ⟨⟨⟨⟨hK.1.1, rfl, hp⟩, hK.2⟩, hR, hB, hS, hQ, hN, hX, hO⟩, ha, hb, hT⟩
  · rw [if_pos hp, if_pos hp]
    exact sR_thr (sR_thr h)
theorem st_req {a b : zkM} {T : Int} (h : sR a b T) (t le : Int) : sR (bePq a t le).2 (moReq b t le).2 T := by
  obtain ⟨⟨hK, hR, hB, hS, hQ, hN, hX, hO⟩, ha, hb, hT⟩ := id h
  have q1 := hQ.1
  by_cases h1 : (0 ≤ t ∧ t ≤ 300) ∧ (1 ≤ le ∧ le ≤ 9) ∧ T ≤ t
  · by_cases h2 : b 7 0 9 = 12
    · have eA : bePq a t le = (-3, a) := by
        unfold bePq
        rw [ha, if_neg (fun g => g h1), if_pos (by omega)]
      have eB : moReq b t le = (0, mset (mset b 7 0 0 0) 7 0 0 2) := by
        unfold moReq
        rw [hb, if_neg (by omega), if_pos h2]
      rw [eA, eB]
      exact sR_thr (sR_thr h)
    · have eA0 : bePq a t le = rqAdd a t le := by
        unfold bePq
        rw [ha, if_neg (fun g => g h1), if_neg (by omega)]
      have eB : moReq b t le = (b 7 0 9 + 1 - 1, mset (mset (mset (mset (mset (mset b 7 0 0 0) 33 0 (2 * (b 7 0 9).toNat) t) 33 0 (2 * (b 7 0 9).toNat + 1) le) 41 0 (b 7 0 9).toNat le) 42 0 (b 7 0 9).toNat (-1)) 7 0 9 (b 7 0 9 + 1)) := by
        unfold moReq
        rw [hb, if_neg (by omega), if_neg h2]
      rw [eA0, eB]
      have eA : rqAdd a t le = (a 3 0 4 + 1 - 1, mset (mset (mset (mset (mset a 13 0 (b 7 0 9).toNat t) 14 0 (b 7 0 9).toNat le) 15 0 (b 7 0 9).toNat le) 16 0 (b 7 0 9).toNat (-1)) 3 0 4 (b 7 0 9 + 1)) := by
        unfold rqAdd
        rw [if_neg (by omega), q1.1]
      rw [eA]
      simp only
      generalize hc : (b 7 0 9).toNat = c
      have hc' : (c : Int) = b 7 0 9 := by omega
      refine ⟨⟨?_, ?_, ?_, ?_, ?_, ?_, ?_, ?_⟩, ha, hb, hT⟩
      · exact kR_c rfl rfl (fun _ _ _ => rfl) rfl rfl rfl rfl rfl rfl rfl rfl rfl rfl rfl rfl rfl rfl rfl hK
      · intro i hi
        refine tR_e rfl rfl rfl rfl (fun t h1 h2 h3 h4 => ?_) (hR i hi)
        rw [mset_t (by omega), mset_t (by omega), mset_t (by omega), mset_t (by omega), mset_t (by omega), mset_t (by omega)]
      · intro i hi
        refine tB_e rfl rfl rfl (fun t h1 h2 h3 h4 => ?_) (hB i hi)
        rw [mset_t (by omega), mset_t (by omega), mset_t (by omega), mset_t (by omega), mset_t (by omega), mset_t (by omega)]
      · exact hS
      · obtain ⟨-, q2, q3, q4⟩ := hQ
        refine ⟨?_, fun k hk => ?_, fun k hk => ?_, fun k hk => ?_⟩
        · simp [mset]; omega
        · simp only [mset] at hk ⊢
          simp at hk ⊢
          by_cases e : k = c
          · subst e
            simp
          · have r := q2 k (by omega)
            have e1 : ¬ 2 * k = 2 * c := by omega
            have e2 : ¬ 2 * k = 2 * c + 1 := by omega
            have e3 : ¬ 2 * k + 1 = 2 * c := by omega
            simp [e, e1, e2, e3]
            exact ⟨r.1, r.2.1, r.2.2.1, r.2.2.2.1, r.2.2.2.2.1, r.2.2.2.2.2⟩
        · have r := q3 k hk
          simp only [mset]
          simp
          by_cases e : k = c
          · simp [e]; omega
          · simp [e]; exact r
        · have r := q4 k hk
          simp only [mset]
          simp
          by_cases e : k = c
          · subst e
            simp; omega
          · have e1 : ¬ 2 * k = 2 * c := by omega
            have e2 : ¬ 2 * k = 2 * c + 1 := by omega
            have e3 : ¬ 2 * k + 1 = 2 * c := by omega
            simp [e, e1, e2, e3]; exact r
      · exact hN
      · exact hX
      · intro i hi hi5
        refine tO_e rfl rfl (fun t h1 h2 h3 h4 => ?_) (hO i hi hi5)
        rw [mset_t (by omega), mset_t (by omega), mset_t (by omega), mset_t (by omega), mset_t (by omega), mset_t (by omega)]
  · have eA : bePq a t le = (-2, a) := by
      unfold bePq
      rw [ha, if_pos h1]
    have eB : moReq b t le = (0, mset (mset b 7 0 0 0) 7 0 0 1) := by
      unfold moReq
      rw [hb, if_pos (by omega)]
    rw [eA, eB]
    exact sR_thr (sR_thr h)
theorem tk_eq {a b : zkM} (hK : kR a b) (p : Int) : beTk a p = moTk b p := by
  have hn := kR_n hK
  have hgo : ∀ r i : Nat, i + r = moN b → moTk b p = (lp (fun k s => s || decide (moPr b k = p)) i false || beTf a p r i) := by
    intro r
    induction r with
    | zero =>
      intro i hi
      unfold moTk beTf
      rw [← hi]
      simp
    | succ r ih =>
      intro i hi
      rw [ih (i + 1) (by omega)]
      show ((lp (fun k s => s || decide (moPr b k = p)) i false || decide (moPr b i = p)) || beTf a p r (i + 1)) = _
      conv => rhs; unfold beTf
      rw [(hK.2.1 i (by omega)).1.1]
      by_cases e : moPr b i = p
      · rw [if_pos e]; simp [e]
      · rw [if_neg e]; simp [e]
  have := hgo (moN b) 0 (by omega)
  unfold beTk
  rw [hn.1, this]
  rfl
theorem st_srv {a b : zkM} {T : Int} (h : sR a b T) (p bu pe : Int) : sR (bePv a p bu pe).2 (moSetS b p bu pe).2 T := by
  obtain ⟨⟨hK, hR, hB, hS, hQ, hN, hX, hO⟩, ha, hb, hT⟩ := id h
  have htk : b2i (beTk a p) = 1 ↔ moTk b p = true := by rw [tk_eq hK, b2i_1]
  by_cases h1 : (1 ≤ p ∧ p ≤ 9) ∧ (1 ≤ bu ∧ bu ≤ 9) ∧ (1 ≤ pe ∧ pe ≤ 60)
  · by_cases h2 : T = 0
    · by_cases h3 : moTk b p = true
      · have eA : (bePv a p bu pe).2 = a := by
          unfold bePv
          rw [ha, if_neg (fun g => g h1), if_neg (fun g => g h2), if_pos (htk.mpr h3)]
        have eB : (moSetS b p bu pe).2 = mset b 7 0 0 3 := by
          unfold moSetS
          rw [hb, if_neg (by omega), if_neg (fun g => g h2), if_pos h3]
        rw [eA, eB]
        exact sR_thr h
      · have eA : (bePv a p bu pe).2 = seBg a p bu pe := by
          unfold bePv
          rw [ha, if_neg (fun g => g h1), if_neg (fun g => g h2), if_neg (fun g => h3 (htk.mp g))]
          split <;> rfl
        have eB : (moSetS b p bu pe).2 = mset (mset (mset (mset (mset b 7 0 0 0) 7 0 6 p) 7 0 7 bu) 7 0 8 pe) 7 0 19 bu := by
          unfold moSetS
          rw [hb, if_neg (by omega), if_neg (fun g => g h2), if_neg h3]
        rw [eA, eB]
        subst h2
        unfold seBg seSt
        have s26 : b 7 0 26 = 0 := hS.2.2.2.2.2.2.2.1 rfl
        have s20 : b 7 0 20 = 0 := by
          rcases hS.1.2 with g | g
          · exact g
          · have := hS.2.2.2.2.2.2.1 g
            omega
        obtain ⟨s1, s2, s3, s4, s5, s6, s7, s8, s9⟩ := hS
        refine ⟨⟨?_, hR, hB, ?_, hQ, hN, hX, hO⟩, ha, hb, hT⟩
        · obtain ⟨k1, k2, k3, k4, k5, k6⟩ := hK
          refine ⟨k1, k2, k3, ?_, ?_, ?_⟩
          · simp [mset]
            omega
          · unfold anA at *
            refine ⟨k5.1, k5.2.1, k5.2.2.1, by simp [mset], ?_⟩
            simp [mset]
            omega
          · unfold moA at *
            refine ⟨k6.1, k6.2.1, k6.2.2.1, k6.2.2.2.1, k6.2.2.2.2.1, ?_⟩
            simp [mset]
            omega
        · have hps : plS (mset (mset (mset (mset (mset b 7 0 0 0) 7 0 6 p) 7 0 7 bu) 7 0 8 pe) 7 0 19 bu) 0 = 0 := rfl
          refine ⟨?_, ?_, ?_, ?_, ?_, ?_, ?_, ?_, s9.1, s9.2.1, ?_, ?_, ?_, s9.2.2.2.2.2⟩
          · simp [mset]; omega
          · simp [mset]; omega
          · intro k hk
            simp [mset] at hk
            omega
          · intro k hk
            simp [mset] at hk
            omega
          · intro _
            simp [mset, s26, s20]
            rw [show plS _ 0 = 0 from hps]
            omega
          · intro hh
            simp [mset] at hh
            omega
          · intro hh
            simp [mset] at hh
            omega
          · intro _
            simp [mset]; exact s26
          · simpa [mset] using s9.2.2.1
          · simp [mset]; omega
          · simp [mset]; omega
    · have eA : (bePv a p bu pe).2 = a := by
        unfold bePv
        rw [ha, if_neg (fun g => g h1), if_pos h2]
      have eB : (moSetS b p bu pe).2 = mset b 7 0 0 2 := by
        unfold moSetS
        rw [hb, if_neg (by omega), if_pos h2]
      rw [eA, eB]
      exact sR_thr h
  · have eA : (bePv a p bu pe).2 = a := by
      unfold bePv
      rw [ha, if_pos h1]
    have eB : (moSetS b p bu pe).2 = mset b 7 0 0 1 := by
      unfold moSetS
      rw [hb, if_pos (by omega)]
    rw [eA, eB]
    exact sR_thr h
