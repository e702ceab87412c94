/-! addSegment keeps the relation -/
theorem lp_max_le {c : Nat → Prop} [DecidablePred c] {v : Int} {V : Int} : ∀ (n : Nat) (s : Int), lp (fun k (x : Int) => if c k then max x v else x) n s ≤ V ↔ s ≤ V ∧ ∀ k, k < n → c k → v ≤ V
  | 0, s => ⟨fun h => ⟨h, fun k hk => absurd hk (by omega)⟩, fun h => h.1⟩
  | n + 1, s => by
    show (if c n then max (lp _ n s) v else lp _ n s) ≤ V ↔ _
    have ih := lp_max_le (c := c) (v := v) (V := V) n s
    by_cases hc : c n
    · rw [if_pos hc]
      constructor
      · intro h
        have h1 := ih.mp (by omega)
        refine ⟨h1.1, fun k hk hck => ?_⟩
        by_cases e : k = n
        · omega
        · exact h1.2 k (by omega) hck
      · rintro ⟨h1, h2⟩
        have h3 := ih.mpr ⟨h1, fun k hk hck => h2 k (by omega) hck⟩
        have h4 := h2 n (by omega) hc
        omega
    · rw [if_neg hc, ih]
      constructor
      · rintro ⟨h1, h2⟩
        refine ⟨h1, fun k hk hck => ?_⟩
        by_cases e : k = n
        · subst e; exact absurd hck hc
        · exact h2 k (by omega) hck
      · rintro ⟨h1, h2⟩
        exact ⟨h1, fun k hk hck => h2 k (by omega) hck⟩
theorem moCe_le {b : zkM} {r V : Int} : moCe b r ≤ V ↔ 0 ≤ V ∧ ∀ i, i < moN b → ∀ k, k < moS b i → moRe b i k = r → moPr b i ≤ V := by
  unfold moCe
  have hgo : ∀ n : Nat, lp (fun i s => moCi b r i s) n 0 ≤ V ↔ 0 ≤ V ∧ ∀ i, i < n → ∀ k, k < moS b i → moRe b i k = r → moPr b i ≤ V := by
    intro n
    induction n with
    | zero => exact ⟨fun h => ⟨h, fun i hi => absurd hi (by omega)⟩, fun h => h.1⟩
    | succ n ih =>
      show moCi b r n (lp (fun i s => moCi b r i s) n 0) ≤ V ↔ _
      unfold moCi
      rw [lp_max_le (c := fun k => moRe b n k = r) (v := moPr b n)]
      constructor
      · rintro ⟨h1, h2⟩
        have h3 := ih.mp h1
        refine ⟨h3.1, fun i hi k hk hr => ?_⟩
        by_cases e : i = n
        · subst e; exact h2 k hk hr
        · exact h3.2 i (by omega) k hk hr
      · rintro ⟨h1, h2⟩
        exact ⟨ih.mpr ⟨h1, fun i hi k hk hr => h2 i (by omega) k hk hr⟩, fun k hk hr => h2 n (by omega) k hk hr⟩
  exact hgo (moN b)
theorem st_seg {a b : zkM} {T : Int} (h : sR a b T) (x r le : Int) : sR (bePg a x r le).2 (moAddSeg b x r le).2 T := by
  obtain ⟨⟨hK, hR, hB, hS, hQ, hN, hX, hO⟩, ha, hb, hT⟩ := id h
  have hn := kR_n hK
  by_cases h0 : 0 ≤ x ∧ x ≤ b 7 0 2 - 1
  · have hxn : x.toNat < moN b := by unfold moN; omega
    have hCx := hK.2.1 x.toNat hxn
    have c8 := hCx.1.2.2.2.2.1
    by_cases h1 : (-1 ≤ r ∧ r ≤ 3) ∧ (1 ≤ le ∧ le ≤ 9)
    · by_cases h2 : T = 0 ∧ b 31 0 x.toNat < 6
      · have hS0 : 0 ≤ b 31 0 x.toNat := hCx.2.1.2.2.2.2.2.2.2.1
        generalize hxx : x.toNat = q at *
        have eT : taAp a q r le = mset (mset (mset (mset a 19 q (moS b q) r) 20 q (moS b q) le) 5 q 8 (b 31 0 q + 1)) 5 q 9 (a 5 q 9 + le) := by
          unfold taAp
          rw [if_pos (by omega), c8]
          rfl
        have eA : (bePg a x r le).2 = if r = -1 then taAp a q r le else mset (taAp a q r le) 17 0 r.toNat (max (a 17 0 r.toNat) (a 5 q 4)) := by
          unfold bePg
          rw [ha, hxx, if_neg (by rw [hn.2.2.2.2]; omega), if_neg (by omega), if_neg (by omega)]
          split <;> rfl
        have eB : (moAddSeg b x r le).2 = mset (mset (mset (mset b 7 0 0 0) 32 0 (2 * (6 * q + moS b q)) r) 32 0 (2 * (6 * q + moS b q) + 1) le) 31 0 q (b 31 0 q + 1) := by
          unfold moAddSeg
          rw [hb, hxx, if_neg (by omega), if_neg (by omega), if_neg (by omega)]
        rw [eA, eB]
        have hsS : (moS b q : Int) = b 31 0 q := by unfold moS; omega
        have hs6 : moS b q < 6 := by omega
        have heT : T = 0 := h2.1
        subst heT
        generalize hsm : moS b q = s at *
        generalize hA' : (if r = -1 then taAp a q r le else mset (taAp a q r le) 17 0 r.toNat (max (a 17 0 r.toNat) (a 5 q 4))) = a'
        generalize hB' : mset (mset (mset (mset b 7 0 0 0) 32 0 (2 * (6 * q + s)) r) 32 0 (2 * (6 * q + s) + 1) le) 31 0 q (b 31 0 q + 1) = b'
        rw [eT] at hA'
        have A1 : ∀ t, t ≠ 5 → t ≠ 17 → t ≠ 19 → t ≠ 20 → a' t = a t := by
          intro t t5 t17 t19 t20
          rw [← hA']
          split <;> simp only [mset_t t5, mset_t t17, mset_t t19, mset_t t20]
        have A5o : ∀ i, i ≠ q → a' 5 i = a 5 i ∧ a' 19 i = a 19 i ∧ a' 20 i = a 20 i := by
          intro i hi
          have e : ∀ t, t ≠ 17 → a' t i = a t i := by
            intro t ht
            rw [← hA']
            split
            · simp only [mset_i hi]
            · rw [mset_t ht]
              simp only [mset_i hi]
          exact ⟨e 5 (by decide), e 19 (by decide), e 20 (by decide)⟩
        have A5q : ∀ k, a' 5 q k = if k = 9 then a 5 q 9 + le else if k = 8 then b 31 0 q + 1 else a 5 q k := by
          intro k
          rw [← hA']
          split <;> simp [mset]
        have A19 : ∀ k, a' 19 q k = if k = s then r else a 19 q k := by
          intro k
          rw [← hA']
          split <;> simp [mset]
        have A20 : ∀ k, a' 20 q k = if k = s then le else a 20 q k := by
          intro k
          rw [← hA']
          split <;> simp [mset]
        have A17 : ∀ k : Nat, k < 4 → a' 17 0 k = if (k : Int) = r then max (a 17 0 k) (a 5 q 4) else a 17 0 k := by
          intro k hk
          rw [← hA']
          by_cases e : r = -1
          · rw [if_pos e, if_neg (by omega)]
            rfl
          · rw [if_neg e]
            by_cases e2 : (k : Int) = r
            · have : r.toNat = k := by omega
              rw [if_pos e2, this, ms_s]
            · have : k ≠ r.toNat := by omega
              rw [if_neg e2, ms_k this]
              rfl
        have B1 : ∀ t, t ≠ 7 → t ≠ 31 → t ≠ 32 → b' t = b t := fun t u1 u2 u3 => by rw [← hB']; simp only [mset_t u1, mset_t u2, mset_t u3]
        have B7 : ∀ k, k ≠ 0 → b' 7 0 k = b 7 0 k := by
          intro k k0
          rw [← hB', ms_t (by decide), ms_t (by decide), ms_t (by decide), ms_k k0]
        have B31 : ∀ i, b' 31 0 i = if i = q then b 31 0 q + 1 else b 31 0 i := by
          intro i
          rw [← hB']
          simp [mset]
        have B32 : ∀ k, b' 32 0 k = if k = 2 * (6 * q + s) + 1 then le else if k = 2 * (6 * q + s) then r else b 32 0 k := by
          intro k
          rw [← hB']
          simp [mset]
        have en : moN b' = moN b := moN_c (B7 2 (by decide))
        have e30 := B1 30 (by decide) (by decide) (by decide)
        have hPr : ∀ i, moPr b' i = moPr b i := fun i => by unfold moPr; rw [e30]
        have hSo : ∀ i, moS b' i = if i = q then s + 1 else moS b i := by
          intro i
          unfold moS
          rw [B31]
          split
          · omega
          · rfl
        have hLe : ∀ i k, k < 6 → moLe b' i k = if i = q ∧ k = s then le else moLe b i k := by
          intro i k hk
          unfold moLe
          rw [B32]
          by_cases e : i = q ∧ k = s
          · rw [if_pos e, if_pos (by omega)]
          · rw [if_neg e, if_neg (by omega), if_neg (by omega)]
        have hRe : ∀ i k, k < 6 → moRe b' i k = if i = q ∧ k = s then r else moRe b i k := by
          intro i k hk
          unfold moRe
          rw [B32]
          by_cases e : i = q ∧ k = s
          · rw [if_pos e, if_neg (by omega), if_pos (by omega)]
          · rw [if_neg e, if_neg (by omega), if_neg (by omega)]
        have hM := hK.2.2.2.2.2
        have hA := hK.2.2.2.2.1
        have hSle : ∀ i, i < moN b → moS b i ≤ 6 := by
          intro i hi
          have := (hK.2.1 i hi).2.1
          unfold moS; omega
        have hDe : ∀ i, i < moN b → i ≠ q → moDe b' i = moDe b i := by
          intro i hi hiq
          unfold moDe
          rw [hSo, if_neg hiq]
          refine lp_cong (fun j s' hj => ?_) 0
          rw [hLe i j (by have := hSle i hi; omega), if_neg (fun g => hiq g.1)]
        have hDq : moDe b' q = moDe b q + le := by
          unfold moDe
          rw [hSo, if_pos rfl, hsm]
          show lp (fun k s => s + moLe b' q k) s 0 + moLe b' q s = _
          rw [hLe q s hs6, if_pos ⟨rfl, rfl⟩]
          congr 1
          refine lp_cong (fun j s' hj => ?_) 0
          rw [hLe q j (by omega), if_neg (fun g => by omega)]
        have C' : ∀ i, i < moN b → tC a' b' i := by
          intro i hi
          have hC := hK.2.1 i hi
          by_cases e : i = q
          · subst e
            obtain ⟨⟨d4, d5, d6, d7, d8, d9, d10⟩, dd, d11⟩ := hC
            refine ⟨⟨?_, ?_, ?_, ?_, ?_, ?_, fun k hk => ?_⟩, ?_, fun k hk => ?_⟩
            · rw [A5q, if_neg (by decide), if_neg (by decide), hPr]; exact d4
            · rw [A5q, if_neg (by decide), if_neg (by decide)]; unfold moPe; rw [e30]; exact d5
            · rw [A5q, if_neg (by decide), if_neg (by decide), e30]; exact d6
            · rw [A5q, if_neg (by decide), if_neg (by decide), e30]; exact d7
            · rw [A5q, if_neg (by decide), if_pos rfl, B31, if_pos rfl]
            · rw [A5q, if_pos rfl, hDq, d9]
            · rw [hSo, if_pos rfl] at hk
              rw [A19, A20, hRe i k (by omega), hLe i k (by omega)]
              by_cases ek : k = s
              · rw [if_pos ek, if_pos ek, if_pos ⟨rfl, ek⟩, if_pos ⟨rfl, ek⟩]; exact ⟨rfl, rfl⟩
              · rw [if_neg ek, if_neg ek, if_neg (fun g => ek g.2), if_neg (fun g => ek g.2)]
                exact d10 k (by omega)
            · unfold moPr moPe at *
              rw [e30, B31, if_pos rfl]
              omega
            · rw [hSo, if_pos rfl] at hk
              rw [hLe i k (by omega)]
              by_cases ek : k = s
              · rw [if_pos ⟨rfl, ek⟩]; omega
              · rw [if_neg (fun g => ek g.2)]
                exact d11 k (by omega)
          · unfold tC at *
            rw [(A5o i e).1, (A5o i e).2.1, (A5o i e).2.2, hPr, hDe i hi e, hSo, if_neg e]
            unfold moPe at *
            rw [e30, B31, if_neg e]
            refine ⟨⟨hC.1.1, hC.1.2.1, hC.1.2.2.1, hC.1.2.2.2.1, hC.1.2.2.2.2.1, hC.1.2.2.2.2.2.1, fun k hk => ?_⟩, hC.2.1, fun k hk => ?_⟩
            · have := hSle i hi
              rw [hRe i k (by omega), hLe i k (by omega), if_neg (fun g => e g.1), if_neg (fun g => e g.1)]
              exact hC.1.2.2.2.2.2.2 k hk
            · have := hSle i hi
              rw [hLe i k (by omega), if_neg (fun g => e g.1)]
              exact hC.2.2 k hk
        have c4 := hCx.1.1
        have hCe : ∀ k : Nat, k < 4 → moCe b' k = if (k : Int) = r then max (moCe b k) (moPr b q) else moCe b k := by
          intro k hk
          have key : ∀ V, moCe b' k ≤ V ↔ (if (k : Int) = r then max (moCe b k) (moPr b q) else moCe b k) ≤ V := by
            intro V
            rw [moCe_le, en]
            have e1 : ((if (k : Int) = r then max (moCe b k) (moPr b q) else moCe b k) ≤ V) ↔ (moCe b k ≤ V ∧ ((k : Int) = r → moPr b q ≤ V)) := by
              split
              · next g => exact ⟨fun h => ⟨by omega, fun _ => by omega⟩, fun h => by have := h.2 g; omega⟩
              · next g => exact ⟨fun h => ⟨h, fun g' => absurd g' g⟩, fun h => h.1⟩
            rw [e1, moCe_le]
            constructor
            · rintro ⟨g1, g2⟩
              refine ⟨⟨g1, fun i hi k' hk' hr => ?_⟩, fun hr => ?_⟩
              · have hle6 := hSle i hi
                have hk2 : k' < moS b' i := by
                  rw [hSo]
                  by_cases ei : i = q
                  · rw [if_pos ei]; rw [ei, hsm] at hk'; omega
                  · rw [if_neg ei]; exact hk'
                have hr2 : moRe b' i k' = k := by
                  rw [hRe i k' (by omega)]
                  by_cases e : i = q ∧ k' = s
                  · exfalso
                    rw [e.1, hsm] at hk'
                    omega
                  · rw [if_neg e]; exact hr
                have := g2 i hi k' hk2 hr2
                rw [hPr] at this
                exact this
              · have := g2 q hxn s (by rw [hSo, if_pos rfl]; omega) (by rw [hRe q s hs6, if_pos ⟨rfl, rfl⟩]; exact hr.symm)
                rw [hPr] at this
                exact this
            · rintro ⟨⟨g1, g2⟩, g3⟩
              refine ⟨g1, fun i hi k' hk' hr => ?_⟩
              rw [hPr]
              have hle6 := hSle i hi
              rw [hSo] at hk'
              by_cases e : i = q ∧ k' = s
              · rw [hRe i k' (by omega), if_pos e] at hr
                rw [e.1]
                exact g3 hr.symm
              · have hk6 : k' < 6 := by
                  by_cases ei : i = q
                  · rw [if_pos ei] at hk'; omega
                  · rw [if_neg ei] at hk'; omega
                rw [hRe i k' hk6, if_neg e] at hr
                refine g2 i hi k' ?_ hr
                by_cases ei : i = q
                · rw [if_pos ei] at hk'
                  have : k' ≠ s := fun g => e ⟨ei, g⟩
                  rw [ei, hsm]; omega
                · rw [if_neg ei] at hk'; exact hk'
          have h1' := (key (moCe b' k)).mp (Int.le_refl _)
          have h2' := (key _).mpr (Int.le_refl _)
          omega
        obtain ⟨k1, k2, k3, k4, k5, k6⟩ := id hK
        have K' : kR a' b' := by
          refine ⟨?_, fun i hi => C' i (by rw [en] at hi; exact hi), fun k hk => ?_, ?_, ?_, ?_⟩
          · rw [A1 0 (by decide) (by decide) (by decide) (by decide), B7 1 (by decide), B7 2 (by decide)]; exact k1
          · rw [A17 k hk, hCe k hk, k3 k hk, c4]
          · rw [A1 4 (by decide) (by decide) (by decide) (by decide), B7 6 (by decide), B7 7 (by decide), B7 8 (by decide)]; exact k4
          · unfold anA at *
            rw [A1 0 (by decide) (by decide) (by decide) (by decide), A1 4 (by decide) (by decide) (by decide) (by decide)]
            refine ⟨k5.1, fun i hi => ?_, fun k hk => ?_, k5.2.2.2⟩
            · have r5 := k5.2.1 i hi
              by_cases e : i = q
              · subst e
                have hb9 : a 5 i 9 + le ≤ 54 := by
                  have hd := hCx.1.2.2.2.2.2.1
                  have hup := moDp_up hCx.2.2 (moS b i) 0 (by omega)
                  rw [Nat.zero_add, moDp_0, ← moDe_p, hsm] at hup
                  omega
                refine ⟨?_, fun k hk => ?_⟩
                · rw [A5q, A5q, A5q, A5q, A5q, if_neg (by decide), if_neg (by decide), if_neg (by decide), if_neg (by decide), if_neg (by decide), if_neg (by decide), if_neg (by decide), if_pos rfl, if_pos rfl]
                  omega
                · rw [A19, A20]
                  have r6 := r5.2 k hk
                  by_cases ek : k = s
                  · rw [if_pos ek, if_pos ek]; omega
                  · rw [if_neg ek, if_neg ek]; exact r6
              · rw [(A5o i e).1, (A5o i e).2.1, (A5o i e).2.2]; exact r5
            · rw [A17 k hk]
              have r7 := k5.2.2.1 k hk
              have r4 := (k5.2.1 q (by omega)).1.1
              split
              · omega
              · exact r7
          · unfold moA at *
            rw [B7 2 (by decide), B7 6 (by decide), B7 7 (by decide), B7 8 (by decide), e30]
            refine ⟨k6.1, fun i hi => ?_, k6.2.2.1, k6.2.2.2.1, fun i k hi hk => ?_, k6.2.2.2.2.2⟩
            · rw [B31]
              split
              · omega
              · exact k6.2.1 i hi
            · rw [hRe i k hk, hLe i k hk]
              have := k6.2.2.2.2.1 i k hi hk
              split
              · omega
              · exact this
        refine ⟨⟨K', fun i hi => ?_, fun i hi => ?_, ?_, ?_, ?_, ?_, fun i hi hi5 => ?_⟩, ?_, ?_, hT⟩
        · rw [en] at hi
          refine tR_0c (hK.2.1 i hi) (C' i hi) (hR i hi) (by rw [A1 1 (by decide) (by decide) (by decide) (by decide)]) (fun k hk => ?_) (by rw [A1 22 (by decide) (by decide) (by decide) (by decide)]) (by rw [e30]) (by rw [B1 36 (by decide) (by decide) (by decide)]) (by rw [B1 37 (by decide) (by decide) (by decide)]) (by rw [B1 38 (by decide) (by decide) (by decide)]) (by rw [B1 40 (by decide) (by decide) (by decide)]) (B1 39 (by decide) (by decide) (by decide))
          by_cases e : i = q
          · subst e
            rw [A5q, if_neg (by omega), if_neg (by omega)]
          · rw [(A5o i e).1]
        · have r := hB i hi
          unfold tB at *
          rw [A1 1 (by decide) (by decide) (by decide) (by decide), A1 21 (by decide) (by decide) (by decide) (by decide), B1 35 (by decide) (by decide) (by decide), B1 36 (by decide) (by decide) (by decide), B1 37 (by decide) (by decide) (by decide), B1 38 (by decide) (by decide) (by decide)]
          by_cases e : i = q
          · subst e
            rw [A5q, A5q, if_neg (by decide), if_neg (by decide), if_neg (by decide), if_neg (by decide)]
            exact r
          · rw [(A5o i e).1]; exact r
        · exact sV_d (A1 4 (by decide) (by decide) (by decide) (by decide)) (A1 11 (by decide) (by decide) (by decide) (by decide)) (A1 12 (by decide) (by decide) (by decide) (by decide)) (fun k hk => B7 k (by omega)) (B1 43 (by decide) (by decide) (by decide)) hS
        · exact qR_c (A1 3 (by decide) (by decide) (by decide) (by decide)) (A1 13 (by decide) (by decide) (by decide) (by decide)) (A1 14 (by decide) (by decide) (by decide) (by decide)) (A1 15 (by decide) (by decide) (by decide) (by decide)) (A1 16 (by decide) (by decide) (by decide) (by decide)) (B7 9 (by decide)) (B1 33 (by decide) (by decide) (by decide)) (B1 41 (by decide) (by decide) (by decide)) (B1 42 (by decide) (by decide) (by decide)) hQ
        · exact nR_c (A1 18 (by decide) (by decide) (by decide) (by decide)) (B1 34 (by decide) (by decide) (by decide)) hN
        · refine exR_0 (fun i hi => ?_)
          rw [A1 0 (by decide) (by decide) (by decide) (by decide)] at hi
          have hin : i < moN b := by unfold moN; omega
          have z := (t0 (hR i hin)).2.2.2.2.1
          by_cases e : i = q
          · subst e
            rw [A5q, if_neg (by decide), if_neg (by decide)]; exact z
          · rw [(A5o i e).1]; exact z
        · rw [en] at hi
          have r0 := hO i hi hi5
          unfold tO at *
          rw [(A5o i (by omega)).1, A1 22 (by decide) (by decide) (by decide) (by decide), B1 36 (by decide) (by decide) (by decide), B1 37 (by decide) (by decide) (by decide), B1 38 (by decide) (by decide) (by decide), B1 39 (by decide) (by decide) (by decide), B1 40 (by decide) (by decide) (by decide)]
          exact r0
        · rw [A1 0 (by decide) (by decide) (by decide) (by decide)]; exact ha
        · rw [B7 11 (by decide)]; exact hb
      · have hm := hCx.2.1
        have eA : (bePg a x r le).2 = a := by
          unfold bePg
          rw [ha, if_neg (by rw [hn.2.2.2.2]; omega), if_neg (by omega), if_pos (by omega)]
        have eB : (moAddSeg b x r le).2 = mset b 7 0 0 3 := by
          unfold moAddSeg
          rw [hb, if_neg (by omega), if_neg (by omega), if_pos (by omega)]
        rw [eA, eB]
        exact sR_thr h
    · have eA : (bePg a x r le).2 = a := by
        unfold bePg
        rw [if_neg (by rw [hn.2.2.2.2]; omega), if_pos (by omega)]
      have eB : (moAddSeg b x r le).2 = mset b 7 0 0 2 := by
        unfold moAddSeg
        rw [if_neg (by omega), if_pos (by omega)]
      rw [eA, eB]
      exact sR_thr h
  · have eA : (bePg a x r le).2 = a := by
      unfold bePg
      rw [if_pos (by rw [hn.2.2.2.2]; omega)]
    have eB : (moAddSeg b x r le).2 = mset b 7 0 0 1 := by
      unfold moAddSeg
      rw [if_pos h0]
    rw [eA, eB]
    exact sR_thr h
