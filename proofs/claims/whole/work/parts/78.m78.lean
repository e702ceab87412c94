/-! where class and reference write -/
abbrev LC (t i : Nat) : Prop := ((t = 0 ∨ t = 3 ∨ t = 4 ∨ (11 ≤ t ∧ t ≤ 18)) ∧ i = 0) ∨ ((t = 1 ∨ t = 5 ∨ (19 ≤ t ∧ t ≤ 22)) ∧ i < 5)
abbrev LM (t i : Nat) : Prop := (t = 7 ∨ (30 ≤ t ∧ t ≤ 45)) ∧ i = 0
def cf (a a' : zkM) : Prop := ∀ t i k, ¬ LC t i → a' t i k = a t i k
abbrev LN (t i k : Nat) : Prop := ((t = 7 ∧ k < 28) ∨ (30 ≤ t ∧ t ≤ 43)) ∧ i = 0
def mf (b b' : zkM) : Prop := ∀ t i k, ¬ LN t i k → b' t i k = b t i k
theorem cf_r (a : zkM) : cf a a := fun _ _ _ _ => rfl
theorem mf_r (a : zkM) : mf a a := fun _ _ _ _ => rfl
theorem cf_t {a b c : zkM} (h : cf a b) (g : cf b c) : cf a c := fun t i k hn => (g t i k hn).trans (h t i k hn)
theorem mf_t {a b c : zkM} (h : mf a b) (g : mf b c) : mf a c := fun t i k hn => (g t i k hn).trans (h t i k hn)
theorem cf_m {a a' : zkM} {t i k : Nat} {x : Int} (h : cf a a') (hl : LC t i) : cf a (mset a' t i k x) := by
  intro t' i' k' hn
  rw [← h t' i' k' hn]
  unfold mset
  rw [if_neg]
  rintro ⟨rfl, rfl, -⟩
  exact hn hl
theorem mf_m {a a' : zkM} {t k : Nat} {x : Int} (h : mf a a') (hl : (t = 7 ∧ k < 28) ∨ (30 ≤ t ∧ t ≤ 43)) : mf a (mset a' t 0 k x) := by
  intro t' i' k' hn
  rw [← h t' i' k' hn]
  unfold mset
  rw [if_neg]
  rintro ⟨rfl, rfl, rfl⟩
  exact hn ⟨hl, rfl⟩
theorem cf_lp {f : Nat → zkM → zkM} {n : Nat} (h : ∀ j s, j < n → cf s (f j s)) (a : zkM) : cf a (lp f n a) :=
  lp_inv (fun _ s => cf a s) f n a (cf_r a) (fun j s hj hs => cf_t hs (h j s hj))
theorem mf_lp {f : Nat → zkM → zkM} {n : Nat} (h : ∀ j s, j < n → mf s (f j s)) (a : zkM) : mf a (lp f n a) :=
  lp_inv (fun _ s => mf a s) f n a (mf_r a) (fun j s hj hs => mf_t hs (h j s hj))
/-! the class -/
theorem cf_seRp (a : zkM) (t : Int) : cf a (seRp a t) := by
  unfold seRp
  refine cf_m ?_ (by decide)
  refine lp_inv (fun _ (s : zkM × Int) => cf a s.1) (seRf t) _ (a, 0) (cf_r a) (fun j s _ hs => ?_)
  unfold seRf
  split
  · exact cf_m hs (by decide)
  · exact cf_m (cf_m hs (by decide)) (by decide)
theorem cf_seSt (a : zkM) : cf a (seSt a) := cf_m (cf_m (cf_m (cf_r a) (by decide)) (by decide)) (by decide)
theorem cf_seBg (a : zkM) (p b pe : Int) : cf a (seBg a p b pe) := cf_t (cf_m (cf_m (cf_m (cf_m (cf_r a) (by decide)) (by decide)) (by decide)) (by decide)) (cf_seSt _)
theorem cf_seRu (a : zkM) (t : Int) : cf a (seRu a t) := by
  unfold seRu
  split
  · exact cf_m (cf_m (cf_m (cf_m (cf_m (cf_r a) (by decide)) (by decide)) (by decide)) (by decide)) (by decide)
  · exact cf_m (cf_m (cf_r a) (by decide)) (by decide)
theorem cf_seEn (a : zkM) (e w : Int) : cf a (seEn a e w) := by
  unfold seEn
  split
  · exact cf_r a
  · split
    · exact cf_m (cf_m (cf_m (cf_m (cf_r a) (by decide)) (by decide)) (by decide)) (by decide)
    · exact cf_m (cf_r a) (by decide)
theorem cf_rqSv (a : zkM) (r e : Int) : cf a (rqSv a r e) := by
  unfold rqSv
  split
  · exact cf_r a
  · split
    · exact cf_m (cf_m (cf_r a) (by decide)) (by decide)
    · exact cf_m (cf_r a) (by decide)
theorem cf_rqSt (a : zkM) : cf a (rqSt a) := cf_lp (fun _ s _ => cf_m (cf_m (cf_r s) (by decide)) (by decide)) a
theorem cf_rqAdd (a : zkM) (t le : Int) : cf a (rqAdd a t le).2 := by
  unfold rqAdd
  split
  · exact cf_r a
  · exact cf_m (cf_m (cf_m (cf_m (cf_m (cf_r a) (by decide)) (by decide)) (by decide)) (by decide)) (by decide)
theorem cf_taRl {a : zkM} {i : Nat} (hi : i < 5) (t : Int) : cf a (taRl a i t) := by
  unfold taRl joAdd
  split
  · exact cf_r a
  · split
    · split
      · exact cf_m (cf_m (cf_m (cf_r a) (by omega)) (by omega)) (by omega)
      · exact cf_m (cf_r a) (by omega)
    · exact cf_m (cf_m (cf_m (cf_r a) (by omega)) (by omega)) (by omega)
theorem cf_joRm {a : zkM} {i : Nat} (hi : i < 5) (p : Int) : cf a (joRm a i p) := by
  unfold joRm
  split
  · exact cf_t (cf_m (cf_r a) (by omega)) (cf_lp (fun _ s _ => cf_m (cf_r s) (by omega)) _)
  · exact cf_r a
theorem cf_taMs {a : zkM} {i : Nat} (hi : i < 5) (t po : Int) : cf a (taMs a i t po) := by
  unfold taMs taRj
  split
  · exact cf_r a
  · split
    · split
      · exact cf_m (cf_t (cf_m (cf_m (cf_m (cf_r a) (by omega)) (by omega)) (by omega)) (cf_joRm hi _)) (by omega)
      · exact cf_m (cf_t (cf_m (cf_r a) (by omega)) (cf_joRm hi _)) (by omega)
    · split
      · exact cf_m (cf_m (cf_r a) (by omega)) (by omega)
      · exact cf_m (cf_r a) (by omega)
theorem cf_taRu {a : zkM} {i : Nat} (hi : i < 5) (e : Int) : cf a (taRu a i e).2 := by
  have h1 : cf a (taR1 a i) := by
    unfold taR1
    split
    · exact cf_m (cf_m (cf_m (cf_r a) (by omega)) (by omega)) (by omega)
    · exact cf_m (cf_r a) (by omega)
  unfold taRu
  split
  · exact cf_r a
  · split
    · exact h1
    · show cf a (taFj (taR1 a i) i _)
      unfold taFj
      refine cf_m (cf_m (cf_m (cf_m ?_ (by omega)) (by omega)) (by omega)) (by omega)
      unfold joRmF
      split
      · exact cf_m h1 (by omega)
      · exact h1
theorem cf_taSt {a : zkM} {i : Nat} (hi : i < 5) : cf a (taSt a i) := by
  unfold taSt
  exact cf_t (cf_m (cf_m (cf_m (cf_m (cf_m (cf_m (cf_m (cf_r a) (by omega)) (by omega)) (by omega)) (by omega)) (by omega)) (by omega)) (by omega)) (cf_lp (fun _ s _ => cf_m (cf_r s) (by omega)) _)
theorem cf_beNp {a : zkM} (h5 : a 0 0 5 ≤ 5) (c : Int) : cf a (beNp a c) := by
  unfold beNp
  split
  · exact cf_m (cf_r a) (by omega)
  · exact cf_r a
theorem cf_beMk {a : zkM} (h5 : a 0 0 5 ≤ 5) : cf a (beMk a).2 := by
  have h1 : cf a (beU1 a) := cf_seRp a _
  have h2 : cf a (beU2 a) := cf_t h1 (cf_lp (fun j s hj => cf_taRl (by omega) _) _)
  have h3 : cf a (beU3 a) := cf_t h2 (cf_lp (fun j s hj => cf_taMs (by omega) _ _) _)
  have e3 : beU3 a 0 0 5 = a 0 0 5 := beU3_0 a 0 5
  have h4 : cf a (beU4 a) := by
    unfold beU4
    exact cf_m (cf_m (cf_t h3 (cf_beNp (by omega) _)) (by decide)) (by decide)
  have h5' : cf a (beU5 a).2 := by
    unfold beU5
    split
    · exact cf_t h4 (cf_t (cf_seRu _ _) (cf_rqSv _ _ _))
    · split
      · exact cf_t h4 (cf_taRu (by omega) _)
      · exact h4
  exact cf_t h5' (cf_seEn _ _ _)
theorem cf_units {a : zkM} (h5 : a 0 0 5 ≤ 5) : ∀ j : Nat, cf a (lp beMs j (0, a)).2 ∧ (lp beMs j (0, a)).2 0 0 5 = a 0 0 5
  | 0 => ⟨cf_r a, rfl⟩
  | j + 1 => by
    obtain ⟨i1, i2⟩ := cf_units h5 j
    refine ⟨cf_t i1 (cf_beMk (by rw [i2]; exact h5)), ?_⟩
    show (beMk (lp beMs j (0, a)).2).2 0 0 5 = a 0 0 5
    rw [← i2]
    generalize (lp beMs j (0, a)).2 = m
    have e4 : beU4 m 0 0 5 = m 0 0 5 := by
      show beNp (beU3 m) (beCh m) 0 0 5 = m 0 0 5
      rw [beNp_f (by decide), beU3_0]
    have e5 : (beU5 m).2 0 0 5 = m 0 0 5 := by
      unfold beU5
      split
      · rw [← e4]
        show rqSv (seRu (beU4 m) _) _ _ 0 0 5 = _
        rw [rqSv_f (by decide), seRu_f (by decide)]
      · split
        · rw [← e4]
          exact taRu_f (Or.inl (by decide)) _ _ _
        · exact e4
    rw [← e5]
    exact seEn_f (by decide) _ _ _ _
theorem cf_run {a : zkM} (h5 : a 0 0 5 ≤ 5) (u : Int) : cf a (caRun a u).2 := by
  unfold caRun
  split
  · exact cf_r a
  · split
    · exact cf_r a
    · exact (cf_units h5 _).1
theorem cf_beSt {a : zkM} (h5 : a 0 0 5 ≤ 5) : cf a (beSt a).2 := by
  unfold beSt
  refine cf_m (cf_t ?_ (cf_t (cf_seSt _) (cf_rqSt _))) (by decide)
  exact cf_lp (fun j s hj => cf_taSt (by omega)) a
theorem cf_beRm {a : zkM} (h5 : a 0 0 5 ≤ 5) : cf a (beRm a).2 := by
  unfold beRm
  exact cf_t (cf_m (cf_m (cf_m (cf_m (cf_beSt h5) (by decide)) (by decide)) (by decide)) (by decide)) (cf_lp (fun _ s _ => cf_m (cf_r s) (by decide)) _)
theorem cf_bePt {a : zkM} (p pe dl o : Int) : cf a (bePt a p pe dl o).2 := by
  unfold bePt
  split
  · exact cf_r a
  · split
    · exact cf_r a
    · next h =>
      split
      · exact cf_r a
      · have hi : (a 0 0 5).toNat < 5 := by omega
        refine cf_m ?_ (by decide)
        unfold taBg
        exact cf_t (cf_m (cf_m (cf_m (cf_m (cf_m (cf_m (cf_r a) (by omega)) (by omega)) (by omega)) (by omega)) (by omega)) (by omega)) (cf_taSt hi)
theorem cf_taAp {a : zkM} {i : Nat} (hi : i < 5) (r le : Int) : cf a (taAp a i r le) := by
  unfold taAp
  split
  · exact cf_m (cf_m (cf_m (cf_m (cf_r a) (by omega)) (by omega)) (by omega)) (by omega)
  · exact cf_r a
theorem cf_bePg {a : zkM} (h5 : a 0 0 5 ≤ 5) (x r le : Int) : cf a (bePg a x r le).2 := by
  unfold bePg
  split
  · exact cf_r a
  · split
    · exact cf_r a
    · split
      · exact cf_r a
      · split
        · exact cf_taAp (by omega) _ _
        · exact cf_m (cf_taAp (by omega) _ _) (by decide)
theorem cf_bePv {a : zkM} (p b pe : Int) : cf a (bePv a p b pe).2 := by
  unfold bePv
  split
  · exact cf_r a
  · split
    · exact cf_r a
    · split
      · exact cf_r a
      · split <;> exact cf_seBg _ _ _ _
theorem cf_bePq {a : zkM} (t le : Int) : cf a (bePq a t le).2 := by
  unfold bePq
  split
  · exact cf_r a
  · split
    · exact cf_r a
    · exact cf_rqAdd _ _ _
theorem cf_bePp {a : zkM} (p : Int) : cf a (bePp a p).2 := by
  unfold bePp
  split
  · exact cf_r a
  · exact cf_m (cf_r a) (by decide)
/-! the reference -/
theorem mf_moRs (b : zkM) : mf b (moRs b) := by
  unfold moRs
  have h1 : mf b (mset b 7 0 11 0) := mf_m (mf_r b) (by omega)
  have h2 : mf b (lp moR1 5 (mset b 7 0 11 0)) := mf_t h1 (mf_lp (f := moR1) (fun _ s _ => mf_m (t := 40) (mf_m (t := 38) (mf_m (t := 37) (mf_m (t := 36) (mf_r s) (by omega)) (by omega)) (by omega)) (by omega)) _)
  generalize lp moR1 5 (mset b 7 0 11 0) = A at *
  have h3 : mf b (lp moR2 30 A) := mf_t h2 (mf_lp (f := moR2) (fun _ s _ => mf_m (t := 39) (mf_r s) (by omega)) _)
  generalize lp moR2 30 A = B at *
  have h4 : mf b (moRm B) := mf_m (t := 7) (mf_m (t := 7) (mf_m (t := 7) (mf_m (t := 7) h3 (by omega)) (by omega)) (by omega)) (by omega)
  exact mf_t h4 (mf_lp (f := moR3) (fun _ s _ => mf_m (t := 42) (mf_m (t := 41) (mf_r s) (by omega)) (by omega)) _)
theorem mf_moClear (b : zkM) : mf b (moClear b).2 := mf_t (mf_m (mf_m (mf_m (mf_m (mf_m (mf_m (mf_r b) (by omega)) (by omega)) (by omega)) (by omega)) (by omega)) (by omega)) (mf_moRs _)
theorem mf_moAddTask (b : zkM) (p pe dl o : Int) : mf b (moAddTask b p pe dl o).2 := by
  unfold moAddTask
  split
  · exact mf_m (mf_m (mf_r b) (by omega)) (by omega)
  · split
    · exact mf_m (mf_m (mf_r b) (by omega)) (by omega)
    · split
      · exact mf_m (mf_m (mf_r b) (by omega)) (by omega)
      · exact mf_m (mf_m (mf_m (mf_m (mf_m (mf_m (mf_m (mf_r b) (by omega)) (by omega)) (by omega)) (by omega)) (by omega)) (by omega)) (by omega)
theorem mf_moAddSeg (b : zkM) (x r le : Int) : mf b (moAddSeg b x r le).2 := by
  unfold moAddSeg
  split
  · exact mf_m (mf_r b) (by omega)
  · split
    · exact mf_m (mf_r b) (by omega)
    · split
      · exact mf_m (mf_r b) (by omega)
      · exact mf_m (mf_m (mf_m (mf_m (mf_r b) (by omega)) (by omega)) (by omega)) (by omega)
theorem mf_moSetS (b : zkM) (p bu pe : Int) : mf b (moSetS b p bu pe).2 := by
  unfold moSetS
  split
  · exact mf_m (mf_r b) (by omega)
  · split
    · exact mf_m (mf_r b) (by omega)
    · split
      · exact mf_m (mf_r b) (by omega)
      · exact mf_m (mf_m (mf_m (mf_m (mf_m (mf_r b) (by omega)) (by omega)) (by omega)) (by omega)) (by omega)
theorem mf_moReq (b : zkM) (t le : Int) : mf b (moReq b t le).2 := by
  unfold moReq
  split
  · exact mf_m (mf_m (mf_r b) (by omega)) (by omega)
  · split
    · exact mf_m (mf_m (mf_r b) (by omega)) (by omega)
    · exact mf_m (mf_m (mf_m (mf_m (mf_m (mf_m (mf_r b) (by omega)) (by omega)) (by omega)) (by omega)) (by omega)) (by omega)
theorem mf_moSetP (b : zkM) (p : Int) : mf b (moSetP b p).2 := by
  unfold moSetP
  split
  · exact mf_m (mf_m (mf_r b) (by omega)) (by omega)
  · exact mf_m (mf_m (mf_r b) (by omega)) (by omega)
theorem mf_moRepl (b : zkM) : mf b (moRepl b) := by
  unfold moRepl
  refine mf_m ?_ (by omega)
  refine lp_inv (fun _ (s : Nat × zkM) => mf b s.2) moF1 _ (0, b) (mf_r b) (fun j s _ hs => ?_)
  unfold moF1
  split
  · exact mf_m hs (by omega)
  · exact mf_m (mf_m hs (by omega)) (by omega)
theorem mf_moRel (b : zkM) : mf b (moRel b) := by
  unfold moRel
  refine mf_lp (fun j s _ => ?_) b
  unfold moF2
  split
  · split
    · exact mf_m (mf_m (mf_r s) (by omega)) (by omega)
    · exact mf_m (mf_m (mf_r s) (by omega)) (by omega)
  · exact mf_r s
theorem mf_moTJ (b : zkM) (t ix : Nat) : mf b (moTJ b t ix) := by
  unfold moTJ moTJ2
  exact mf_m (mf_t (mf_m (mf_r b) (by omega)) (mf_lp (f := moF3 t ix) (fun _ s _ => mf_m (mf_r s) (by omega)) _)) (by omega)
theorem mf_moMeet (b : zkM) : mf b (moMeet b) := by
  unfold moMeet
  refine mf_lp (fun j s _ => ?_) b
  unfold moF5
  refine mf_lp (fun j' s' _ => ?_) s
  unfold moF4 moMf
  split
  · split
    · unfold moM2 moM1
      exact mf_t (mf_m (mf_m (mf_m (mf_r s') (by omega)) (by omega)) (by omega)) (mf_moTJ _ _ _)
    · exact mf_m (mf_m (mf_r s') (by omega)) (by omega)
  · exact mf_r s'
theorem mf_moUnit (b : zkM) : mf b (moUnit b).2 := by
  have h3 : mf b (moS3 b) := mf_t (mf_t (mf_moRepl b) (mf_moRel _)) (mf_moMeet _)
  have h4 : mf b (moS4 b) := by
    unfold moS4
    refine mf_m (mf_t h3 ?_) (by omega)
    unfold moPre
    split
    · exact mf_m (mf_r _) (by omega)
    · exact mf_r _
  have h5 : mf b (moS5 b).2 := by
    unfold moS5
    split
    · refine mf_t h4 ?_
      show mf _ (moServe _ _)
      unfold moServe moV3 moV2 moV1
      refine mf_m (mf_m (mf_m (mf_m ?_ (by omega)) (by omega)) (by omega)) (by omega)
      split
      · exact mf_m (mf_m (mf_m (mf_r _) (by omega)) (by omega)) (by omega)
      · exact mf_r _
    · split
      · exact h4
      · refine mf_t h4 ?_
        unfold moRJ
        split
        · exact mf_m (mf_r _) (by omega)
        · show mf _ (moTJ _ _ _)
          unfold moJ4 moJ3 moJ2 moJ1
          exact mf_t (mf_m (mf_m (mf_m (mf_m (mf_r _) (by omega)) (by omega)) (by omega)) (by omega)) (mf_moTJ _ _ _)
  have h6 : mf b (moS6 b) := mf_m h5 (by omega)
  refine mf_t h6 ?_
  show mf _ (moEB _)
  unfold moEB
  split
  · exact mf_m (mf_m (mf_m (mf_m (mf_r _) (by omega)) (by omega)) (by omega)) (by omega)
  · exact mf_r _
theorem mf_moRun (b : zkM) (u : Int) : mf b (moRun b u).2 := by
  unfold moRun
  split
  · exact mf_m (mf_m (mf_r b) (by omega)) (by omega)
  · split
    · exact mf_m (mf_m (mf_r b) (by omega)) (by omega)
    · refine lp_inv (fun _ (s : Int × zkM) => mf b s.2) moUf1 _ _ (mf_m (mf_r b) (by omega)) (fun j s _ hs => ?_)
      exact mf_t hs (mf_moUnit _)
