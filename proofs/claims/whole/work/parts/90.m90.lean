/-! the invariant of the law's loop, and what each call does to it -/
def zInv (m : zkM) : Prop := (∃ T, sR m m T) ∧ rR m m ∧ (m 6 0 3 = m 7 0 34 ∧ (m 6 0 3 = 0 ∨ m 6 0 3 = 1)) ∧ (m 6 0 3 = 1 → ∃ T, sR (kpt m) (kpt m) T) ∧ ((∀ i, i < 5 → m 5 (5 * 1 + i) 11 = 0 ∨ m 5 (5 * 1 + i) 11 = 1) ∧ (m 4 1 3 = 0 ∨ m 4 1 3 = 1) ∧ (m 4 1 8 = 0 ∨ m 4 1 8 = 1)) ∧ inR (m 7 0 0)
def gO (f g : zkM) : Prop := ∀ t i k, t ≠ 50 → t ≠ 51 → g t i k = f t i k
theorem gO_r (f : zkM) : gO f f := fun _ _ _ _ _ => rfl
theorem gO_50 (f : zkM) (x : Int) : gO f (mset f 50 0 0 x) := fun t i k h _ => ms_t h _ _ _ _ _ _
theorem gO_51 (f : zkM) (x : Int) : gO f (mset f 51 0 0 x) := fun t i k _ h => ms_t h _ _ _ _ _ _
theorem fr_g {m f g : zkM} (hc : cf m f) (hg : gO f g) : lm m g := by
  refine ⟨fun k _ _ => ?_, fun t h1 h2 => ?_⟩
  · rw [hg 7 0 k (by decide) (by decide), hc 7 0 k (by omega)]
  · funext k
    rw [hg t 0 k (by omega) (by omega), hc t 0 k (by omega)]
theorem fr_f {f g m2 : zkM} (hg : gO f g) (hm : mf g m2) : lv f m2 := by
  refine ⟨fun t ht => ?_, fun t i ht hi => ?_⟩
  · funext k
    rw [hm t 0 k (by omega), hg t 0 k (by omega) (by omega)]
  · funext k
    rw [hm t i k (by omega), hg t i k (by omega) (by omega)]
theorem zInv_fin {m f g m2 : zkM} (hI : zInv m) (hc : cf m f) (hg : gO f g) (hm : mf g m2) (hs : ∃ T, sR f m2 T) (h0 : inR (m2 7 0 0)) : zInv m2 := by
  obtain ⟨-, hr, hk, hkp, hb, -⟩ := hI
  have e : ∀ t i k, ¬ LC t i → ¬ LN t i k → t ≠ 50 → t ≠ 51 → m2 t i k = m t i k := by
    intro t i k h1 h2 h3 h4
    rw [hm t i k h2, hg t i k h3 h4, hc t i k h1]
  obtain ⟨T, hsT⟩ := hs
  refine ⟨⟨T, sR_lv (fr_f hg hm) (lm_r m2) hsT⟩, ?_, ?_, ?_, ?_, h0⟩
  · obtain ⟨r1, r2, r3, r4, r5, r6, r7⟩ := hr
    unfold rR
    rw [e 2 0 2 (by omega) (by omega) (by decide) (by decide), e 7 0 28 (by omega) (by omega) (by decide) (by decide), e 6 0 4 (by omega) (by omega) (by decide) (by decide), e 7 0 32 (by omega) (by omega) (by decide) (by decide), e 2 0 3 (by omega) (by omega) (by decide) (by decide), e 2 0 4 (by omega) (by omega) (by decide) (by decide)]
    refine ⟨r1, fun k hk => ?_, r3, r4, r5, fun k hk => ?_, fun k hk => ?_⟩
    · rw [e 23 0 k (by omega) (by omega) (by decide) (by decide), e 44 0 k (by omega) (by omega) (by decide) (by decide)]; exact r2 k hk
    · rw [e 24 0 k (by omega) (by omega) (by decide) (by decide)]; exact r6 k hk
    · rw [e 45 0 k (by omega) (by omega) (by decide) (by decide)]; exact r7 k hk
  · rw [e 6 0 3 (by omega) (by omega) (by decide) (by decide), e 7 0 34 (by omega) (by omega) (by decide) (by decide)]; exact hk
  · rw [e 6 0 3 (by omega) (by omega) (by decide) (by decide)]
    intro h1
    obtain ⟨T', hT'⟩ := hkp h1
    refine ⟨T', sR_lw (fun t i k hL hkc => ?_) (fun t k hk => ?_) hT'⟩
    · rw [kpt_c hL hkc, kpt_c hL hkc]
      by_cases hT : tgT t
      · rw [if_pos hT, if_pos hT, e t _ k (by omega) (by omega) (by omega) (by omega)]
      · rw [if_neg hT, if_neg hT, e t _ k (by omega) (by omega) (by omega) (by omega)]
    · rw [kpt_m hk, kpt_m hk, e 46 0 _ (by omega) (by omega) (by decide) (by decide)]
  · rw [e 4 1 3 (by omega) (by omega) (by decide) (by decide), e 4 1 8 (by omega) (by omega) (by decide) (by decide)]
    exact ⟨fun i hi => by rw [e 5 _ 11 (by omega) (by omega) (by decide) (by decide)]; exact hb.1 i hi, hb.2⟩
/-- what is known behind a call of both sides -/
def opC (m g m2 : zkM) (ans c : Int) : Prop := (m2 7 0 0 = c ∧ inR c) ∧ (c = 0 → m2 50 0 0 = ans ∧ inR ans) ∧ zInv m2 ∧ ∃ T, sR m m T ∧ sR m g T
theorem opC_of {m f g m2 : zkM} {ans c T : Int} (hI : zInv m) (hT : sR m m T) (hc : cf m f) (hg : gO f g) (hm : mf g m2) (hs : ∃ T, sR f m2 T) (h0 : m2 7 0 0 = c) (hcr : 0 ≤ c ∧ c ≤ 3) (ha : c = 0 → g 50 0 0 = ans ∧ inR ans) : opC m g m2 ans c := by
  refine ⟨⟨h0, by unfold inR; omega⟩, fun h => ?_, zInv_fin hI hc hg hm hs (by rw [h0]; unfold inR; omega), T, hT, sR_lv (lv_r m) (fr_g hc hg) hT⟩
  rw [hm 50 0 0 (by omega)]
  exact ha h
/-- a call that asks -/
def qf (b m2 : zkM) : Prop := ∀ t i k, ¬ (t = 7 ∧ i = 0 ∧ k = 0) → m2 t i k = b t i k
theorem qf_1 (b : zkM) (x : Int) : qf b (mset b 7 0 0 x) := by
  intro t i k h
  simp only [mset]
  rw [if_neg h]
theorem qf_2 (b : zkM) (x y : Int) : qf b (mset (mset b 7 0 0 x) 7 0 0 y) := by
  intro t i k h
  simp only [mset]
  rw [if_neg h, if_neg h]
theorem qf_mf {b m2 : zkM} (h : qf b m2) : mf b m2 := fun t i k hn => h t i k (by omega)
theorem qf_lm {b m2 : zkM} (h : qf b m2) : lm b m2 := ⟨fun k h0 _ => h 7 0 k (by omega), fun t h1 _ => by funext k; exact h t 0 k (by omega)⟩
theorem opC_q {m g m2 : zkM} {ans c T : Int} (hI : zInv m) (hT : sR m m T) (hg : gO m g) (hq : qf g m2) (h0 : m2 7 0 0 = c) (hcr : 0 ≤ c ∧ c ≤ 3) (ha : c = 0 → g 50 0 0 = ans ∧ inR ans) : opC m g m2 ans c :=
  opC_of hI hT (cf_r m) hg (qf_mf hq) ⟨T, sR_lv (lv_r m) (qf_lm hq) (sR_lv (lv_r m) (fr_g (cf_r m) hg) hT)⟩ h0 hcr ha

/-! the configuring calls -/
theorem op_addTask {m : zkM} (hI : zInv m) (p pe dl o : Int) : ∃ (g : zkM) (c : Int), ((∃ v : Int, caAc (bePt m p pe dl o).1 = Sum.inl (some (vi v)) ∧ inR v ∧ c = 0 ∧ g = mset (bePt m p pe dl o).2 50 0 0 v) ∨ (caAc (bePt m p pe dl o).1 = Sum.inr xIA ∧ c = 1 ∧ g = (bePt m p pe dl o).2) ∨ (caAc (bePt m p pe dl o).1 = Sum.inr xIS ∧ c = 2 ∧ g = (bePt m p pe dl o).2) ∨ (caAc (bePt m p pe dl o).1 = Sum.inr xUO ∧ c = 3 ∧ g = (bePt m p pe dl o).2)) ∧ opC m g (moAddTask g p pe dl o).2 (moAddTask g p pe dl o).1 c ∧ inR (bePt m p pe dl o).1 := by
  obtain ⟨T, hT⟩ := hI.1
  have hn := aq_n hT
  have hc : cf m (bePt m p pe dl o).2 := cf_bePt p pe dl o
  have key : ∀ g, gO (bePt m p pe dl o).2 g → sR m g T ∧ sR (bePt m p pe dl o).2 (moAddTask g p pe dl o).2 T := fun g hg => by
    have h1 := sR_lv (lv_r m) (fr_g hc hg) hT
    exact ⟨h1, st_put h1 p pe dl o⟩
  have h1 := key _ (gO_r _)
  rcases ag_put h1.1 p pe dl o with ⟨e1, e2⟩ | ⟨e1, e2⟩ | ⟨e1, e2⟩ | ⟨e0, e1, e2⟩
  · exact ⟨_, 1, Or.inr (Or.inl (⟨by rw [e1]; rfl, rfl, rfl⟩)), opC_of hI hT hc (gO_r _) (mf_moAddTask _ _ _ _ _) ⟨T, h1.2⟩ e2 (by omega) (fun h => absurd h (by decide)), by rw [e1]; decide⟩
  · exact ⟨_, 2, Or.inr (Or.inr (Or.inl (⟨by rw [e1]; rfl, rfl, rfl⟩))), opC_of hI hT hc (gO_r _) (mf_moAddTask _ _ _ _ _) ⟨T, h1.2⟩ e2 (by omega) (fun h => absurd h (by decide)), by rw [e1]; decide⟩
  · exact ⟨_, 3, Or.inr (Or.inr (Or.inr (⟨by rw [e1]; rfl, rfl, rfl⟩))), opC_of hI hT hc (gO_r _) (mf_moAddTask _ _ _ _ _) ⟨T, h1.2⟩ e2 (by omega) (fun h => absurd h (by decide)), by rw [e1]; decide⟩
  · have hg := gO_50 (bePt m p pe dl o).2 (bePt m p pe dl o).1
    have h2 := key _ hg
    rcases ag_put h2.1 p pe dl o with ⟨f1, f2⟩ | ⟨f1, f2⟩ | ⟨f1, f2⟩ | ⟨f0, f1, f2⟩
    · omega
    · omega
    · omega
    · refine ⟨_, 0, Or.inl ⟨(bePt m p pe dl o).1, ?_, by unfold inR; omega, rfl, rfl⟩, opC_of hI hT hc hg (mf_moAddTask _ _ _ _ _) ⟨T, h2.2⟩ f2 (by omega) (fun _ => ⟨by rw [ms_s]; exact f1, by rw [← f1]; unfold inR; omega⟩), by unfold inR; omega⟩
      unfold caAc
      rw [if_neg (by omega), if_neg (by omega), if_neg (by omega), if_neg (by omega)]
theorem op_addSegment {m : zkM} (hI : zInv m) (x r le : Int) : ∃ (g : zkM) (c : Int), ((∃ v : Int, caAc (bePg m x r le).1 = Sum.inl (some (vi v)) ∧ inR v ∧ c = 0 ∧ g = mset (bePg m x r le).2 50 0 0 v) ∨ (caAc (bePg m x r le).1 = Sum.inr xIO ∧ c = 1 ∧ g = (bePg m x r le).2) ∨ (caAc (bePg m x r le).1 = Sum.inr xIA ∧ c = 2 ∧ g = (bePg m x r le).2) ∨ (caAc (bePg m x r le).1 = Sum.inr xIS ∧ c = 3 ∧ g = (bePg m x r le).2)) ∧ opC m g (moAddSeg g x r le).2 (moAddSeg g x r le).1 c ∧ inR (bePg m x r le).1 := by
  obtain ⟨T, hT⟩ := hI.1
  have hn := aq_n hT
  have hc : cf m (bePg m x r le).2 := cf_bePg (by omega) x r le
  have key : ∀ g, gO (bePg m x r le).2 g → sR m g T ∧ sR (bePg m x r le).2 (moAddSeg g x r le).2 T := fun g hg => by
    have h1 := sR_lv (lv_r m) (fr_g hc hg) hT
    exact ⟨h1, st_seg h1 x r le⟩
  have h1 := key _ (gO_r _)
  rcases ag_seg h1.1 x r le with ⟨e1, e2⟩ | ⟨e1, e2⟩ | ⟨e1, e2⟩ | ⟨e0, e1, e2⟩
  · exact ⟨_, 1, Or.inr (Or.inl (⟨by rw [e1]; rfl, rfl, rfl⟩)), opC_of hI hT hc (gO_r _) (mf_moAddSeg _ _ _ _) ⟨T, h1.2⟩ e2 (by omega) (fun h => absurd h (by decide)), by rw [e1]; decide⟩
  · exact ⟨_, 2, Or.inr (Or.inr (Or.inl (⟨by rw [e1]; rfl, rfl, rfl⟩))), opC_of hI hT hc (gO_r _) (mf_moAddSeg _ _ _ _) ⟨T, h1.2⟩ e2 (by omega) (fun h => absurd h (by decide)), by rw [e1]; decide⟩
  · exact ⟨_, 3, Or.inr (Or.inr (Or.inr (⟨by rw [e1]; rfl, rfl, rfl⟩))), opC_of hI hT hc (gO_r _) (mf_moAddSeg _ _ _ _) ⟨T, h1.2⟩ e2 (by omega) (fun h => absurd h (by decide)), by rw [e1]; decide⟩
  · have hg := gO_50 (bePg m x r le).2 (bePg m x r le).1
    have h2 := key _ hg
    rcases ag_seg h2.1 x r le with ⟨f1, f2⟩ | ⟨f1, f2⟩ | ⟨f1, f2⟩ | ⟨f0, f1, f2⟩
    · omega
    · omega
    · omega
    · refine ⟨_, 0, Or.inl ⟨(bePg m x r le).1, ?_, by unfold inR; omega, rfl, rfl⟩, opC_of hI hT hc hg (mf_moAddSeg _ _ _ _) ⟨T, h2.2⟩ f2 (by omega) (fun _ => ⟨by rw [ms_s]; exact f1, by rw [← f1]; unfold inR; omega⟩), by unfold inR; omega⟩
      unfold caAc
      rw [if_neg (by omega), if_neg (by omega), if_neg (by omega), if_neg (by omega)]
theorem op_request {m : zkM} (hI : zInv m) (t le : Int) : ∃ (g : zkM) (c : Int), ((∃ v : Int, caAc (bePq m t le).1 = Sum.inl (some (vi v)) ∧ inR v ∧ c = 0 ∧ g = mset (bePq m t le).2 50 0 0 v) ∨ (caAc (bePq m t le).1 = Sum.inr xIA ∧ c = 1 ∧ g = (bePq m t le).2) ∨ (caAc (bePq m t le).1 = Sum.inr xIS ∧ c = 2 ∧ g = (bePq m t le).2)) ∧ opC m g (moReq g t le).2 (moReq g t le).1 c ∧ inR (bePq m t le).1 := by
  obtain ⟨T, hT⟩ := hI.1
  have hn := aq_n hT
  have hc : cf m (bePq m t le).2 := cf_bePq t le
  have key : ∀ g, gO (bePq m t le).2 g → sR m g T ∧ sR (bePq m t le).2 (moReq g t le).2 T := fun g hg => by
    have h1 := sR_lv (lv_r m) (fr_g hc hg) hT
    exact ⟨h1, st_req h1 t le⟩
  have h1 := key _ (gO_r _)
  rcases ag_req h1.1 t le with ⟨e1, e2⟩ | ⟨e1, e2⟩ | ⟨e0, e1, e2⟩
  · exact ⟨_, 1, Or.inr (Or.inl (⟨by rw [e1]; rfl, rfl, rfl⟩)), opC_of hI hT hc (gO_r _) (mf_moReq _ _ _) ⟨T, h1.2⟩ e2 (by omega) (fun h => absurd h (by decide)), by rw [e1]; decide⟩
  · exact ⟨_, 2, Or.inr (Or.inr (⟨by rw [e1]; rfl, rfl, rfl⟩)), opC_of hI hT hc (gO_r _) (mf_moReq _ _ _) ⟨T, h1.2⟩ e2 (by omega) (fun h => absurd h (by decide)), by rw [e1]; decide⟩
  · have hg := gO_50 (bePq m t le).2 (bePq m t le).1
    have h2 := key _ hg
    rcases ag_req h2.1 t le with ⟨f1, f2⟩ | ⟨f1, f2⟩ | ⟨f0, f1, f2⟩
    · omega
    · omega
    · refine ⟨_, 0, Or.inl ⟨(bePq m t le).1, ?_, by unfold inR; omega, rfl, rfl⟩, opC_of hI hT hc hg (mf_moReq _ _ _) ⟨T, h2.2⟩ f2 (by omega) (fun _ => ⟨by rw [ms_s]; exact f1, by rw [← f1]; unfold inR; omega⟩), by unfold inR; omega⟩
      unfold caAc
      rw [if_neg (by omega), if_neg (by omega), if_neg (by omega), if_neg (by omega)]
theorem op_setPolicy {m : zkM} (hI : zInv m) (p : Int) : ∃ (g : zkM) (c : Int), ((∃ v : Int, caAc (bePp m p).1 = Sum.inl (some (vi v)) ∧ inR v ∧ c = 0 ∧ g = mset (bePp m p).2 50 0 0 v) ∨ (caAc (bePp m p).1 = Sum.inr xIA ∧ c = 1 ∧ g = (bePp m p).2)) ∧ opC m g (moSetP g p).2 (moSetP g p).1 c ∧ inR (bePp m p).1 := by
  obtain ⟨T, hT⟩ := hI.1
  have hn := aq_n hT
  have hc : cf m (bePp m p).2 := cf_bePp p
  have key : ∀ g, gO (bePp m p).2 g → sR m g T ∧ sR (bePp m p).2 (moSetP g p).2 T := fun g hg => by
    have h1 := sR_lv (lv_r m) (fr_g hc hg) hT
    exact ⟨h1, st_pol h1 p⟩
  have h1 := key _ (gO_r _)
  rcases ag_pol h1.1 p with ⟨e1, e2⟩ | ⟨e0, e1, e2⟩
  · exact ⟨_, 1, Or.inr (⟨by rw [e1]; rfl, rfl, rfl⟩), opC_of hI hT hc (gO_r _) (mf_moSetP _ _) ⟨T, h1.2⟩ e2 (by omega) (fun h => absurd h (by decide)), by rw [e1]; decide⟩
  · have hg := gO_50 (bePp m p).2 (bePp m p).1
    have h2 := key _ hg
    rcases ag_pol h2.1 p with ⟨f1, f2⟩ | ⟨f0, f1, f2⟩
    · omega
    · refine ⟨_, 0, Or.inl ⟨(bePp m p).1, ?_, by unfold inR; omega, rfl, rfl⟩, opC_of hI hT hc hg (mf_moSetP _ _) ⟨T, h2.2⟩ f2 (by omega) (fun _ => ⟨by rw [ms_s]; exact f1, by rw [← f1]; unfold inR; omega⟩), by unfold inR; omega⟩
      unfold caAc
      rw [if_neg (by omega), if_neg (by omega), if_neg (by omega), if_neg (by omega)]
theorem op_setServer {m : zkM} (hI : zInv m) (p bu pe : Int) : ∃ (g : zkM) (c : Int), ((∃ v : Bool, caAb (bePv m p bu pe).1 = Sum.inl (some (vi (b2i v))) ∧ True ∧ c = 0 ∧ g = mset (bePv m p bu pe).2 50 0 0 (b2i v)) ∨ (caAb (bePv m p bu pe).1 = Sum.inr xIA ∧ c = 1 ∧ g = (bePv m p bu pe).2) ∨ (caAb (bePv m p bu pe).1 = Sum.inr xIS ∧ c = 2 ∧ g = (bePv m p bu pe).2) ∨ (caAb (bePv m p bu pe).1 = Sum.inr xUO ∧ c = 3 ∧ g = (bePv m p bu pe).2)) ∧ opC m g (moSetS g p bu pe).2 (b2i (moSetS g p bu pe).1) c ∧ inR (bePv m p bu pe).1 := by
  obtain ⟨T, hT⟩ := hI.1
  have hc : cf m (bePv m p bu pe).2 := cf_bePv p bu pe
  have key : ∀ g, gO (bePv m p bu pe).2 g → sR m g T ∧ sR (bePv m p bu pe).2 (moSetS g p bu pe).2 T := fun g hg => by
    have h1 := sR_lv (lv_r m) (fr_g hc hg) hT
    exact ⟨h1, st_srv h1 p bu pe⟩
  have h1 := key _ (gO_r _)
  rcases ag_srv h1.1 p bu pe with ⟨e1, e2⟩ | ⟨e1, e2⟩ | ⟨e1, e2⟩ | ⟨e0, e1, e2⟩
  · exact ⟨_, 1, Or.inr (Or.inl ⟨by rw [e1]; rfl, rfl, rfl⟩), opC_of hI hT hc (gO_r _) (mf_moSetS _ _ _ _) ⟨T, h1.2⟩ e2 (by omega) (fun h => absurd h (by decide)), by rw [e1]; decide⟩
  · exact ⟨_, 2, Or.inr (Or.inr (Or.inl ⟨by rw [e1]; rfl, rfl, rfl⟩)), opC_of hI hT hc (gO_r _) (mf_moSetS _ _ _ _) ⟨T, h1.2⟩ e2 (by omega) (fun h => absurd h (by decide)), by rw [e1]; decide⟩
  · exact ⟨_, 3, Or.inr (Or.inr (Or.inr ⟨by rw [e1]; rfl, rfl, rfl⟩)), opC_of hI hT hc (gO_r _) (mf_moSetS _ _ _ _) ⟨T, h1.2⟩ e2 (by omega) (fun h => absurd h (by decide)), by rw [e1]; decide⟩
  · have hv : (bePv m p bu pe).1 = b2i (decide ((bePv m p bu pe).1 = 1)) := by
      rcases e0 with e0 | e0 <;> rw [e0] <;> rfl
    have hg := gO_50 (bePv m p bu pe).2 (b2i (decide ((bePv m p bu pe).1 = 1)))
    have h2 := key _ hg
    rcases ag_srv h2.1 p bu pe with ⟨f1, f2⟩ | ⟨f1, f2⟩ | ⟨f1, f2⟩ | ⟨f0, f1, f2⟩
    · omega
    · omega
    · omega
    · refine ⟨_, 0, Or.inl ⟨decide ((bePv m p bu pe).1 = 1), ?_, trivial, rfl, rfl⟩, opC_of hI hT hc hg (mf_moSetS _ _ _ _) ⟨T, h2.2⟩ f2 (by omega) (fun _ => ⟨by rw [ms_s]; exact hv.symm.trans f1, by rw [← f1]; unfold inR; omega⟩), by unfold inR; omega⟩
      unfold caAb
      rw [if_neg (by omega), if_neg (by omega), if_neg (by omega), if_neg (by omega)]
theorem op_configure {m : zkM} (hI : zInv m) : ∃ (g : zkM) (c : Int), ((∃ v : Int, (caCfg m).1 = Sum.inl (some (vi v)) ∧ inR v ∧ c = 0 ∧ g = mset (caCfg m).2 50 0 0 v) ∨ ((caCfg m).1 = Sum.inr xIA ∧ c = 1 ∧ g = (caCfg m).2) ∨ ((caCfg m).1 = Sum.inr xIS ∧ c = 2 ∧ g = (caCfg m).2)) ∧ opC m g (moCfg g).2 (moCfg g).1 c ∧ (rdI m ∧ cfP (rdTk m).2 ∧ inR (caPf (rdTk m).2 (rdTk m).1).1) ∧ rR m g ∧ inR ((moCd g).2 7 0 0) := by
  obtain ⟨⟨T, hT⟩, hr, hk, hkp, hb, -⟩ := id hI
  have hfr : ∀ g, gO (caCfg m).2 g → sR m g T ∧ rR m g := by
    intro g hg
    obtain ⟨-, -, -, fA, -⟩ := st_cfg hT hr
    have e : ∀ t i k, ¬ LC t i → t ≠ 2 → t ≠ 24 → ¬ (t = 6 ∧ i = 0 ∧ k = 4) → t ≠ 50 → t ≠ 51 → g t i k = m t i k := fun t i k h1 h2 h3 h4 h5 h6 => by rw [hg t i k h5 h6, fA t i k h1 h2 h3 h4]
    refine ⟨sR_lv (lv_r m) ⟨fun k _ _ => e 7 0 k (by omega) (by decide) (by decide) (by omega) (by decide) (by decide), fun t h1 h2 => by funext k; exact e t 0 k (by omega) (by omega) (by omega) (by omega) (by omega) (by omega)⟩ hT, ?_⟩
    obtain ⟨r1, r2, r3, r4, r5, r6, r7⟩ := hr
    unfold rR
    rw [e 7 0 28 (by omega) (by decide) (by decide) (by omega) (by decide) (by decide), e 7 0 32 (by omega) (by decide) (by decide) (by omega) (by decide) (by decide)]
    refine ⟨r1, fun k hk => ?_, r3, r4, r5, r6, fun k hk => ?_⟩
    · rw [e 44 0 k (by omega) (by decide) (by decide) (by omega) (by decide) (by decide)]; exact r2 k hk
    · rw [e 45 0 k (by omega) (by decide) (by decide) (by omega) (by decide) (by decide)]; exact r7 k hk
  have main : ∀ g, gO (caCfg m).2 g → ∀ c : Int, (moCfg g).2 7 0 0 = c → 0 ≤ c ∧ c ≤ 3 → (c = 0 → g 50 0 0 = (moCfg g).1 ∧ inR (moCfg g).1) → opC m g (moCfg g).2 (moCfg g).1 c := by
    intro g hg c h0 hc ha
    obtain ⟨f1, f2⟩ := hfr g hg
    obtain ⟨⟨s1, s2⟩, -, -, fA, fB⟩ := st_cfg f1 f2
    have eg : ∀ t i k, t ≠ 50 → t ≠ 51 → g t i k = (caCfg m).2 t i k := hg
    have fm : ∀ t i k, ¬ LN t i k → ¬ (t = 7 ∧ i = 0 ∧ 28 ≤ k ∧ k ≤ 32) → t ≠ 45 → (moCfg g).2 t i k = g t i k := fB
    have e : ∀ t i k, ¬ LC t i → ¬ LN t i k → t ≠ 2 → t ≠ 24 → t ≠ 45 → ¬ (t = 6 ∧ i = 0 ∧ k = 4) → ¬ (t = 7 ∧ i = 0 ∧ 28 ≤ k ∧ k ≤ 32) → t ≠ 50 → t ≠ 51 → (moCfg g).2 t i k = m t i k := fun t i k h1 h2 h3 h4 h5 h6 h7 h8 h9 => by rw [fm t i k h2 h7 h5, eg t i k h8 h9, fA t i k h1 h3 h4 h6]
    have hlv : lv (caCfg m).2 (moCfg g).2 := by
      refine ⟨fun t ht => ?_, fun t i ht hi => ?_⟩
      · funext k
        rw [fm t 0 k (by omega) (by omega) (by omega), eg t 0 k (by omega) (by omega)]
      · funext k
        rw [fm t i k (by omega) (by omega) (by omega), eg t i k (by omega) (by omega)]
    have e2 : ∀ t k, t = 2 ∨ t = 23 ∨ t = 24 ∨ t = 6 → (moCfg g).2 t 0 k = (caCfg m).2 t 0 k := fun t k ht => by rw [fm t 0 k (by omega) (by omega) (by omega), eg t 0 k (by omega) (by omega)]
    refine ⟨⟨h0, by unfold inR; omega⟩, fun h => ?_, ⟨⟨T, sR_lv hlv (lm_r _) s1⟩, ?_, ?_, ?_, ?_, by rw [h0]; unfold inR; omega⟩, T, hT, f1⟩
    · rw [fm 50 0 0 (by omega) (by omega) (by decide)]
      exact ha h
    · obtain ⟨r1, r2, r3, r4, r5, r6, r7⟩ := s2
      unfold rR
      rw [e2 2 2 (by omega), e2 6 4 (by omega), e2 2 3 (by omega), e2 2 4 (by omega)]
      refine ⟨r1, fun k hk => ?_, r3, r4, r5, fun k hk => ?_, r7⟩
      · rw [e2 23 k (by omega)]; exact r2 k hk
      · rw [e2 24 k (by omega)]; exact r6 k hk
    · rw [e 6 0 3 (by omega) (by omega) (by decide) (by decide) (by decide) (by omega) (by omega) (by decide) (by decide), e 7 0 34 (by omega) (by omega) (by decide) (by decide) (by decide) (by omega) (by omega) (by decide) (by decide)]; exact hk
    · rw [e 6 0 3 (by omega) (by omega) (by decide) (by decide) (by decide) (by omega) (by omega) (by decide) (by decide)]
      intro h1
      obtain ⟨T', hT'⟩ := hkp h1
      refine ⟨T', sR_lw (fun t i k hL hkc => ?_) (fun t k hk => ?_) hT'⟩
      · rw [kpt_c hL hkc, kpt_c hL hkc]
        by_cases hTt : tgT t
        · rw [if_pos hTt, if_pos hTt, e t _ k (by omega) (by omega) (by omega) (by omega) (by omega) (by omega) (by omega) (by omega) (by omega)]
        · rw [if_neg hTt, if_neg hTt, e t _ k (by omega) (by omega) (by omega) (by omega) (by omega) (by omega) (by omega) (by omega) (by omega)]
      · rw [kpt_m hk, kpt_m hk, e 46 0 _ (by omega) (by omega) (by decide) (by decide) (by decide) (by omega) (by omega) (by decide) (by decide)]
    · rw [e 4 1 3 (by omega) (by omega) (by decide) (by decide) (by decide) (by omega) (by omega) (by decide) (by decide), e 4 1 8 (by omega) (by omega) (by decide) (by decide) (by decide) (by omega) (by omega) (by decide) (by decide)]
      exact ⟨fun i hi => by rw [e 5 _ 11 (by omega) (by omega) (by decide) (by decide) (by decide) (by omega) (by omega) (by decide) (by decide)]; exact hb.1 i hi, hb.2⟩
  have h1 := hfr _ (gO_r _)
  obtain ⟨-, hcs, hpre, -⟩ := st_cfg h1.1 h1.2
  have hp2 : rdI m ∧ cfP (rdTk m).2 ∧ inR (caPf (rdTk m).2 (rdTk m).1).1 := ⟨hpre.1, hpre.2.1, hpre.2.2.1⟩
  rcases hcs with ⟨e1, e2⟩ | ⟨e1, e2⟩ | ⟨x, hx, e1, e2, e3⟩
  · exact ⟨_, 1, Or.inr (Or.inl ⟨e1, rfl, rfl⟩), main _ (gO_r _) 1 e2 (by omega) (fun h => absurd h (by decide)), hp2, h1.2, hpre.2.2.2⟩
  · exact ⟨_, 2, Or.inr (Or.inr ⟨e1, rfl, rfl⟩), main _ (gO_r _) 2 e2 (by omega) (fun h => absurd h (by decide)), hp2, h1.2, hpre.2.2.2⟩
  · have h2 := hfr _ (gO_50 (caCfg m).2 x)
    obtain ⟨-, hcs2, hpre2, -⟩ := st_cfg h2.1 h2.2
    rcases hcs2 with ⟨f1, f2⟩ | ⟨f1, f2⟩ | ⟨x2, hx2, f1, f2, f3⟩
    · rw [e1] at f1; cases f1
    · rw [e1] at f1; cases f1
    · rw [e1] at f1
      have exx : x = x2 := by injection f1 with f1; injection f1 with f1; injection f1
      refine ⟨_, 0, Or.inl ⟨x, e1, by unfold inR; omega, rfl, rfl⟩, main _ (gO_50 _ _) 0 f3 (by omega) (fun _ => ⟨by rw [ms_s, f2, exx], by rw [f2]; unfold inR; omega⟩), hp2, h2.2, hpre2.2.2.2⟩
