section ZLAY4
variable {L : List Nat} {kd : Nat → Nat} {x0 rv sh cd : Nat} {V : zWh} {ps pc sl : Nat} {σ s s' : zS} {κ : Int}
theorem zPv.cc (hl : zLay L kd x0 σ.2.2 V ps pc sl) (g : zPv L kd V rv σ s) {k : Nat} (hk : k < 45) (h1 : k ≠ 1) : zcc V s.1 k = zcc V σ.1 k := by
  obtain ⟨⟨tA, tI, tW, tM⟩, -⟩ := hl.2.2.2.1 k hk
  obtain ⟨⟨uA, uI, uW, uM⟩, -⟩ := hl.2.2.2.1 1 (by decide)
  have hi := hl.2.2.2.2.1 k 1 hk (by decide)
  have n : ∀ {a b ka kb : Nat}, zT L kd a ka → zT L kd b kb → ka ≠ kb → ¬ a = b := fun ha hb hn => zNk ha hb hn
  refine zcc.st (g.2 _ ⟨tA.1, by rw [tA.2]; decide, ?_⟩) (g.2 _ ⟨tI.1, by rw [tI.2]; decide, ?_⟩) (g.2 _ ⟨tW.1, by rw [tW.2]; decide, ?_⟩) (g.2 _ ⟨tM.1, by rw [tM.2]; decide, ?_⟩)
  · rintro (z | z | z | z)
    · exact h1 (hi (Or.inl z))
    · exact n tA uI (by decide) z
    · exact n tA uW (by decide) z
    · exact n tA uM (by decide) z
  · rintro (z | z | z | z)
    · exact n tI uA (by decide) z
    · exact h1 (hi (Or.inr (Or.inl z)))
    · exact n tI uW (by decide) z
    · exact n tI uM (by decide) z
  · rintro (z | z | z | z)
    · exact n tW uA (by decide) z
    · exact n tW uI (by decide) z
    · exact h1 (hi (Or.inr (Or.inr (Or.inl z))))
    · exact n tW uM (by decide) z
  · rintro (z | z | z | z)
    · exact n tM uA (by decide) z
    · exact n tM uI (by decide) z
    · exact n tM uW (by decide) z
    · exact h1 (hi (Or.inr (Or.inr (Or.inr z))))
/-- of an answer and a state, the state -/
theorem zPv.pr {α : Type} {v : α} (h : zPv L kd V rv σ s) : zPv L kd V rv σ ((v, s) : α × zS).2 := h
theorem xrv (h : zRv L kd x0 rv sh cd σ.2.2) : (σ.2.2 x0 2).getD 0 = rv := by rw [h.1.1]; rfl
theorem xtr (hl : zLay L kd x0 σ.2.2 V ps pc sl) : (σ.2.2 x0 7).getD 0 = V.1 1 := by rw [hl.1.2.1]; rfl
theorem xnw (hl : zLay L kd x0 σ.2.2 V ps pc sl) : (σ.2.2 x0 6).getD 0 = V.1 0 := by rw [hl.1.1]; rfl
theorem zTry (hl : zLay L kd x0 σ.2.2 V ps pc sl) (h : zRv L kd x0 rv sh cd σ.2.2) : zPv L kd V rv σ (F_X10_tryFromNow x0 σ) ∧ (F_X10_tryFromNow x0 σ).2.2 rv 6 = some (V.1 1) := by
  obtain ⟨c1, c2, c3, c4⟩ := zCopy hl (k := 1) (q := 0) (by decide) (by decide)
  have g := zPv.copy (rv := rv) hl (q := 0) (by decide)
  unfold F_X10_tryFromNow
  simp only [zlt, xtr hl, xnw hl]
  have h2 := h.keep g
  have hl2 := hl.pv h.2.1.2.1 g
  rw [xrv h2, xtr hl2]
  obtain ⟨l1, l2, l3⟩ := zLook (V := V) h2 (((F_X1_copy (V.1 1) (V.1 0) σ).2.2 x0 10).getD 0) (V.1 1)
  exact ⟨g.tr l1, l3⟩
/-- what a loop of months needs of the state that it begins in -/
theorem zMo (hl : zLay L kd x0 s.2.2 V ps pc sl) (h : zRv L kd x0 rv sh cd s.2.2) (h6 : s.2.2 rv 6 = some (V.1 1)) : (∀ j : Nat, ¬ zPcl L kd V ((s.2.2 ((s.2.2 x0 2).getD 0) 4).getD 0)) ∧ (∀ j : Nat, ¬ zPcl L kd V ((s.2.2 ((s.2.2 ((s.2.2 x0 2).getD 0) 1).getD 0) 0).getD 0)) ∧ (∀ j : Nat, ¬ zPcl L kd V ((s.2.2 ((s.2.2 ((s.2.2 x0 2).getD 0) 1).getD 0) 1).getD 0)) ∧ (∀ j : Nat, ¬ zPcl L kd V ((s.2.2 ((s.2.2 ((s.2.2 x0 2).getD 0) 6).getD 0) 2).getD 0)) ∧ (∀ j : Nat, ¬ zPcl L kd V ((s.2.2 ((s.2.2 ((s.2.2 x0 2).getD 0) 6).getD 0) 1).getD 0)) ∧ (¬ zPcl L kd V ((s.2.2 ((s.2.2 x0 2).getD 0) 6).getD 0)) ∧ (∀ j : Nat, ¬ zPcl L kd V ((s.2.2 ((s.2.2 x0 2).getD 0) 2).getD 0)) ∧ (∀ j : Nat, ¬ zPcl L kd V ((s.2.2 ((s.2.2 x0 2).getD 0) 3).getD 0)) ∧ ∀ j : Nat, ¬ zPcl L kd V ((s.2.2 x0 9).getD 0) := by
  have e := xrv h
  obtain ⟨⟨a1, a2, a3, a4⟩, ⟨t0, t1, t2, t3⟩, b, c, d, e9, f⟩ := h
  have gc : (s.2.2 rv 1).getD 0 = cd := by rw [a4]; rfl
  have g6 : (s.2.2 rv 6).getD 0 = V.1 1 := by rw [h6]; rfl
  obtain ⟨q0, q1, q2⟩ := hl.gA (k := 1) (by decide)
  rw [e, gc, g6, q1, q2]
  exact ⟨fun _ => nPc (b 4 (by omega)) (by decide), fun _ => nPc (c 0 (Or.inl rfl)) (by decide), fun _ => nPc (c 1 (Or.inr rfl)) (by decide), fun _ => nPt _ (Or.inr (Or.inr (Or.inr rfl))), fun _ => nPt _ (Or.inr (Or.inr (Or.inl rfl))), nPt _ (Or.inl rfl), fun _ => nPc (b 2 (by omega)) (by decide), fun _ => nPc (b 3 (by omega)) (by decide), fun _ => nPc e9 (by decide)⟩
theorem pAgree (hl : zLay L kd x0 σ.2.2 V ps pc sl) (h : zRv L kd x0 rv sh cd σ.2.2) (p : Int32) : zPv L kd V rv σ (F_X10_agree x0 p σ).2 := by
  unfold F_X10_agree
  simp only [zlt]
  split
  · exact zPv.rf
  · obtain ⟨g, g6⟩ := zTry hl h
    obtain ⟨m0, m1, m2, m3, m4, m5, m6, m7, m8⟩ := zMo (hl.pv h.2.1.2.1 g) (h.keep g) g6
    exact g.tr (zPv.fr (A := fun c _ => ¬ zPcl L kd V c) (fr_X10_agree_20 m0 m1 m2 m3 m4 m5 m6 m7 4294967299 0 0 _ zFr.id) (fun _ _ q => q))
theorem pDriest (hl : zLay L kd x0 σ.2.2 V ps pc sl) (h : zRv L kd x0 rv sh cd σ.2.2) (p q : Int32) : zPv L kd V rv σ (F_X10_driest x0 p q σ).2 := by
  unfold F_X10_driest
  simp only [zlt, zlt2]
  have g0 : zPv L kd V rv σ (F_X10_hasMouth x0 σ).2 := zPv.fr (A := fun c _ => ¬ zPcl L kd V c) (fr_X10_hasMouth zFr.id) (fun _ _ q => q)
  split
  · exact zPv.pr g0
  · split
    · exact zPv.pr g0
    · split
      · exact zPv.pr g0
      · have hl0 := hl.pv h.2.1.2.1 g0
        have h0 := h.keep g0
        obtain ⟨g, g6⟩ := zTry hl0 h0
        have f : zFr (fun c _ => ¬ zPcl L kd V c) (F_X10_tryFromNow x0 (F_X10_hasMouth x0 σ).2) (F_X10_mouthFlow x0 (F_X10_tryFromNow x0 (F_X10_hasMouth x0 σ).2)).2 := fr_X10_mouthFlow zFr.id
        obtain ⟨m0, m1, m2, m3, m4, m5, m6, m7, m8⟩ := zMo (hl0.pv h0.2.1.2.1 g) (h0.keep g) g6
        exact (g0.tr g).tr (zPv.fr (A := fun c _ => ¬ zPcl L kd V c) (fr_X10_driest_43 m0 m1 m2 m3 m4 m5 m6 m7 4294967299 1 _ 0 _ f) (fun _ _ q => q))
theorem pReign (hl : zLay L kd x0 σ.2.2 V ps pc sl) (h : zRv L kd x0 rv sh cd σ.2.2) (p q r : Int32) : zPv L kd V rv σ (F_X10_reign x0 p q r σ).2 := by
  unfold F_X10_reign
  simp only [zlt, zlt2]
  have f0 : zFr (fun c _ => ¬ zPcl L kd V c) σ (F_X10_isLaw x0 p σ).2 := fr_X10_isLaw zFr.id
  have g0 : zPv L kd V rv σ (F_X10_isLaw x0 p σ).2 := zPv.fr f0 (fun _ _ q => q)
  split
  · exact zPv.pr g0
  · split
    · exact zPv.pr g0
    · split
      · exact zPv.pr g0
      · have h0 := h.keep g0
        have ft : zFr (fun c _ => ¬ zPcl L kd V c) (F_X10_isLaw x0 p σ).2 (zfil (F_X10_isLaw x0 p σ).2 (((F_X10_isLaw x0 p σ).2.2.2 x0 9).getD 0) 0 12) := zFr.id.fl (fun _ => nPc h0.2.2.2.2.2.1 (by decide))
        have g1 := g0.tr (zPv.fr (rv := rv) ft (fun _ _ q => q))
        have hl1 := hl.pv h.2.1.2.1 g1
        have h1 := h.keep g1
        obtain ⟨g, g6⟩ := zTry hl1 h1
        obtain ⟨m0, m1, m2, m3, m4, m5, m6, m7, m8⟩ := zMo (hl1.pv h1.2.1.2.1 g) (h1.keep g) g6
        exact (g1.tr g).tr (zPv.fr (A := fun c _ => ¬ zPcl L kd V c) (fr_X10_reign_44 m0 m1 m2 m8 m3 m4 m5 m6 m7 4294967299 0 _ zFr.id) (fun _ _ q => q))
/-- a look at now -/
theorem zLookN (hl : zLay L kd x0 σ.2.2 V ps pc sl) (h : zRv L kd x0 rv sh cd σ.2.2) : zPv L kd V rv σ (F_X10_look x0 σ) := by
  unfold F_X10_look
  simp only [zlt, xrv h, xnw hl]
  exact (zLook (V := V) h _ _).1
theorem pWhen (hl : zLay L kd x0 σ.2.2 V ps pc sl) (h : zRv L kd x0 rv sh cd σ.2.2) (p : Int32) : zPv L kd V rv σ (F_X10_when x0 p σ).2 := by
  unfold F_X10_when
  simp only [zlt, zlt2]
  have g0 := zLookN hl h
  have f1 : zFr (fun c _ => ¬ zPcl L kd V c) (F_X10_look x0 σ) (F_X6_isSource (((F_X10_look x0 σ).2.2 x0 3).getD 0) p (F_X10_look x0 σ)).2 := fr_X6_isSource zFr.id
  have g1 := g0.tr (zPv.fr (rv := rv) f1 (fun _ _ q => q))
  split
  · exact zPv.pr g1
  · have hl1 := hl.pv h.2.1.2.1 g1
    have h1 := h.keep g1
    obtain ⟨g, g6⟩ := zTry hl1 h1
    obtain ⟨m0, m1, m2, m3, m4, m5, m6, m7, m8⟩ := zMo (hl1.pv h1.2.1.2.1 g) (h1.keep g) g6
    exact (g1.tr g).tr (zPv.fr (A := fun c _ => ¬ zPcl L kd V c) (fr_X10_when_23 m0 m1 m2 m3 m4 m5 m6 m7 10000 1 _ zFr.id) (fun _ _ q => q))
/-- a copy of now, gone through -/
theorem zCpT (hl : zLay L kd x0 σ.2.2 V ps pc sl) (h : zRv L kd x0 rv sh cd σ.2.2) (n v : Int32) : zPv L kd V rv σ (F_X5_goThrough (((F_X1_copy ((σ.2.2 x0 7).getD 0) ((σ.2.2 x0 6).getD 0) σ).2.2 x0 2).getD 0) (((F_X1_copy ((σ.2.2 x0 7).getD 0) ((σ.2.2 x0 6).getD 0) σ).2.2 x0 10).getD 0) (((F_X1_copy ((σ.2.2 x0 7).getD 0) ((σ.2.2 x0 6).getD 0) σ).2.2 x0 7).getD 0) n v (F_X1_copy ((σ.2.2 x0 7).getD 0) ((σ.2.2 x0 6).getD 0) σ)) := by
  rw [xtr hl, xnw hl]
  have g := zPv.copy (rv := rv) hl (q := 0) (by decide)
  have h2 := h.keep g
  have hl2 := hl.pv h.2.1.2.1 g
  rw [xrv h2, xtr hl2]
  exact g.tr (zThr hl2 h2 _ n v)
theorem pThen (hl : zLay L kd x0 σ.2.2 V ps pc sl) (h : zRv L kd x0 rv sh cd σ.2.2) (p q r : Int32) : zPv L kd V rv σ (F_X10_then x0 p q r σ).2 := by
  unfold F_X10_then
  simp only [zlt, zlt2]
  have g0 := zLookN hl h
  have f1 : zFr (fun c _ => ¬ zPcl L kd V c) (F_X10_look x0 σ) (F_X6_isSource (((F_X10_look x0 σ).2.2 x0 3).getD 0) p (F_X10_look x0 σ)).2 := fr_X6_isSource zFr.id
  have g1 := g0.tr (zPv.fr (rv := rv) f1 (fun _ _ q => q))
  split
  · exact zPv.pr g1
  · split
    · exact zPv.pr g1
    · split
      · exact zPv.pr g1
      · have g2 := fun v => g1.tr (zCpT (hl.pv h.2.1.2.1 g1) (h.keep g1) q v)
        split
        · exact zPv.pr (g2 _)
        · exact zPv.pr (g2 _)
theorem zFlT (hl : zLay L kd x0 σ.2.2 V ps pc sl) (h : zRv L kd x0 rv sh cd σ.2.2) (n v : Int32) {u : zS} (hu : u = F_X5_goThrough (((F_X1_copy ((σ.2.2 x0 7).getD 0) ((σ.2.2 x0 6).getD 0) σ).2.2 x0 2).getD 0) (((F_X1_copy ((σ.2.2 x0 7).getD 0) ((σ.2.2 x0 6).getD 0) σ).2.2 x0 10).getD 0) (((F_X1_copy ((σ.2.2 x0 7).getD 0) ((σ.2.2 x0 6).getD 0) σ).2.2 x0 7).getD 0) n v (F_X1_copy ((σ.2.2 x0 7).getD 0) ((σ.2.2 x0 6).getD 0) σ)) : zPv L kd V rv σ (F_X10_mouthFlow x0 (F_X5_look ((u.2.2 x0 2).getD 0) ((u.2.2 x0 10).getD 0) ((u.2.2 x0 7).getD 0) u)).2 := by
  have g1 := zCpT hl h n v
  rw [← hu] at g1
  have h1 := h.keep g1
  rw [xrv h1]
  have g2 := g1.tr (zLook (V := V) h1 ((u.2.2 x0 10).getD 0) ((u.2.2 x0 7).getD 0)).1
  have f2 : zFr (fun c _ => ¬ zPcl L kd V c) (F_X5_look rv ((u.2.2 x0 10).getD 0) ((u.2.2 x0 7).getD 0) u) (F_X10_mouthFlow x0 (F_X5_look rv ((u.2.2 x0 10).getD 0) ((u.2.2 x0 7).getD 0) u)).2 := fr_X10_mouthFlow zFr.id
  exact g2.tr (zPv.fr f2 (fun _ _ q => q))
theorem pFlowIn (hl : zLay L kd x0 σ.2.2 V ps pc sl) (h : zRv L kd x0 rv sh cd σ.2.2) (p : Int32) : zPv L kd V rv σ (F_X10_flowIn x0 p σ).2 := by
  unfold F_X10_flowIn
  simp only [zlt, zlt2]
  have f0 : zFr (fun c _ => ¬ zPcl L kd V c) σ (F_X10_hasMouth x0 σ).2 := fr_X10_hasMouth zFr.id
  have g0 : zPv L kd V rv σ (F_X10_hasMouth x0 σ).2 := zPv.fr f0 (fun _ _ q => q)
  obtain ⟨m, hm⟩ : ∃ m, m = F_X10_hasMouth x0 σ := ⟨_, rfl⟩
  rw [← hm] at g0 ⊢
  split
  · exact zPv.pr g0
  · split
    · exact zPv.pr g0
    · exact zPv.pr (g0.tr (zFlT (hl.pv h.2.1.2.1 g0) (h.keep g0) p _ rfl))
theorem pYear (hl : zLay L kd x0 σ.2.2 V ps pc sl) (h : zRv L kd x0 rv sh cd σ.2.2) (p q r : Int32) : zPv L kd V rv σ (F_X10_year x0 p q r σ).2 := by
  have lp : ∀ (n : Nat) (x y : Int32) (τ : zS), zPv L kd V rv σ τ → zPv L kd V rv σ (F_X10_year_43 x0 p q r n x y τ).2 := by
    intro n
    induction n with
    | zero => intro x y τ g; exact g
    | succ n ih =>
      intro x y τ g
      rw [F_X10_year_43]
      simp only [zlt, zlt2]
      split
      · obtain ⟨s, hs⟩ : ∃ s : zS, s = F_X1_copy ((τ.2.2 x0 7).getD 0) ((τ.2.2 x0 6).getD 0) τ := ⟨_, rfl⟩
        have g1 := g.tr (zCpT (hl.pv h.2.1.2.1 g) (h.keep g) q (s.1 ((s.2.2 x0 10).getD 0) 13 + x))
        rw [← hs] at g1 ⊢
        have f2 : zFr (fun c _ => ¬ zPcl L kd V c) (F_X5_goThrough ((s.2.2 x0 2).getD 0) ((s.2.2 x0 10).getD 0) ((s.2.2 x0 7).getD 0) q (s.1 ((s.2.2 x0 10).getD 0) 13 + x) s) (F_X10_hasWonMost x0 p (F_X5_goThrough ((s.2.2 x0 2).getD 0) ((s.2.2 x0 10).getD 0) ((s.2.2 x0 7).getD 0) q (s.1 ((s.2.2 x0 10).getD 0) 13 + x) s)).2 := fr_X10_hasWonMost zFr.id
        have g2 := g1.tr (zPv.fr (rv := rv) f2 (fun _ _ q => q))
        split
        · exact ih _ _ _ g2
        · exact ih _ _ _ g2
      · exact g
  unfold F_X10_year
  simp only [zlt, zlt2]
  have g0 := zLookN hl h
  have f1 : zFr (fun c _ => ¬ zPcl L kd V c) (F_X10_look x0 σ) (F_X6_isSource (((F_X10_look x0 σ).2.2 x0 3).getD 0) p (F_X10_look x0 σ)).2 := fr_X6_isSource zFr.id
  have g1 := g0.tr (zPv.fr (rv := rv) f1 (fun _ _ q => q))
  split
  · exact zPv.pr g1
  · split
    · exact zPv.pr g1
    · split
      · exact zPv.pr g1
      · exact lp _ _ _ _ g1
theorem pWins (hl : zLay L kd x0 σ.2.2 V ps pc sl) (h : zRv L kd x0 rv sh cd σ.2.2) (a b c d : Int32) : zPv L kd V rv σ (F_X10_winsTurned x0 a b c d σ).2 := by
  unfold F_X10_winsTurned
  simp only [zlt, zlt2, xtr hl, xnw hl]
  obtain ⟨s, hs⟩ : ∃ s : zS, s = F_X1_copy (V.1 1) (V.1 0) σ := ⟨_, rfl⟩
  have g := zPv.copy (rv := rv) hl (q := 0) (by decide)
  rw [← hs] at g ⊢
  have hl2 := hl.pv h.2.1.2.1 g
  obtain ⟨q0, q1, q2⟩ := hl2.gA (k := 1) (by decide)
  rw [xtr hl2, q0]
  obtain ⟨u, hu⟩ : ∃ u : zS, u = (zu s.1 (V.2.1 1) c.toNatClampNeg d, s.2.1, s.2.2) := ⟨_, rfl⟩
  have fu : zFr (fun c _ => ¬ zPcl L kd V c) s u := by rw [hu]; exact zFr.id.w (nPt _ (Or.inr (Or.inl rfl)))
  have g1 := g.tr (zPv.fr (rv := rv) fu (fun _ _ q => q))
  rw [← hu]
  have h3 := h.keep g1
  have ex : (s.2.2 x0 2).getD 0 = rv := xrv (h.keep g)
  rw [ex]
  obtain ⟨l1, l2, l3⟩ := zLook (V := V) h3 ((s.2.2 x0 10).getD 0) (V.1 1)
  have g2 := g1.tr l1
  obtain ⟨w, hw⟩ : ∃ w : zS, w = F_X5_look rv ((s.2.2 x0 10).getD 0) (V.1 1) u := ⟨_, rfl⟩
  rw [← hw] at l1 l2 l3 g2 ⊢
  have h4 := h.keep g2
  rw [xrv h4]
  obtain ⟨⟨a1, a2, a3, a4⟩, ⟨t0, t1, t2, t3⟩, bb, cc, dd, e9, f9⟩ := id h4
  have gc : (w.2.2 rv 1).getD 0 = cd := by rw [a4]; rfl
  have fw : zFr (fun c _ => ¬ zPcl L kd V c) w (F_X5_winnerBy rv b w).2 := fr_X5_winnerBy zFr.id (fun _ => nPc (bb 4 (by omega)) (by decide)) (fun _ => by rw [gc]; exact nPc (cc 0 (Or.inl rfl)) (by decide)) (fun _ => by rw [gc]; exact nPc (cc 1 (Or.inr rfl)) (by decide))
  have g3 := g2.tr (zPv.fr (rv := rv) fw (fun _ _ q => q))
  split
  · exact zPv.pr g3
  · exact zPv.pr g3
theorem pTurnFor (hl : zLay L kd x0 σ.2.2 V ps pc sl) (h : zRv L kd x0 rv sh cd σ.2.2) (p q : Int32) : zPv L kd V rv σ (F_X10_turnFor x0 p q σ).2 := by
  have l27 : ∀ (K : Int32 → zS → Int32 × zS), (∀ (x : Int32) (τ : zS), zPv L kd V rv σ τ → zPv L kd V rv σ (K x τ).2) → ∀ (x5 : Int32) (n : Nat) (x : Int32) (τ : zS), zPv L kd V rv σ τ → zPv L kd V rv σ (F_X10_turnFor_27 x5 x0 p q K n x τ).2 := by
    intro K hK x5 n
    induction n with
    | zero => intro x τ g; exact g
    | succ n ih =>
      intro x τ g
      rw [F_X10_turnFor_27]
      simp only [zlt, zlt2]
      split
      · split
        · exact ih _ _ g
        · have f1 : zFr (fun c _ => ¬ zPcl L kd V c) τ (F_X10_isTurn x0 x5 x τ).2 := fr_X10_isTurn zFr.id
          have g1 := g.tr (zPv.fr (rv := rv) f1 (fun _ _ q => q))
          split
          · exact ih _ _ g1
          · have g2 := g1.tr (pWins (hl.pv h.2.1.2.1 g1) (h.keep g1) p q x5 x)
            split
            · exact ih _ _ g2
            · exact zPv.pr g2
      · exact hK _ _ g
  have l13 : ∀ (n : Nat) (x : Int32) (τ : zS), zPv L kd V rv σ τ → zPv L kd V rv σ (F_X10_turnFor_13 x0 p q n x τ).2 := by
    intro n
    induction n with
    | zero => intro x τ g; exact g
    | succ n ih =>
      intro x τ g
      rw [F_X10_turnFor_13]
      simp only [zlt]
      split
      · exact l27 _ ih x _ _ _ g
      · exact g
  have g0 : zPv L kd V rv σ (F_X10_isContest x0 p q σ).2 := by
    unfold F_X10_isContest
    simp only [zlt, zlt2, xrv h, xnw hl]
    have g0 := (zLook (V := V) h ((σ.2.2 x0 10).getD 0) (V.1 0)).1
    have f1 : zFr (fun c _ => ¬ zPcl L kd V c) (F_X5_look rv ((σ.2.2 x0 10).getD 0) (V.1 0) σ) (F_X10_isLaw x0 q (F_X5_look rv ((σ.2.2 x0 10).getD 0) (V.1 0) σ)).2 := fr_X10_isLaw zFr.id
    have g1 := g0.tr (zPv.fr (rv := rv) f1 (fun _ _ q => q))
    split
    · exact zPv.pr g1
    · obtain ⟨u, hu⟩ : ∃ u : zS, u = (F_X10_isLaw x0 q (F_X5_look rv ((σ.2.2 x0 10).getD 0) (V.1 0) σ)).2 := ⟨_, rfl⟩
      rw [← hu] at g1 ⊢
      have f2 : zFr (fun c _ => ¬ zPcl L kd V c) u (F_X6_isSource ((u.2.2 x0 3).getD 0) p u).2 := fr_X6_isSource zFr.id
      have g2 := g1.tr (zPv.fr (rv := rv) f2 (fun _ _ q => q))
      split
      · exact zPv.pr g2
      · exact zPv.pr g2
  unfold F_X10_turnFor
  simp only [zlt, zlt2]
  split
  · exact zPv.pr g0
  · exact l13 _ _ _ g0
end ZLAY4
