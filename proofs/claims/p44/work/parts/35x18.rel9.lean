section ZREL9
variable {κ : Int} {L1 : List Nat} {kd1 : Nat → Nat} {L2 : List Nat} {kd2 : Nat → Nat} {σ1 σ2 τ1 τ2 s : zS} {m0 x0 : Nat} {Q : Nat → zCo → (Nat → Int32) → Prop} {V : zWh} {ps pc sl rv sh cd : Nat}
/-- many, by what it stands on -/
theorem mMany_f (hJ : zJ κ L2 kd2 σ2) (hm : zT L2 kd2 m0 11) (hs : s.2 = σ2.2) {t : zS} (g : zFr (zBg m0 (mR σ2 m0 49) σ2.2.2) s t) : F_X11_many m0 t = F_X11_many m0 s := by
  have rs : s.2.2 = σ2.2.2 := by rw [hs]
  unfold F_X11_many
  simp only [zlt]
  rw [g.rf, show (s.2.2 m0 21).getD 0 = mR σ2 m0 21 by rw [rs]]
  have k18 : t.1 m0 18 = s.1 m0 18 := g.2 _ _ (by
    rintro ((⟨-, q⟩ | ⟨t, ht, e⟩) | ⟨e, -⟩)
    · exact absurd q (by decide)
    · have h2 : zf 0 11 t = some (100 + t) := by
        simp only [List.mem_cons, List.not_mem_nil, or_false] at ht
        rcases ht with rfl | rfl | rfl <;> rfl
      exact mR_m hJ hm h2 (by omega) e.symm
    · exact mR_m hJ hm (s := 49) (k := 149) (by rfl) (by decide) e.symm)
  have k21 : ∀ j, t.1 (mR σ2 m0 21) j = s.1 (mR σ2 m0 21) j := fun j => g.2 _ _ (by
    rintro ((⟨e, -⟩ | ⟨t, ht, e⟩) | ⟨e, -⟩)
    · exact mR_m hJ hm (s := 21) (k := 121) (by rfl) (by decide) e
    · have h2 : zf 0 11 t = some (100 + t) ∧ t ≠ 21 := by
        simp only [List.mem_cons, List.not_mem_nil, or_false] at ht
        rcases ht with rfl | rfl | rfl <;> exact ⟨by rfl, by decide⟩
      exact mR_ne hJ hm (s := 21) (s' := t) (k := 121) (by rfl) h2.1 (by omega) e
    · exact mR_ne hJ hm (s := 21) (s' := 49) (k := 121) (k' := 149) (by rfl) (by rfl) (by decide) e)
  rw [k18, k21]
theorem mGoes (hJ : zJ κ L2 kd2 σ2) (hm : zT L2 kd2 m0 11) (hs : s.2 = σ2.2) (h12 : (F_X11_many m0 s).toInt ≤ 12) {p : Int32} {n : Nat} (hp : p.toInt = n) (hn : n ≤ 60) : zFr (zBg m0 (mR σ2 m0 49) σ2.2.2) s (F_X11_goes m0 p s) ∧ (F_X11_goes m0 p s).1 (mR σ2 m0 49) 48 = zit n (s.1 (mR σ2 m0 49) 48) := by
  have lp : ∀ (N : Nat) (x : Int32) (i : Nat) (τ : zS), x.toInt = i → i ≤ n → n - i < N → zFr (zBg m0 (mR σ2 m0 49) σ2.2.2) s τ → zFr (zBg m0 (mR σ2 m0 49) σ2.2.2) s (F_X11_goes_2 m0 p N x τ) ∧ (F_X11_goes_2 m0 p N x τ).1 (mR σ2 m0 49) 48 = zit (n - i) (τ.1 (mR σ2 m0 49) 48) := by
    intro N
    induction N with
    | zero => intro x i τ _ _ h; exact absurd h (by omega)
    | succ N ih =>
      intro x i τ hx hi hm2 g
      rw [F_X11_goes_2]
      simp only [zlt]
      by_cases c : i < n
      · rw [if_pos (by omega)]
        obtain ⟨q1, q2⟩ := mMon hJ hm (s := τ) (g.1.trans hs) (by rw [mMany_f hJ hm hs g]; exact h12)
        obtain ⟨r1, r2⟩ := ih (x + (1 : Int32)) (i + 1) _ (zp1 hx (by omega)) (by omega) (by omega) (g.tr q1)
        refine ⟨r1, r2.trans ?_⟩
        rw [q2]
        obtain ⟨k, hk⟩ : ∃ k, n - i = k + 1 := ⟨n - i - 1, by omega⟩
        rw [show n - (i + 1) = k by omega, hk]
        rfl
      · rw [if_neg (by omega)]
        have : n - i = 0 := by omega
        rw [this]
        exact ⟨g, rfl⟩
  unfold F_X11_goes
  simp only [zlt]
  exact lp _ 0 0 s (by decide) (by omega) (by omega) zFr.id
/-- months by their number (zQ0 alone: what is won and paid is another matter) -/
theorem zRL.months0 {v1 v2 p : Int32} (h : zRL zQ0 L1 kd1 x0 m0 V ps pc sl rv sh cd σ1 σ2) (hx : zT L1 kd1 x0 10) (hI : zI κ 0 L1 kd1 σ1) (hJ : zJ κ L2 kd2 σ2) (hm : zT L2 kd2 m0 11) (hs5 : ∀ a ∈ L1, kd1 a = 5 → a = rv) (f1 : (v1, τ1) = F_X10_months x0 p σ1) (f2 : (v2, τ2) = F_X11_months m0 p σ2) : v1.toInt = v2.toInt ∧ zRL zQ0 L1 kd1 x0 m0 V ps pc sl rv sh cd τ1 τ2 := by
  obtain ⟨hL, hV, N, n, u, ⟨a1, a2, a3, a4, a5, a6, a7, a8, a9⟩, hq, hu, hh⟩ := id h
  have e0 : (0 : Int32).toInt = 0 := by decide
  have e60 : (60 : Int32).toInt = 60 := by decide
  have n48 : (48 : Int32).toNatClampNeg = 48 := by decide
  have g6 : (σ1.2.2 x0 6).getD 0 = V.1 0 := xnw hL
  have g4 : (σ1.2.2 x0 4).getD 0 = ps := by rw [hL.1.2.2.2.1]; rfl
  have g2 : (σ1.2.2 x0 2).getD 0 = rv := xrv hV
  have em : σ1.1 (V.1 0) 4 = σ2.1 (mR σ2 m0 48) 48 := by
    have := hq.2.2.1
    rw [rC_i (by decide), Nat.zero_add] at this
    exact this
  have ml : F_X11_isLong p = F_X11_in p 0 60 := by
    unfold F_X11_isLong
    simp only [zlt]
  by_cases c : 0 ≤ p.toInt ∧ p.toInt ≤ 60
  · by_cases cz : p.toInt = 0
    · unfold F_X10_months at f1
      unfold F_X11_months at f2
      simp only [zlt, ml, cWithin, mIn, e0, e60, g6, n48] at f1 f2
      rw [if_neg (fun z => z c), if_neg (by omega)] at f1
      rw [if_neg (fun z => z c), if_pos cz] at f2
      rw [show τ1 = σ1 from congrArg Prod.snd f1, show τ2 = σ2 from congrArg Prod.snd f2]
      refine ⟨?_, h⟩
      rw [show v1 = _ from congrArg Prod.fst f1, show v2 = _ from congrArg Prod.fst f2, em]
    · obtain ⟨k, hk⟩ : ∃ k : Nat, p.toInt = k := ⟨p.toInt.toNat, by omega⟩
      obtain ⟨s, e', p2, p3, p4, p5, p6, p7⟩ := zPush hL (k := 0) (by decide) a4 a5 a6 a7
      have rs : s.2.2 = σ1.2.2 := by rw [p2]
      have hLs : zLay L1 kd1 x0 s.2.2 V ps pc sl := by rw [rs]; exact hL
      have hVs : zRv L1 kd1 x0 rv sh cd s.2.2 := by rw [rs]; exact hV
      -- the class
      have f1b := f1
      unfold F_X10_months at f1b
      simp only [zlt, cWithin, e0, e60, g6, g4] at f1b
      rw [if_neg (fun z => z c), if_pos (by omega), e'] at f1b
      simp only [rs, g2, g6] at f1b
      obtain ⟨y, hy⟩ : ∃ y : zS, y = F_X5_goThrough rv ((σ1.2.2 x0 10).getD 0) (V.1 0) p (s.1 ((σ1.2.2 x0 10).getD 0) 13) s := ⟨_, rfl⟩
      obtain ⟨k1, k2, k3⟩ := cThr hLs hVs (t := (σ1.2.2 x0 10).getD 0) (v := s.1 ((σ1.2.2 x0 10).getD 0) 13) hk (by omega)
      rw [← hy] at f1b k1 k2 k3
      have y6 : (y.2.2 x0 6).getD 0 = V.1 0 := by rw [k1 x0 6 (fun z => zNk hx hV.2.1.2.1 (by decide) z.1), rs]; exact g6
      rw [y6] at f1b
      have t1 : τ1 = y := congrArg Prod.snd f1b
      -- what of the class' cells stays
      have kk : ∀ {a q : Nat}, zT L1 kd1 a q → (q ≠ 20 ∧ q ≠ 21 ∧ q ≠ 30 ∧ q ≠ 31 ∧ q ≠ 32 ∧ q ≠ 6 ∧ q ≠ 33 ∧ q ≠ 34 ∧ q ≠ 35 ∧ q ≠ 36 ∧ q ≠ 37 ∧ q ≠ 38) → a ≠ V.2.2.1 0 → a ≠ V.2.2.2 0 → ∀ j, ¬ (a = V.1 0 ∧ j = 4) → y.1 a j = s.1 a j := fun ha hq n1 n2 j n3 => k3 _ j (by
        rw [ha.2]
        rintro ((z | z | z | z) | z)
        · rw [ha.2] at z; omega
        · exact n1 z
        · exact n2 z
        · exact n3 z
        · omega)
      obtain ⟨⟨tA, tI, tW, tM⟩, -⟩ := hL.2.2.2.1 0 (by decide)
      have k0 : ∀ {a q : Nat}, zT L1 kd1 a q → (q = 2 ∨ q = 4 ∨ q = 9 ∨ q = 10) → y.1 a = s.1 a := fun ha hq => funext (fun j => kk ha (by omega) (zNk ha tW (by omega)) (zNk ha tM (by omega)) j (fun z => zNk ha tA (by omega) z.1))
      have kc : ∀ r, r < 45 → r ≠ 0 → zcc V y.1 r = zcc V s.1 r := fun r hr h0 => by
        obtain ⟨⟨uA, uI, uW, uM⟩, -⟩ := hL.2.2.2.1 r hr
        have hi := hL.2.2.2.2.1 r 0 hr (by decide)
        refine zcc.eq (fun j _ => kk uI (by decide) (zNk uI tW (by decide)) (zNk uI tM (by decide)) j (fun z => zNk uI tA (by decide) z.1)) (fun j _ => kk uW (by decide) (fun z => h0 (hi (Or.inr (Or.inr (Or.inl z))))) (zNk uW tM (by decide)) j (fun z => zNk uW tA (by decide) z.1)) (fun j _ => kk uM (by decide) (zNk uM tW (by decide)) (fun z => h0 (hi (Or.inr (Or.inr (Or.inr z))))) j (fun z => zNk uM tA (by decide) z.1)) (fun j _ => kk uA (by decide) (zNk uA tW (by decide)) (zNk uA tM (by decide)) j (fun z => h0 (hi (Or.inl z.1))))
      have c0 : (zcc V y.1 0).1 = (zcc V s.1 0).1 ∧ (zcc V y.1 0).2.2.2.1 = (zcc V s.1 0).2.2.2.1 ∧ (zcc V y.1 0).2.2.2.2.2 = (zcc V s.1 0).2.2.2.2.2 := by
        refine ⟨zt12_e (fun j _ => kk tI (by decide) (zNk tI tW (by decide)) (zNk tI tM (by decide)) j (fun z => zNk tI tA (by decide) z.1)), kk tA (by decide) (zNk tA tW (by decide)) (zNk tA tM (by decide)) 3 (fun z => by omega), kk tA (by decide) (zNk tA tW (by decide)) (zNk tA tM (by decide)) 5 (fun z => by omega)⟩
      -- the reference
      have f2b := f2
      unfold F_X11_months at f2b
      simp only [zlt, ml, mIn, e0, e60, n48] at f2b
      rw [if_neg (fun z => z c), if_neg cz] at f2b
      obtain ⟨b1, b2, b3⟩ := zCopies2 hJ hm
      obtain ⟨w, hw⟩ : ∃ w : zS, w = F_X11_copies m0 σ2 := ⟨_, rfl⟩
      rw [← hw] at f2b b1 b2 b3
      have hS : ([49, 54, 52, 53, 45, 46, 55] : List Nat).all (fun t => zf 0 11 t == some (100 + t)) = true := by rfl
      have wm : (F_X11_many m0 w).toInt = N := by
        rw [mMany, ← a2]
        unfold zM zp
        rw [zFm.fld hJ hm b3 hS (j := 18) (by rfl)]
        show (w.1 ((w.2.2 m0 21).getD 0) _).toInt = _
        rw [b3.rf]
        show (w.1 (mR σ2 m0 21) _).toInt = _
        rw [zFm.row hJ hm b3 (s := 21) (by rfl) hS (by rfl)]
      obtain ⟨q1, q2⟩ := mGoes hJ hm (s := w) b1 (by omega) hk (by omega)
      have t2 : τ2 = F_X11_records m0 (F_X11_goes m0 p w) := congrArg Prod.snd f2b
      have gall : zFr (zFm [50, 51, 47, 56] [49, 54, 52, 53, 45, 46, 55] m0 σ2.2.2) σ2 (F_X11_goes m0 p w) := by
        refine (b3.up (fun a j q => ?_)).tr (q1.up (fun a j q => ?_))
        · rcases q with ⟨e, q⟩ | ⟨t, ht, e⟩
          · exact Or.inl ⟨e, by simp only [List.mem_cons, List.not_mem_nil, or_false] at q ⊢; omega⟩
          · exact Or.inr ⟨t, ht, e⟩
        · rcases q with (⟨e, q⟩ | ⟨t, ht, e⟩) | ⟨e, -⟩
          · exact Or.inl ⟨e, by simp only [List.mem_cons, List.not_mem_nil, or_false] at q ⊢; omega⟩
          · exact Or.inr ⟨t, by simp only [List.mem_cons, List.not_mem_nil, or_false] at ht ⊢; omega, e⟩
          · exact Or.inr ⟨49, by decide, e⟩
      obtain ⟨now', hnow⟩ : ∃ r, r = rC (F_X11_goes m0 p w).1 (mR σ2 m0 49) 0 := ⟨_, rfl⟩
      have D : ∀ u : Nat, (σ2.1 m0 57).toInt = u → u ≤ 40 → zDone σ2 m0 u now' τ2 := fun u hu hu2 => by
        rw [t2]
        exact zDone.of hJ hm hu hu2 gall (by rfl) (by rfl) (by rfl) hnow.symm
      -- the row
      have rm : mR σ2 m0 49 ≠ m0 := mR_m hJ hm (s := 49) (k := 149) (by rfl) (by decide)
      have rowk : ∀ j, j < 50 → ¬ (24 ≤ j ∧ j ≤ 48) → now' j = rC σ2.1 (mR σ2 m0 48) 0 j := fun j hj hn => by
        rw [hnow, rC_i hj, rC_i hj, Nat.zero_add, ← b2 j hj]
        refine q1.2 _ _ ?_
        rintro ((⟨e, -⟩ | ⟨t, ht, e⟩) | ⟨-, z1, z2⟩)
        · exact rm e
        · have h2 : zf 0 11 t = some (100 + t) ∧ t ≠ 49 := by
            simp only [List.mem_cons, List.not_mem_nil, or_false] at ht
            rcases ht with rfl | rfl | rfl <;> exact ⟨by rfl, by decide⟩
          exact mR_ne hJ hm (s := 49) (s' := t) (k := 149) (by rfl) h2.1 (by omega) e
        · exact hn ⟨z1, z2⟩
      have row48 : now' 48 = zit k (rC σ2.1 (mR σ2 m0 48) 0 48) := by
        rw [hnow, rC_i (by decide), rC_i (by decide), Nat.zero_add, q2, b2 48 (by decide)]
      have R : zRL zQ0 L1 kd1 x0 m0 V ps pc sl rv sh cd τ1 τ2 := by
        refine h.act hx hI (fun a ha h5 => ?_) (fun a ha h5 j j5 j6 => ?_) (fun a ha hk => ?_) ?_ (fun r hr h0 _ => ?_) D (fun N' z1 z2 z3 z4 => ?_)
        · rw [t1]
          funext j
          rw [k1 a j (fun z => h5 (by rw [z.1]; exact hV.2.1.2.1.2)), rs]
        · rw [t1, k1 a j (fun z => by omega), rs]
        · rw [t1, k0 ⟨ha, rfl⟩ (by omega)]
          refine p7 a ha (fun z => ?_)
          simp only [List.mem_cons, List.not_mem_nil, or_false] at z
          omega
        · rw [t1, e', k0 hL.2.2.2.2.2.2.1 (by omega)]
        · rw [t1, e', kc r hr h0]
        · have eN : N' = N := by omega
          subst eN
          obtain ⟨w1, w2, w3, w4⟩ := z4
          have s0 : zcc V s.1 0 = zcc V σ1.1 0 := p4 0 (by decide) (by omega)
          rw [t1]
          refine ⟨fun j h1 h2 => ?_, fun j h1 h2 => ?_, ?_, ?_⟩
          · rw [c0.1, s0, rowk j (by omega) (by omega)]; exact w1 j h1 h2
          · rw [c0.2.1, s0, rowk (12 + j) (by omega) (by omega)]; exact w2 j h1 h2
          · rw [row48, ← w3, ← s0]; exact k2
          · rw [c0.2.2, s0, rowk 49 (by omega) (by omega)]; exact w4
      refine ⟨?_, R⟩
      -- the answers
      have hd := (D u a8 a7)
      obtain ⟨d0, -, d2, -⟩ := hd
      have av : v2 = τ2.1 (mR σ2 m0 48) 48 := by
        rw [show v2 = _ from congrArg Prod.fst f2b, t2]
        show (F_X11_records m0 (F_X11_goes m0 p w)).1 (((F_X11_records m0 (F_X11_goes m0 p w)).2.2 m0 48).getD 0) 48 = _
        rw [← t2, d0]
      have bv : τ2.1 (mR σ2 m0 48) 48 = now' 48 := by
        rw [← d2, rC_i (by decide), Nat.zero_add]
      rw [show v1 = _ from congrArg Prod.fst f1b, av, bv, row48, rC_i (by decide), Nat.zero_add, ← em, k2]
      have : s.1 (V.1 0) 4 = σ1.1 (V.1 0) 4 := by
        have := congrArg (fun c : zCo => c.2.2.2.2.1) (p4 0 (by decide) (by omega))
        exact this
      rw [this]
  · unfold F_X10_months at f1
    unfold F_X11_months at f2
    simp only [zlt, ml, cWithin, mIn, e0, e60] at f1 f2
    rw [if_pos c] at f1 f2
    cases f1
    cases f2
    exact ⟨rfl, h⟩
end ZREL9
