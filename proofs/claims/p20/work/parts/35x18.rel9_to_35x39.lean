-- 35x18.rel9
section
section ZREL9
variable {κ : Int} {L1 : List Nat} {kd1 : Nat → Nat} {L2 : List Nat} {kd2 : Nat → Nat} {σ1 σ2 τ1 τ2 s : zS} {m0 x0 : Nat} {Q : Nat → zCo → (Nat → Int32) → Prop} {V : zWh} {ps pc sl rv sh cd : Nat}
/-- many, by what it stands on -/
theorem mMany_f (hJ : zJ κ L2 kd2 σ2) (hm : zT L2 kd2 m0 11) (hs : s.2 = σ2.2) {t : zS} (g : zFr (zBg m0 (mR σ2 m0 49) σ2.2.2) s t) : F_X11_many m0 t = F_X11_many m0 s := by
  have rs : s.2.2 = σ2.2.2 := by rw [hs]
  unfold F_X11_many
  simp only [zlt]
  rw [g.rf, show (s.2.2 m0 21).getD 0 = mR σ2 m0 21 by rw [rs]]
  have k18 : t.1 m0 18 = s.1 m0 18 := g.2 _ _ (by
    rintro ((⟨-, q⟩ | ⟨t, ht, e⟩) | ⟨e, -⟩)
    · exact absurd q (by decide)
    · have h2 : zf 0 11 t = some (100 + t) := by
        simp only [List.mem_cons, List.not_mem_nil, or_false] at ht
        rcases ht with rfl | rfl | rfl <;> rfl
      exact mR_m hJ hm h2 (by omega) e.symm
    · exact mR_m hJ hm (s := 49) (k := 149) (by rfl) (by decide) e.symm)
  have k21 : ∀ j, t.1 (mR σ2 m0 21) j = s.1 (mR σ2 m0 21) j := fun j => g.2 _ _ (by
    rintro ((⟨e, -⟩ | ⟨t, ht, e⟩) | ⟨e, -⟩)
    · exact mR_m hJ hm (s := 21) (k := 121) (by rfl) (by decide) e
    · have h2 : zf 0 11 t = some (100 + t) ∧ t ≠ 21 := by
        simp only [List.mem_cons, List.not_mem_nil, or_false] at ht
        rcases ht with rfl | rfl | rfl <;> exact ⟨by rfl, by decide⟩
      exact mR_ne hJ hm (s := 21) (s' := t) (k := 121) (by rfl) h2.1 (by omega) e
    · exact mR_ne hJ hm (s := 21) (s' := 49) (k := 121) (k' := 149) (by rfl) (by rfl) (by decide) e)
  rw [k18, k21]
theorem mGoes (hJ : zJ κ L2 kd2 σ2) (hm : zT L2 kd2 m0 11) (hs : s.2 = σ2.2) (h12 : (F_X11_many m0 s).toInt ≤ 12) {p : Int32} {n : Nat} (hp : p.toInt = n) (hn : n ≤ 60) : zFr (zBg m0 (mR σ2 m0 49) σ2.2.2) s (F_X11_goes m0 p s) ∧ (F_X11_goes m0 p s).1 (mR σ2 m0 49) 48 = zit n (s.1 (mR σ2 m0 49) 48) := by
  have lp : ∀ (N : Nat) (x : Int32) (i : Nat) (τ : zS), x.toInt = i → i ≤ n → n - i < N → zFr (zBg m0 (mR σ2 m0 49) σ2.2.2) s τ → zFr (zBg m0 (mR σ2 m0 49) σ2.2.2) s (F_X11_goes_2 m0 p N x τ) ∧ (F_X11_goes_2 m0 p N x τ).1 (mR σ2 m0 49) 48 = zit (n - i) (τ.1 (mR σ2 m0 49) 48) := by
    intro N
    induction N with
    | zero => intro x i τ _ _ h; exact absurd h (by omega)
    | succ N ih =>
      intro x i τ hx hi hm2 g
      rw [F_X11_goes_2]
      simp only [zlt]
      by_cases c : i < n
      · rw [if_pos (by omega)]
        obtain ⟨q1, q2⟩ := mMon hJ hm (s := τ) (g.1.trans hs) (by rw [mMany_f hJ hm hs g]; exact h12)
        obtain ⟨r1, r2⟩ := ih (x + (1 : Int32)) (i + 1) _ (zp1 hx (by omega)) (by omega) (by omega) (g.tr q1)
        refine ⟨r1, r2.trans ?_⟩
        rw [q2]
        obtain ⟨k, hk⟩ : ∃ k, n - i = k + 1 := ⟨n - i - 1, by omega⟩
        rw [show n - (i + 1) = k by omega, hk]
        rfl
      · rw [if_neg (by omega)]
        have : n - i = 0 := by omega
        rw [this]
        exact ⟨g, rfl⟩
  unfold F_X11_goes
  simp only [zlt]
  exact lp _ 0 0 s (by decide) (by omega) (by omega) zFr.id
/-- months by their number (zQ0 alone: what is won and paid is another matter) -/
theorem zRL.months0 {v1 v2 p : Int32} (h : zRL zQ0 L1 kd1 x0 m0 V ps pc sl rv sh cd σ1 σ2) (hx : zT L1 kd1 x0 10) (hI : zI κ 0 L1 kd1 σ1) (hJ : zJ κ L2 kd2 σ2) (hm : zT L2 kd2 m0 11) (hs5 : ∀ a ∈ L1, kd1 a = 5 → a = rv) (f1 : (v1, τ1) = F_X10_months x0 p σ1) (f2 : (v2, τ2) = F_X11_months m0 p σ2) : v1.toInt = v2.toInt ∧ zRL zQ0 L1 kd1 x0 m0 V ps pc sl rv sh cd τ1 τ2 := by
  obtain ⟨hL, hV, N, n, u, ⟨a1, a2, a3, a4, a5, a6, a7, a8, a9⟩, hq, hu, hh⟩ := id h
  have e0 : (0 : Int32).toInt = 0 := by decide
  have e60 : (60 : Int32).toInt = 60 := by decide
  have n48 : (48 : Int32).toNatClampNeg = 48 := by decide
  have g6 : (σ1.2.2 x0 6).getD 0 = V.1 0 := xnw hL
  have g4 : (σ1.2.2 x0 4).getD 0 = ps := by rw [hL.1.2.2.2.1]; rfl
  have g2 : (σ1.2.2 x0 2).getD 0 = rv := xrv hV
  have em : σ1.1 (V.1 0) 4 = σ2.1 (mR σ2 m0 48) 48 := by
    have := hq.2.2.1
    rw [rC_i (by decide), Nat.zero_add] at this
    exact this
  have ml : F_X11_isLong p = F_X11_in p 0 60 := by
    unfold F_X11_isLong
    simp only [zlt]
  by_cases c : 0 ≤ p.toInt ∧ p.toInt ≤ 60
  · by_cases cz : p.toInt = 0
    · unfold F_X10_months at f1
      unfold F_X11_months at f2
      simp only [zlt, ml, cWithin, mIn, e0, e60, g6, n48] at f1 f2
      rw [if_neg (fun z => z c), if_neg (by omega)] at f1
      rw [if_neg (fun z => z c), if_pos cz] at f2
      rw [show τ1 = σ1 from congrArg Prod.snd f1, show τ2 = σ2 from congrArg Prod.snd f2]
      refine ⟨?_, h⟩
      rw [show v1 = _ from congrArg Prod.fst f1, show v2 = _ from congrArg Prod.fst f2, em]
    · obtain ⟨k, hk⟩ : ∃ k : Nat, p.toInt = k := ⟨p.toInt.toNat, by omega⟩
      obtain ⟨s, e', p2, p3, p4, p5, p6, p7⟩ := zPush hL (k := 0) (by decide) a4 a5 a6 a7
      have rs : s.2.2 = σ1.2.2 := by rw [p2]
      have hLs : zLay L1 kd1 x0 s.2.2 V ps pc sl := by rw [rs]; exact hL
      have hVs : zRv L1 kd1 x0 rv sh cd s.2.2 := by rw [rs]; exact hV
      -- the class
      have f1b := f1
      unfold F_X10_months at f1b
      simp only [zlt, cWithin, e0, e60, g6, g4] at f1b
      rw [if_neg (fun z => z c), if_pos (by omega), e'] at f1b
      simp only [rs, g2, g6] at f1b
      obtain ⟨y, hy⟩ : ∃ y : zS, y = F_X5_goThrough rv ((σ1.2.2 x0 10).getD 0) (V.1 0) p (s.1 ((σ1.2.2 x0 10).getD 0) 13) s := ⟨_, rfl⟩
      obtain ⟨k1, k2, k3⟩ := cThr hLs hVs (t := (σ1.2.2 x0 10).getD 0) (v := s.1 ((σ1.2.2 x0 10).getD 0) 13) hk (by omega)
      rw [← hy] at f1b k1 k2 k3
      have y6 : (y.2.2 x0 6).getD 0 = V.1 0 := by rw [k1 x0 6 (fun z => zNk hx hV.2.1.2.1 (by decide) z.1), rs]; exact g6
      rw [y6] at f1b
      have t1 : τ1 = y := congrArg Prod.snd f1b
      -- what of the class' cells stays
      have kk : ∀ {a q : Nat}, zT L1 kd1 a q → (q ≠ 20 ∧ q ≠ 21 ∧ q ≠ 30 ∧ q ≠ 31 ∧ q ≠ 32 ∧ q ≠ 6 ∧ q ≠ 33 ∧ q ≠ 34 ∧ q ≠ 35 ∧ q ≠ 36 ∧ q ≠ 37 ∧ q ≠ 38) → a ≠ V.2.2.1 0 → a ≠ V.2.2.2 0 → ∀ j, ¬ (a = V.1 0 ∧ j = 4) → y.1 a j = s.1 a j := fun ha hq n1 n2 j n3 => k3 _ j (by
        rw [ha.2]
        rintro ((z | z | z | z) | z)
        · rw [ha.2] at z; omega
        · exact n1 z
        · exact n2 z
        · exact n3 z
        · omega)
      obtain ⟨⟨tA, tI, tW, tM⟩, -⟩ := hL.2.2.2.1 0 (by decide)
      have k0 : ∀ {a q : Nat}, zT L1 kd1 a q → (q = 2 ∨ q = 4 ∨ q = 9 ∨ q = 10) → y.1 a = s.1 a := fun ha hq => funext (fun j => kk ha (by omega) (zNk ha tW (by omega)) (zNk ha tM (by omega)) j (fun z => zNk ha tA (by omega) z.1))
      have kc : ∀ r, r < 45 → r ≠ 0 → zcc V y.1 r = zcc V s.1 r := fun r hr h0 => by
        obtain ⟨⟨uA, uI, uW, uM⟩, -⟩ := hL.2.2.2.1 r hr
        have hi := hL.2.2.2.2.1 r 0 hr (by decide)
        refine zcc.eq (fun j _ => kk uI (by decide) (zNk uI tW (by decide)) (zNk uI tM (by decide)) j (fun z => zNk uI tA (by decide) z.1)) (fun j _ => kk uW (by decide) (fun z => h0 (hi (Or.inr (Or.inr (Or.inl z))))) (zNk uW tM (by decide)) j (fun z => zNk uW tA (by decide) z.1)) (fun j _ => kk uM (by decide) (zNk uM tW (by decide)) (fun z => h0 (hi (Or.inr (Or.inr (Or.inr z))))) j (fun z => zNk uM tA (by decide) z.1)) (fun j _ => kk uA (by decide) (zNk uA tW (by decide)) (zNk uA tM (by decide)) j (fun z => h0 (hi (Or.inl z.1))))
      have c0 : (zcc V y.1 0).1 = (zcc V s.1 0).1 ∧ (zcc V y.1 0).2.2.2.1 = (zcc V s.1 0).2.2.2.1 ∧ (zcc V y.1 0).2.2.2.2.2 = (zcc V s.1 0).2.2.2.2.2 := by
        refine ⟨zt12_e (fun j _ => kk tI (by decide) (zNk tI tW (by decide)) (zNk tI tM (by decide)) j (fun z => zNk tI tA (by decide) z.1)), kk tA (by decide) (zNk tA tW (by decide)) (zNk tA tM (by decide)) 3 (fun z => by omega), kk tA (by decide) (zNk tA tW (by decide)) (zNk tA tM (by decide)) 5 (fun z => by omega)⟩
      -- the reference
      have f2b := f2
      unfold F_X11_months at f2b
      simp only [zlt, ml, mIn, e0, e60, n48] at f2b
      rw [if_neg (fun z => z c), if_neg cz] at f2b
      obtain ⟨b1, b2, b3⟩ := zCopies2 hJ hm
      obtain ⟨w, hw⟩ : ∃ w : zS, w = F_X11_copies m0 σ2 := ⟨_, rfl⟩
      rw [← hw] at f2b b1 b2 b3
      have hS : ([49, 54, 52, 53, 45, 46, 55] : List Nat).all (fun t => zf 0 11 t == some (100 + t)) = true := by rfl
      have wm : (F_X11_many m0 w).toInt = N := by
        rw [mMany, ← a2]
        unfold zM zp
        rw [zFm.fld hJ hm b3 hS (j := 18) (by rfl)]
        show (w.1 ((w.2.2 m0 21).getD 0) _).toInt = _
        rw [b3.rf]
        show (w.1 (mR σ2 m0 21) _).toInt = _
        rw [zFm.row hJ hm b3 (s := 21) (by rfl) hS (by rfl)]
      obtain ⟨q1, q2⟩ := mGoes hJ hm (s := w) b1 (by omega) hk (by omega)
      have t2 : τ2 = F_X11_records m0 (F_X11_goes m0 p w) := congrArg Prod.snd f2b
      have gall : zFr (zFm [50, 51, 47, 56] [49, 54, 52, 53, 45, 46, 55] m0 σ2.2.2) σ2 (F_X11_goes m0 p w) := by
        refine (b3.up (fun a j q => ?_)).tr (q1.up (fun a j q => ?_))
        · rcases q with ⟨e, q⟩ | ⟨t, ht, e⟩
          · exact Or.inl ⟨e, by simp only [List.mem_cons, List.not_mem_nil, or_false] at q ⊢; omega⟩
          · exact Or.inr ⟨t, ht, e⟩
        · rcases q with (⟨e, q⟩ | ⟨t, ht, e⟩) | ⟨e, -⟩
          · exact Or.inl ⟨e, by simp only [List.mem_cons, List.not_mem_nil, or_false] at q ⊢; omega⟩
          · exact Or.inr ⟨t, by simp only [List.mem_cons, List.not_mem_nil, or_false] at ht ⊢; omega, e⟩
          · exact Or.inr ⟨49, by decide, e⟩
      obtain ⟨now', hnow⟩ : ∃ r, r = rC (F_X11_goes m0 p w).1 (mR σ2 m0 49) 0 := ⟨_, rfl⟩
      have D : ∀ u : Nat, (σ2.1 m0 57).toInt = u → u ≤ 40 → zDone σ2 m0 u now' τ2 := fun u hu hu2 => by
        rw [t2]
        exact zDone.of hJ hm hu hu2 gall (by rfl) (by rfl) (by rfl) hnow.symm
      -- the row
      have rm : mR σ2 m0 49 ≠ m0 := mR_m hJ hm (s := 49) (k := 149) (by rfl) (by decide)
      have rowk : ∀ j, j < 50 → ¬ (24 ≤ j ∧ j ≤ 48) → now' j = rC σ2.1 (mR σ2 m0 48) 0 j := fun j hj hn => by
        rw [hnow, rC_i hj, rC_i hj, Nat.zero_add, ← b2 j hj]
        refine q1.2 _ _ ?_
        rintro ((⟨e, -⟩ | ⟨t, ht, e⟩) | ⟨-, z1, z2⟩)
        · exact rm e
        · have h2 : zf 0 11 t = some (100 + t) ∧ t ≠ 49 := by
            simp only [List.mem_cons, List.not_mem_nil, or_false] at ht
            rcases ht with rfl | rfl | rfl <;> exact ⟨by rfl, by decide⟩
          exact mR_ne hJ hm (s := 49) (s' := t) (k := 149) (by rfl) h2.1 (by omega) e
        · exact hn ⟨z1, z2⟩
      have row48 : now' 48 = zit k (rC σ2.1 (mR σ2 m0 48) 0 48) := by
        rw [hnow, rC_i (by decide), rC_i (by decide), Nat.zero_add, q2, b2 48 (by decide)]
      have R : zRL zQ0 L1 kd1 x0 m0 V ps pc sl rv sh cd τ1 τ2 := by
        refine h.act hx hI (fun a ha h5 => ?_) (fun a ha h5 j j5 j6 => ?_) (fun a ha hk => ?_) ?_ (fun r hr h0 _ => ?_) D (fun N' z1 z2 z3 z4 => ?_)
        · rw [t1]
          funext j
          rw [k1 a j (fun z => h5 (by rw [z.1]; exact hV.2.1.2.1.2)), rs]
        · rw [t1, k1 a j (fun z => by omega), rs]
        · rw [t1, k0 ⟨ha, rfl⟩ (by omega)]
          refine p7 a ha (fun z => ?_)
          simp only [List.mem_cons, List.not_mem_nil, or_false] at z
          omega
        · rw [t1, e', k0 hL.2.2.2.2.2.2.1 (by omega)]
        · rw [t1, e', kc r hr h0]
        · have eN : N' = N := by omega
          subst eN
          obtain ⟨w1, w2, w3, w4⟩ := z4
          have s0 : zcc V s.1 0 = zcc V σ1.1 0 := p4 0 (by decide) (by omega)
          rw [t1]
          refine ⟨fun j h1 h2 => ?_, fun j h1 h2 => ?_, ?_, ?_⟩
          · rw [c0.1, s0, rowk j (by omega) (by omega)]; exact w1 j h1 h2
          · rw [c0.2.1, s0, rowk (12 + j) (by omega) (by omega)]; exact w2 j h1 h2
          · rw [row48, ← w3, ← s0]; exact k2
          · rw [c0.2.2, s0, rowk 49 (by omega) (by omega)]; exact w4
      refine ⟨?_, R⟩
      -- the answers
      have hd := (D u a8 a7)
      obtain ⟨d0, -, d2, -⟩ := hd
      have av : v2 = τ2.1 (mR σ2 m0 48) 48 := by
        rw [show v2 = _ from congrArg Prod.fst f2b, t2]
        show (F_X11_records m0 (F_X11_goes m0 p w)).1 (((F_X11_records m0 (F_X11_goes m0 p w)).2.2 m0 48).getD 0) 48 = _
        rw [← t2, d0]
      have bv : τ2.1 (mR σ2 m0 48) 48 = now' 48 := by
        rw [← d2, rC_i (by decide), Nat.zero_add]
      rw [show v1 = _ from congrArg Prod.fst f1b, av, bv, row48, rC_i (by decide), Nat.zero_add, ← em, k2]
      have : s.1 (V.1 0) 4 = σ1.1 (V.1 0) 4 := by
        have := congrArg (fun c : zCo => c.2.2.2.2.1) (p4 0 (by decide) (by omega))
        exact this
      rw [this]
  · unfold F_X10_months at f1
    unfold F_X11_months at f2
    simp only [zlt, ml, cWithin, mIn, e0, e60] at f1 f2
    rw [if_pos c] at f1 f2
    cases f1
    cases f2
    exact ⟨rfl, h⟩
end ZREL9
end
-- 35x19.rel10
section
/-! WAYS: the class asks one place's way to the mouth, the reference fills all of them -/
def stp (r : Nat → Int32) (p : Int32) : Int32 := if 0 < p.toInt then r p.toNatClampNeg else p
def pa (r : Nat → Int32) : Nat → Int32 → Int32
  | 0, p => p
  | k + 1, p => stp r (pa r k p)
/-- a row that leads to the mouth (N places) -/
def zRow (N : Nat) (r : Nat → Int32) : Prop := ∃ q : Int → Nat, (∀ c : Nat, 1 ≤ c → c < N → 0 ≤ (r c).toInt ∧ (r c).toInt < N ∧ q (r c).toInt < q c) ∧ ∀ c, q c ≤ 12
section WAYS
variable {N : Nat} {r r' : Nat → Int32} {p t : Int32} {σ s : zS} {m0 : Nat}
theorem zRow.of (h : gN m0 σ) (hM : zM m0 σ = N) (hN : N ≤ 12) : zRow N (σ.1 (mR σ m0 48)) := by
  unfold gN at h
  rw [hM] at h
  obtain ⟨q, h1, h2⟩ := gRow.rankB (by omega) h
  exact ⟨q, fun c hc1 hc2 => h1 c (by omega) (by omega), h2⟩
theorem zRow.cg (h : zRow N r) (e : ∀ c, 1 ≤ c → c < N → r' c = r c) : zRow N r' := by
  obtain ⟨q, h1, h2⟩ := h
  exact ⟨q, fun c hc1 hc2 => by rw [e c hc1 hc2]; exact h1 c hc1 hc2, h2⟩
theorem stp_in (h : zRow N r) (h0 : 0 ≤ p.toInt) (h1 : p.toInt < N) : 0 ≤ (stp r p).toInt ∧ (stp r p).toInt < N := by
  obtain ⟨q, q1, q2⟩ := h
  unfold stp
  by_cases c : 0 < p.toInt
  · rw [if_pos c]
    have := q1 p.toNatClampNeg (by rw [ztn]; omega) (by rw [ztn]; omega)
    exact ⟨this.1, this.2.1⟩
  · rw [if_neg c]
    exact ⟨h0, h1⟩
theorem pa_in (h : zRow N r) (h0 : 0 ≤ p.toInt) (h1 : p.toInt < N) : ∀ k, 0 ≤ (pa r k p).toInt ∧ (pa r k p).toInt < N
  | 0 => ⟨h0, h1⟩
  | k + 1 => stp_in h (pa_in h h0 h1 k).1 (pa_in h h0 h1 k).2
theorem pa_0 {k : Nat} (h : (pa r k p).toInt = 0) : ∀ j, k ≤ j → (pa r j p).toInt = 0 := by
  intro j hj
  induction j with
  | zero => obtain rfl : k = 0 := by omega
            exact h
  | succ j ih =>
    by_cases c : k = j + 1
    · rw [← c]; exact h
    · have z := ih (by omega)
      show (stp r (pa r j p)).toInt = 0
      unfold stp
      rw [if_neg (by omega)]
      exact z
theorem pa_cg (h : zRow N r) (e : ∀ c, 1 ≤ c → c < N → r' c = r c) (h0 : 0 ≤ p.toInt) (h1 : p.toInt < N) : ∀ k, pa r' k p = pa r k p
  | 0 => rfl
  | k + 1 => by
    show stp r' (pa r' k p) = stp r (pa r k p)
    rw [pa_cg h e h0 h1 k]
    obtain ⟨z0, z1⟩ := pa_in h h0 h1 k
    unfold stp
    by_cases c : 0 < (pa r k p).toInt
    · rw [if_pos c, if_pos c, e _ (by rw [ztn]; omega) (by rw [ztn]; omega)]
    · rw [if_neg c, if_neg c]
/-- what lies on the way lies on its first twelve places -/
theorem pa_12 (h : zRow N r) (h0 : 0 ≤ p.toInt) (h1 : p.toInt < N) {k : Nat} (hk : 0 < (pa r k p).toInt) : k ≤ 12 := by
  obtain ⟨q, q1, q2⟩ := id h
  have key : ∀ k, 0 < (pa r k p).toInt → q (pa r k p).toInt + k ≤ q p.toInt := by
    intro k
    induction k with
    | zero => intro _; exact Nat.le_refl _
    | succ k ih =>
      intro hk
      obtain ⟨z0, z1⟩ := pa_in h h0 h1 k
      have c : 0 < (pa r k p).toInt := by
        apply Classical.byContradiction
        intro n
        have := pa_0 (r := r) (p := p) (k := k) (by omega) (k + 1) (by omega)
        omega
      have e : pa r (k + 1) p = r (pa r k p).toNatClampNeg := by
        show stp r (pa r k p) = _
        unfold stp
        rw [if_pos c]
      have := (q1 (pa r k p).toNatClampNeg (by rw [ztn]; omega) (by rw [ztn]; omega)).2.2
      rw [show (((pa r k p).toNatClampNeg : Nat) : Int) = (pa r k p).toInt by rw [ztn]; omega] at this
      have i2 := ih c
      rw [e]
      omega
  have := key k hk
  have := q2 p.toInt
  omega
/-- the class goes along the way -/
theorem cCom_l {a : Nat} (hr : zRow N (σ.1 ((σ.2.2 a 0).getD 0))) (h0 : 0 ≤ p.toInt) (h1 : p.toInt < N) (ht : 1 ≤ t.toInt) : ∀ (n : Nat) (x : Int32) (i : Nat), x.toInt = i → i ≤ 12 → 12 - i < n → (F_X1_comesBy_5 a p t n x (pa (σ.1 ((σ.2.2 a 0).getD 0)) i p) σ).2 = σ ∧ ((F_X1_comesBy_5 a p t n x (pa (σ.1 ((σ.2.2 a 0).getD 0)) i p) σ).1.toInt = 0 ↔ ∀ k, i ≤ k → k ≤ 12 → (pa (σ.1 ((σ.2.2 a 0).getD 0)) k p).toInt ≠ t.toInt) := by
  intro n
  have e12 : (12 : Int32).toInt = 12 := by decide
  induction n with
  | zero => intro x i _ _ h; exact absurd h (by omega)
  | succ n ih =>
    intro x i hx hi hm
    obtain ⟨z0, z1⟩ := pa_in hr h0 h1 i
    rw [F_X1_comesBy_5]
    simp only [zlt, e12]
    by_cases c : (pa (σ.1 ((σ.2.2 a 0).getD 0)) i p).toInt = t.toInt
    · simp only [if_pos c, ite_self]
      exact ⟨trivial, fun h => absurd h (by decide), fun h => absurd c (h i (Nat.le_refl _) hi)⟩
    · simp only [if_neg c]
      by_cases cx : i < 12
      · rw [if_pos (by omega)]
        by_cases c0 : (pa (σ.1 ((σ.2.2 a 0).getD 0)) i p).toInt = 0
        · rw [if_pos c0]
          refine ⟨rfl, fun _ k k1 _ z => ?_, fun _ => (by decide : (0 : Int32).toInt = 0)⟩
          have := pa_0 c0 k k1
          omega
        · rw [if_neg c0]
          have e : σ.1 ((σ.2.2 a 0).getD 0) (pa (σ.1 ((σ.2.2 a 0).getD 0)) i p).toNatClampNeg = pa (σ.1 ((σ.2.2 a 0).getD 0)) (i + 1) p := by
            show _ = stp _ (pa _ i p)
            unfold stp
            rw [if_pos (by omega)]
          rw [e]
          obtain ⟨q1, q2⟩ := ih (x + (1 : Int32)) (i + 1) (zp1 hx (by omega)) (by omega) (by omega)
          refine ⟨q1, fun h k k1 k2 => ?_, fun h => q2.mpr (fun k k1 k2 => h k (by omega) k2)⟩
          by_cases e : k = i
          · subst e; exact c
          · exact q2.mp h k (by omega) k2
      · rw [if_neg (by omega)]
        exact ⟨rfl, fun _ k k1 k2 => by obtain rfl : k = i := by omega
                                        exact c, fun _ => (by decide : (0 : Int32).toInt = 0)⟩
theorem cCom {a : Nat} (hr : zRow N (σ.1 ((σ.2.2 a 0).getD 0))) (h0 : 0 ≤ p.toInt) (h1 : p.toInt < N) (ht : 1 ≤ t.toInt) : (F_X1_comesBy a p t σ).2 = σ ∧ ((F_X1_comesBy a p t σ).1.toInt = 0 ↔ ¬ ∃ k, (pa (σ.1 ((σ.2.2 a 0).getD 0)) k p).toInt = t.toInt) := by
  unfold F_X1_comesBy
  simp only [zlt]
  obtain ⟨q1, q2⟩ := cCom_l (a := a) hr h0 h1 ht 10000 0 0 (by decide) (by omega) (by omega)
  refine ⟨q1, ?_⟩
  refine q2.trans ⟨fun h ⟨k, hk⟩ => h k (by omega) (pa_12 hr h0 h1 (k := k) (by omega)) hk, fun h k _ _ hk => h ⟨k, hk⟩⟩
end WAYS
end
-- 35x20.rel11
section
/-! THE REFERENCE FILLS THE WAYS: bit j of place t: the water of j comes by t -/
theorem nI_t {n : Nat} (h : n < 32) : (nI n).toInt = (n : Int) := by
  have key : ∀ n : Nat, n < 32 → (nI n).toInt = (n : Int) := by decide +kernel
  exact key n h
theorem bt_1 {n i : Nat} (hn : n < 32) (hi : i < 32) : bt ((1 : Int32) <<< (nI n &&& 31)) i = decide (i = n) := by
  rw [b_shl n hn 1 hi, b_one _ (by omega)]
  by_cases c : i = n
  · subst c; simp
  · by_cases c2 : n ≤ i
    · have : i - n ≠ 0 := by omega
      simp [c, this]
    · simp [c, c2]
/-- the bits while place i is under way (E: what its way has come by) -/
def zBi (N : Nat) (r : Nat → Int32) (f : Nat → Int32) (i : Nat) (E : Nat → Prop) : Prop := ∀ t j, t < N → j < 32 → (bt (f t) j = true ↔ (j < i ∧ ∃ k, (pa r k (nI j)).toInt = t) ∨ (j = i ∧ E t))
theorem zBi.add {N i v : Nat} {r f : Nat → Int32} {E : Nat → Prop} (h : zBi N r f i E) (hi : i < 32) : zBi N r (fun j => if j = v then f v ||| ((1 : Int32) <<< (nI i &&& 31)) else f j) i (fun t => E t ∨ t = v) := by
  intro t j ht hj
  show bt (if t = v then f v ||| ((1 : Int32) <<< (nI i &&& 31)) else f t) j = true ↔ (j < i ∧ ∃ k, (pa r k (nI j)).toInt = t) ∨ (j = i ∧ (E t ∨ t = v))
  by_cases c : t = v
  · subst c
    rw [if_pos rfl, b_or, bt_1 hi (by omega), Bool.or_eq_true, h t j ht hj, decide_eq_true_eq]
    constructor
    · rintro ((h | ⟨h, h2⟩) | h)
      · exact Or.inl h
      · exact Or.inr ⟨h, Or.inl h2⟩
      · exact Or.inr ⟨h, Or.inr rfl⟩
    · rintro (h | ⟨h, -⟩)
      · exact Or.inl (Or.inl h)
      · exact Or.inr h
  · rw [if_neg c, h t j ht hj]
    constructor
    · rintro (h | ⟨h, h2⟩)
      · exact Or.inl h
      · exact Or.inr ⟨h, Or.inl h2⟩
    · rintro (h | ⟨h, h2 | h2⟩)
      · exact Or.inl h
      · exact Or.inr ⟨h, h2⟩
      · exact absurd h2 c
theorem zBi.e {N i : Nat} {r f g : Nat → Int32} {E G : Nat → Prop} (h : zBi N r f i E) (e : ∀ j, g j = f j) (eE : ∀ t, t < N → (G t ↔ E t)) : zBi N r g i G := by
  intro t j ht hj
  rw [e t, h t j ht hj, eE t ht]
section FILLS
variable {N m0 a b c w : Nat} {r : Nat → Int32} {s : zS}
/-- what is written: three rows -/
def zAw (a b c : Nat) : Nat → Nat → Prop := fun x _ => x = a ∨ x = b ∨ x = c
theorem mWay1 (ab : a ≠ b) (ac : a ≠ c) (wa : w ≠ a) (wb : w ≠ b) (wc : w ≠ c) (ga : (s.2.2 m0 54).getD 0 = a) (gb : (s.2.2 m0 52).getD 0 = b) (gc : (s.2.2 m0 53).getD 0 = c) (gw : (s.2.2 m0 49).getD 0 = w) (hr : zRow N (s.1 w)) {i : Nat} (hi : i < N) (hN : N ≤ 12) {kA kB : Int32 → zS → zS} {q : Int → Nat} (hq : ∀ c : Nat, 1 ≤ c → c < N → q (s.1 w c).toInt < q c) : ∀ (n k : Nat) (τ : zS), q (pa (s.1 w) k (nI i)).toInt < n → zFr (zAw a b c) s τ → zBi N (s.1 w) (τ.1 a) i (fun t => ∃ k', k' ≤ k ∧ (pa (s.1 w) k' (nI i)).toInt = t) → ∃ τ', zFr (zAw a b c) s τ' ∧ zBi N (s.1 w) (τ'.1 a) (i + 1) (fun _ => False) ∧ F_X11_fillsWays_61 (nI i) m0 kA kB n (pa (s.1 w) k (nI i)) τ = kB (nI i + (1 : Int32)) τ' := by
  have i0 : (nI i).toInt = (i : Int) := nI_t (by omega)
  intro n
  induction n with
  | zero => intro k τ h; exact absurd h (by omega)
  | succ n ih =>
    intro k τ hk g hb
    obtain ⟨z0, z1⟩ := pa_in (p := nI i) hr (by omega) (by omega) k
    have r0 : τ.2.2 = s.2.2 := g.rf
    rw [F_X11_fillsWays_61]
    by_cases cz : 0 < (pa (s.1 w) k (nI i)).toInt
    · rw [if_pos cz]
      simp only [zlt, r0, ga, gb, gc, gw]
      have ep : pa (s.1 w) (k + 1) (nI i) = s.1 w (pa (s.1 w) k (nI i)).toNatClampNeg := by
        show stp _ (pa _ k _) = _
        unfold stp
        rw [if_pos cz]
      obtain ⟨τ3, e3⟩ : ∃ τ3 : zS, τ3 = (zu (zu τ.1 b (nI i).toNatClampNeg (τ.1 b (nI i).toNatClampNeg + τ.1 ((s.2.2 m0 23).getD 0) ((12 : Int32) * τ.1 m0 18 + pa (s.1 w) k (nI i)).toNatClampNeg)) c (nI i).toNatClampNeg (zu τ.1 b (nI i).toNatClampNeg (τ.1 b (nI i).toNatClampNeg + τ.1 ((s.2.2 m0 23).getD 0) ((12 : Int32) * τ.1 m0 18 + pa (s.1 w) k (nI i)).toNatClampNeg) c (nI i).toNatClampNeg + (1 : Int32)), τ.2.1, s.2.2) := ⟨_, rfl⟩
      have g3 : zFr (zAw a b c) s τ3 := by
        rw [e3, ← r0]
        exact (g.w (Or.inr (Or.inl rfl))).w (Or.inr (Or.inr rfl))
      have w3 : τ3.1 w = s.1 w := funext (fun j => g3.2 _ _ (fun z => z.elim wa (fun z => z.elim wb wc)))
      have a3 : τ3.1 a = τ.1 a := by
        rw [e3]
        show zu (zu τ.1 b _ _) c _ _ a = _
        rw [zu_n _ _ _ ac, zu_n _ _ _ ab]
      have E : ∀ (x : Int32) (τ4 : zS), x = pa (s.1 w) (k + 1) (nI i) → τ4 = (zu τ3.1 a x.toNatClampNeg (τ3.1 a x.toNatClampNeg ||| ((1 : Int32) <<< (nI i &&& 31))), τ3.2.1, τ3.2.2) → ∃ τ', zFr (zAw a b c) s τ' ∧ zBi N (s.1 w) (τ'.1 a) (i + 1) (fun _ => False) ∧ F_X11_fillsWays_61 (nI i) m0 kA kB n x τ4 = kB (nI i + (1 : Int32)) τ' := fun x τ4 ex e4 => by
        rw [ex] at e4 ⊢
        obtain ⟨y0, y1⟩ := pa_in (p := nI i) hr (by omega) (by omega) (k + 1)
        refine ih (k + 1) τ4 ?_ (by rw [e4]; exact g3.w (Or.inl rfl)) ((hb.add (v := (pa (s.1 w) (k + 1) (nI i)).toNatClampNeg) (by omega)).e (fun j => ?_) (fun t ht => ?_))
        · have := hq (pa (s.1 w) k (nI i)).toNatClampNeg (by rw [ztn]; omega) (by rw [ztn]; omega)
          rw [show (((pa (s.1 w) k (nI i)).toNatClampNeg : Nat) : Int) = (pa (s.1 w) k (nI i)).toInt by rw [ztn]; omega, ← ep] at this
          omega
        · rw [e4]
          show zu τ3.1 a _ _ a j = _
          by_cases cj : j = (pa (s.1 w) (k + 1) (nI i)).toNatClampNeg
          · rw [if_pos cj, cj, zu_s, a3]
          · rw [if_neg cj, zu_j _ _ _ _ _ (fun z => cj z.symm), a3]
        · constructor
          · rintro ⟨k', k1, k2⟩
            by_cases ck : k' = k + 1
            · subst ck
              exact Or.inr (by rw [ztn]; omega)
            · exact Or.inl ⟨k', by omega, k2⟩
          · rintro (⟨k', k1, k2⟩ | e)
            · exact ⟨k', by omega, k2⟩
            · exact ⟨k + 1, Nat.le_refl _, by rw [e, ztn]; omega⟩
      have Z := E (τ3.1 w (pa (s.1 w) k (nI i)).toNatClampNeg) _ (by rw [w3, ep]) rfl
      rw [e3] at Z
      exact Z
    · rw [if_neg cz]
      simp only [zlt]
      refine ⟨τ, g, fun t j ht hj => ?_, rfl⟩
      rw [hb t j ht hj]
      constructor
      · rintro (⟨h, h2⟩ | ⟨h, k', k1, k2⟩)
        · exact Or.inl ⟨by omega, h2⟩
        · exact Or.inl ⟨by omega, k', by rw [h]; exact k2⟩
      · rintro (⟨h, k', k2⟩ | ⟨-, h⟩)
        · by_cases cj : j < i
          · exact Or.inl ⟨cj, k', k2⟩
          · obtain rfl : j = i := by omega
            by_cases ck : k' ≤ k
            · exact Or.inr ⟨rfl, k', ck, k2⟩
            · refine Or.inr ⟨rfl, k, Nat.le_refl _, ?_⟩
              have := pa_0 (r := s.1 w) (p := nI j) (k := k) (by omega) k' (by omega)
              omega
        · exact h.elim
end FILLS
end
-- 35x21.rel12
section
section FILLS2
variable {N m0 a b c w : Nat} {r : Nat → Int32} {s : zS}
theorem zNi {x : Int32} {i : Nat} (h : x.toInt = i) (hi : i < 32) : x = nI i := by
  obtain ⟨n, n1, n2, n3⟩ := zq_n (x := x) (by omega) (by omega)
  have : n = i := by omega
  rw [n2, this]
theorem mWay2 (ab : a ≠ b) (ac : a ≠ c) (wa : w ≠ a) (wb : w ≠ b) (wc : w ≠ c) (ga : (s.2.2 m0 54).getD 0 = a) (gb : (s.2.2 m0 52).getD 0 = b) (gc : (s.2.2 m0 53).getD 0 = c) (gw : (s.2.2 m0 49).getD 0 = w) (hr : zRow N (s.1 w)) (hN : N ≤ 12) (hM : ∀ τ, zFr (zAw a b c) s τ → (F_X11_many m0 τ).toInt = N) {kA : Int32 → zS → zS} : ∀ (n : Nat) (x : Int32) (i : Nat) (τ : zS), x.toInt = i → i ≤ N → N - i < n → zFr (zAw a b c) s τ → zBi N (s.1 w) (τ.1 a) i (fun _ => False) → zFr (zAw a b c) s (F_X11_fillsWays_25 m0 kA n x τ) ∧ zBi N (s.1 w) ((F_X11_fillsWays_25 m0 kA n x τ).1 a) N (fun _ => False) := by
  obtain ⟨q, hq1, hq2⟩ := id hr
  intro n
  induction n with
  | zero => intro x i τ _ _ h; exact absurd h (by omega)
  | succ n ih =>
    intro x i τ hx hi hm g hb
    have ex : x = nI i := zNi hx (by omega)
    have r0 : τ.2.2 = s.2.2 := g.rf
    have M := hM τ g
    rw [F_X11_fillsWays_25]
    simp only [zlt, r0, ga, gb, gc]
    by_cases cx : i < N
    · rw [if_pos (by omega), ex]
      have i0 : (nI i).toInt = (i : Int) := nI_t (by omega)
      obtain ⟨τ3, e3⟩ : ∃ τ3 : zS, τ3 = (zu (zu τ.1 b (nI i).toNatClampNeg (0 : Int32)) c (nI i).toNatClampNeg (0 : Int32), τ.2.1, s.2.2) := ⟨_, rfl⟩
      have g3 : zFr (zAw a b c) s τ3 := by
        rw [e3, ← r0]
        exact (g.w (Or.inr (Or.inl rfl))).w (Or.inr (Or.inr rfl))
      have a3 : τ3.1 a = τ.1 a := by
        rw [e3]
        show zu (zu τ.1 b _ _) c _ _ a = _
        rw [zu_n _ _ _ ac, zu_n _ _ _ ab]
      have ni : (nI i).toNatClampNeg = i := by rw [ztn, i0]; rfl
      have E : ∀ τ4 : zS, τ4 = (zu τ3.1 a (nI i).toNatClampNeg (τ3.1 a (nI i).toNatClampNeg ||| ((1 : Int32) <<< (nI i &&& 31))), τ3.2.1, τ3.2.2) → zFr (zAw a b c) s (F_X11_fillsWays_61 (nI i) m0 kA (F_X11_fillsWays_25 m0 kA n) 10000 (nI i) τ4) ∧ zBi N (s.1 w) ((F_X11_fillsWays_61 (nI i) m0 kA (F_X11_fillsWays_25 m0 kA n) 10000 (nI i) τ4).1 a) N (fun _ => False) := fun τ4 e4 => by
        have g4 : zFr (zAw a b c) s τ4 := by rw [e4]; exact g3.w (Or.inl rfl)
        obtain ⟨τ5, k1, k2, k3⟩ := mWay1 ab ac wa wb wc ga gb gc gw hr cx hN (kA := kA) (kB := F_X11_fillsWays_25 m0 kA n) (q := q) (fun c c1 c2 => (hq1 c c1 c2).2.2) 10000 0 τ4 (by have := hq2 (pa (s.1 w) 0 (nI i)).toInt; omega) g4 ((hb.add (v := i) (by omega)).e (fun j => by
          rw [e4]
          show zu τ3.1 a _ _ a j = _
          rw [ni]
          by_cases cj : j = i
          · rw [if_pos cj, cj, zu_s, a3]
          · rw [if_neg cj, zu_j _ _ _ _ _ (fun z => cj z.symm), a3]) (fun t ht => by
          constructor
          · rintro ⟨k', h1, h2⟩
            obtain rfl : k' = 0 := by omega
            have h3 : (nI i).toInt = (t : Int) := h2
            exact Or.inr (by omega)
          · rintro (h | h)
            · exact h.elim
            · exact ⟨0, Nat.le_refl _, by rw [h]; exact i0⟩))
        have k3' : F_X11_fillsWays_61 (nI i) m0 kA (F_X11_fillsWays_25 m0 kA n) 10000 (nI i) τ4 = F_X11_fillsWays_25 m0 kA n (nI i + (1 : Int32)) τ5 := k3
        rw [k3']
        exact ih _ (i + 1) τ5 (zp1 i0 (by omega)) (by omega) (by omega) k1 k2
      have Z := E _ rfl
      rw [e3] at Z
      exact Z
    · rw [if_neg (by omega)]
      obtain rfl : i = N := by omega
      exact ⟨g, hb⟩
theorem mWay3 (ab : a ≠ b) (ac : a ≠ c) (wa : w ≠ a) (wb : w ≠ b) (wc : w ≠ c) (ga : (s.2.2 m0 54).getD 0 = a) (gb : (s.2.2 m0 52).getD 0 = b) (gc : (s.2.2 m0 53).getD 0 = c) (gw : (s.2.2 m0 49).getD 0 = w) (hr : zRow N (s.1 w)) (hN : N ≤ 12) (hM : ∀ τ, zFr (zAw a b c) s τ → (F_X11_many m0 τ).toInt = N) : ∀ (n : Nat) (x : Int32) (i : Nat) (τ : zS), x.toInt = i → i ≤ N → N - i < n → zFr (zAw a b c) s τ → (∀ t, t < i → τ.1 a t = 0) → zFr (zAw a b c) s (F_X11_fillsWays_2 m0 n x τ) ∧ zBi N (s.1 w) ((F_X11_fillsWays_2 m0 n x τ).1 a) N (fun _ => False) := by
  intro n
  induction n with
  | zero => intro x i τ _ _ h; exact absurd h (by omega)
  | succ n ih =>
    intro x i τ hx hi hm g hb
    have ex : x = nI i := zNi hx (by omega)
    have r0 : τ.2.2 = s.2.2 := g.rf
    have M := hM τ g
    rw [F_X11_fillsWays_2]
    simp only [zlt, r0, ga]
    by_cases cx : i < N
    · rw [if_pos (by omega)]
      have nx : x.toNatClampNeg = i := by rw [ztn, hx]; rfl
      refine ih (x + (1 : Int32)) (i + 1) _ (zp1 hx (by omega)) (by omega) (by omega) (by rw [← r0]; exact g.w (Or.inl rfl)) (fun t ht => ?_)
      show zu τ.1 a x.toNatClampNeg 0 a t = 0
      rw [nx]
      by_cases e : t = i
      · rw [e, zu_s]
      · rw [zu_j _ _ _ _ _ (fun z => e z.symm)]
        exact hb t (by omega)
    · rw [if_neg (by omega)]
      obtain rfl : i = N := by omega
      refine mWay2 ab ac wa wb wc ga gb gc gw hr hN hM 10000 0 0 τ (by decide) (by omega) (by omega) g (fun t j ht hj => ?_)
      rw [hb t ht, b_0]
      constructor
      · intro h; cases h
      · rintro (⟨h, -⟩ | ⟨-, h⟩)
        · omega
        · exact h.elim
end FILLS2
section FILLS3
variable {L : List Nat} {kd : Nat → Nat} {m0 N : Nat} {σ s : zS} {κ : Int}
/-- the bits, all ways gone -/
theorem mWays (hJ : zJ κ L kd σ) (hm : zT L kd m0 11) (hs : s.2 = σ.2) (hM : (F_X11_many m0 s).toInt = N) (hN : N ≤ 12) (hr : zRow N (s.1 (mR σ m0 49))) {t j : Nat} (ht : t < N) (hj : j < N) : bt ((F_X11_fillsWays m0 s).1 (mR σ m0 54) t) j = true ↔ ∃ k, (pa (s.1 (mR σ m0 49)) k (nI j)).toInt = t := by
  have rs : s.2.2 = σ.2.2 := by rw [hs]
  have ne : ∀ {x y : Nat}, zf 0 11 x = some (100 + x) → zf 0 11 y = some (100 + y) → x ≠ y → mR σ m0 x ≠ mR σ m0 y := fun h1 h2 h3 => mR_ne hJ hm h1 h2 (by omega)
  have g : ∀ x, (s.2.2 m0 x).getD 0 = mR σ m0 x := fun x => by rw [rs]
  have many : ∀ τ, zFr (zAw (mR σ m0 54) (mR σ m0 52) (mR σ m0 53)) s τ → (F_X11_many m0 τ).toInt = N := fun τ h => by
    rw [← hM]
    unfold F_X11_many
    simp only [zlt]
    rw [h.rf, g 21]
    rw [h.2 m0 18 (fun z => z.elim (fun z => mR_m hJ hm (s := 54) (k := 154) (by rfl) (by decide) z.symm) (fun z => z.elim (fun z => mR_m hJ hm (s := 52) (k := 152) (by rfl) (by decide) z.symm) (fun z => mR_m hJ hm (s := 53) (k := 153) (by rfl) (by decide) z.symm)))]
    rw [h.2 (mR σ m0 21) _ (fun z => z.elim (ne (by rfl) (by rfl) (by decide)) (fun z => z.elim (ne (by rfl) (by rfl) (by decide)) (ne (by rfl) (by rfl) (by decide))))]
  obtain ⟨-, q⟩ := mWay3 (s := s) (m0 := m0) (ne (x := 54) (y := 52) (by rfl) (by rfl) (by decide)) (ne (x := 54) (y := 53) (by rfl) (by rfl) (by decide)) (ne (x := 49) (y := 54) (by rfl) (by rfl) (by decide)) (ne (x := 49) (y := 52) (by rfl) (by rfl) (by decide)) (ne (x := 49) (y := 53) (by rfl) (by rfl) (by decide)) (g 54) (g 52) (g 53) (g 49) hr hN many 10000 0 0 s (by decide) (by omega) (by omega) zFr.id (fun t ht => absurd ht (by omega))
  unfold F_X11_fillsWays
  simp only [zlt]
  rw [q t j ht (by omega)]
  exact ⟨fun h => h.elim (fun h => h.2) (fun h => h.2.elim), fun h => Or.inl ⟨hj, h⟩⟩
/-- a bit, moved down and cut out -/
theorem bt_cut {x p : Int32} {k : Nat} (hp : p.toInt = k) (hk : k < 32) : (((x >>> (p &&& 31)) &&& (1 : Int32)).toInt = 0 ↔ ¬ bt x k = true) ∧ (((x >>> (p &&& 31)) &&& (1 : Int32)).toInt = 1 ↔ bt x k = true) := by
  rw [zNi hp hk]
  have key : (x >>> (nI k &&& 31)) &&& (1 : Int32) = if bt x k = true then 1 else 0 := b_ext (fun i hi => by
    rw [b_and, b_sshr k hk x hi, b_one i hi]
    by_cases c : i = 0
    · subst c
      rw [if_pos (by omega)]
      by_cases h : bt x k = true
      · rw [if_pos h, b_one 0 (by decide), Nat.add_zero, h]
        rfl
      · rw [if_neg h, b_0, Nat.add_zero]
        simp [h]
    · have z : bt (if bt x k = true then (1 : Int32) else 0) i = false := by
        split
        · rw [b_one i hi]; simp [c]
        · exact b_0 i
      rw [z]
      simp [c])
  rw [key]
  by_cases h : bt x k = true
  · rw [if_pos h]
    exact ⟨⟨fun z => absurd z (by decide), fun z => absurd h z⟩, ⟨fun _ => h, fun _ => by decide⟩⟩
  · rw [if_neg h]
    exact ⟨⟨fun _ => h, fun _ => by decide⟩, ⟨fun z => absurd z (by decide), fun z => absurd z h⟩⟩
end FILLS3
end
-- 35x22.rel13
section
/-! A TURN ON BOTH SIDES -/
/-- a turn that can be made -/
def zTu (N : Nat) (r : Nat → Int32) (p q : Int32) : Prop := 1 ≤ p.toInt ∧ p.toInt < N ∧ 0 ≤ q.toInt ∧ q.toInt < N ∧ (r p.toNatClampNeg).toInt ≠ q.toInt ∧ ¬ ∃ k, (pa r k q).toInt = p.toInt
theorem zTu.cg {N : Nat} {r r' : Nat → Int32} {p q : Int32} (hr : zRow N r) (e : ∀ c, 1 ≤ c → c < N → r' c = r c) : zTu N r' p q ↔ zTu N r p q := by
  unfold zTu
  constructor
  · rintro ⟨h1, h2, h3, h4, h5, h6⟩
    rw [e _ (by rw [ztn]; omega) (by rw [ztn]; omega)] at h5
    exact ⟨h1, h2, h3, h4, h5, fun ⟨k, hk⟩ => h6 ⟨k, by rw [pa_cg hr e h3 h4]; exact hk⟩⟩
  · rintro ⟨h1, h2, h3, h4, h5, h6⟩
    rw [← e _ (by rw [ztn]; omega) (by rw [ztn]; omega)] at h5
    exact ⟨h1, h2, h3, h4, h5, fun ⟨k, hk⟩ => h6 ⟨k, by rw [← pa_cg hr e h3 h4]; exact hk⟩⟩
section TURNC
variable {L : List Nat} {kd : Nat → Nat} {x0 N : Nat} {V : zWh} {ps pc sl : Nat} {σ : zS} {p q : Int32}
theorem cTurnOk (hL : zLay L kd x0 σ.2.2 V ps pc sl) (a1 : (σ.1 ((σ.2.2 x0 10).getD 0) 0).toInt = N) (hN : N ≤ 12) (hr : zRow N (σ.1 (V.2.1 0))) : (F_X10_isTurn x0 p q σ).2 = σ ∧ ((F_X10_isTurn x0 p q σ).1.toInt = 0 ↔ ¬ zTu N (σ.1 (V.2.1 0)) p q) := by
  have e0 : (0 : Int32).toInt = 0 := by decide
  have k1 := zN1 a1 hN
  have g6 : (σ.2.2 x0 6).getD 0 = V.1 0 := xnw hL
  obtain ⟨q0, q1, q2⟩ := hL.gA (k := 0) (by decide)
  unfold F_X10_isTurn
  simp only [zlt, zlt2, cPlace, cWithin, e0, k1, g6, q0]
  by_cases c0 : p.toInt = 0
  · rw [if_pos c0]
    exact ⟨rfl, fun _ h => by have := h.1; omega, fun _ => e0⟩
  rw [if_neg c0]
  by_cases c : 0 ≤ p.toInt ∧ p.toInt ≤ (N : Int) - 1
  · rw [if_neg (fun z => z c)]
    by_cases d : 0 ≤ q.toInt ∧ q.toInt ≤ (N : Int) - 1
    · rw [if_neg (fun z => z d)]
      by_cases e : (σ.1 (V.2.1 0) p.toNatClampNeg).toInt = q.toInt
      · rw [if_pos e]
        exact ⟨rfl, fun _ h => h.2.2.2.2.1 e, fun _ => e0⟩
      · rw [if_neg e]
        obtain ⟨m1, m2⟩ := cCom (a := V.1 0) (σ := σ) (p := q) (t := p) (N := N) (by rw [q0]; exact hr) d.1 (by omega) (by omega)
        rw [m1]
        rw [q0] at m2
        by_cases f : (F_X1_comesBy (V.1 0) q p σ).1.toInt = 0
        · rw [if_pos f]
          exact ⟨rfl, fun h => absurd h (by decide : ¬ (1 : Int32).toInt = 0), fun h => absurd ⟨by omega, by omega, d.1, by omega, e, m2.mp f⟩ h⟩
        · rw [if_neg f]
          exact ⟨rfl, fun _ h => f (m2.mpr h.2.2.2.2.2), fun _ => e0⟩
    · rw [if_pos d]
      exact ⟨rfl, fun _ h => d ⟨h.2.2.1, by have := h.2.2.2.1; omega⟩, fun _ => e0⟩
  · rw [if_pos c]
    exact ⟨rfl, fun _ h => c ⟨by have := h.1; omega, by have := h.2.1; omega⟩, fun _ => e0⟩
end TURNC
section TURNM
variable {L : List Nat} {kd : Nat → Nat} {m0 N : Nat} {σ τ : zS} {κ : Int} {p q : Int32}
theorem zCopies3 (hJ : zJ κ L kd σ) (hm : zT L kd m0 11) (h2 : τ.2 = σ.2) : (∀ j, j < 50 → (F_X11_copies m0 τ).1 (mR σ m0 49) j = τ.1 (mR σ m0 48) j) ∧ zFr (zFm [50, 51, 47] [49, 54, 52, 53, 45, 46, 55] m0 σ.2.2) τ (F_X11_copies m0 τ) := by
  have r2 : τ.2.2 = σ.2.2 := by rw [h2]
  have g : zFr (zFm [50, 51, 47] [49, 54, 52, 53, 45, 46, 55] m0 τ.2.2) τ (F_X11_copies m0 τ) := fr_X11_copies zFr.id (zFm.s rfl) (zFm.f rfl) (zFm.f rfl) (zFm.s rfl) (zFm.s rfl) (zFm.s rfl) (zFm.s rfl) (zFm.f rfl) (zFm.s rfl) (zFm.s rfl)
  rw [r2] at g
  refine ⟨fun j hj => ?_, g⟩
  rw [zCopies hJ hm h2]
  have e2 : (zCp m0 σ τ).2.2 = σ.2.2 := rfl
  have g1 : zFr (zFm [47] [54, 52, 53, 45, 46, 55] m0 σ.2.2) (zCp m0 σ τ) (F_X11_fillsWays m0 (zCp m0 σ τ)) := fr_X11_fillsWays zFr.id (by rw [e2]; exact zFm.s rfl) (by rw [e2]; exact zFm.s rfl) (by rw [e2]; exact zFm.s rfl)
  have g2 : zFr (zFm [47] [54, 52, 53, 45, 46, 55] m0 σ.2.2) (zCp m0 σ τ) (F_X11_fillsFlows m0 0 (F_X11_fillsWays m0 (zCp m0 σ τ))) := fr_X11_fillsFlows g1 (by rw [e2]; exact zFm.s rfl) (zFm.f rfl) (by rw [e2]; exact zFm.s rfl) (by rw [e2]; exact zFm.s rfl)
  have rm : mR σ m0 49 ≠ m0 := mR_m hJ hm (s := 49) (k := 149) (by rfl) (by decide)
  rw [g2.2 (mR σ m0 49) j (by
    rintro (⟨e, -⟩ | ⟨t, ht, e⟩)
    · exact rm e
    · have h2 : zf 0 11 t = some (100 + t) ∧ t ≠ 49 := by
        simp only [List.mem_cons, List.not_mem_nil, or_false] at ht
        rcases ht with rfl | rfl | rfl | rfl | rfl | rfl <;> exact ⟨by rfl, by decide⟩
      exact mR_ne hJ hm (s := 49) (s' := t) (k := 149) (by rfl) h2.1 (by omega) e)]
  show zu (zu (zcf τ.1 (mR σ m0 49) (mR σ m0 48) 0 0 0 50) m0 50 _) m0 51 0 (mR σ m0 49) j = _
  rw [zu_n _ _ _ rm, zu_n _ _ _ rm, zcf_i ⟨by omega, by omega⟩]
  exact congrArg _ (by omega)
/-- many, by its field and its row -/
theorem mMany_g {F S : List Nat} (hJ : zJ κ L kd σ) (hm : zT L kd m0 11) (g : zFr (zFm F S m0 σ.2.2) σ τ) (hS : S.all (fun t => zf 0 11 t == some (100 + t)) = true) (h1 : F.contains 18 = false) (h2 : S.contains 21 = false) : (F_X11_many m0 τ).toInt = zM m0 σ := by
  rw [mMany]
  unfold zM zp
  rw [zFm.fld hJ hm g hS (j := 18) h1]
  show (τ.1 ((τ.2.2 m0 21).getD 0) _).toInt = _
  rw [g.rf]
  show (τ.1 (mR σ m0 21) _).toInt = _
  rw [zFm.row hJ hm g (s := 21) (by rfl) hS h2]
/-- the bits behind copies -/
theorem mBits (hJ : zJ κ L kd σ) (hm : zT L kd m0 11) (hM : zM m0 σ = N) (hN : N ≤ 12) (hr : zRow N (σ.1 (mR σ m0 48))) {t j : Nat} (ht : t < N) (hj : j < N) : bt ((F_X11_copies m0 σ).1 (mR σ m0 54) t) j = true ↔ ∃ k, (pa (σ.1 (mR σ m0 48)) k (nI j)).toInt = t := by
  rw [zCopies hJ hm rfl]
  obtain ⟨s, hs⟩ : ∃ s, s = zCp m0 σ σ := ⟨_, rfl⟩
  rw [← hs]
  have rm : mR σ m0 49 ≠ m0 := mR_m hJ hm (s := 49) (k := 149) (by rfl) (by decide)
  have s2 : s.2 = σ.2 := by rw [hs]; rfl
  have rs : s.2.2 = σ.2.2 := by rw [s2]
  have row : ∀ j, j < 50 → s.1 (mR σ m0 49) j = σ.1 (mR σ m0 48) j := fun j hj => by
    rw [hs]
    show zu (zu (zcf σ.1 (mR σ m0 49) (mR σ m0 48) 0 0 0 50) m0 50 _) m0 51 0 (mR σ m0 49) j = _
    rw [zu_n _ _ _ rm, zu_n _ _ _ rm, zcf_i ⟨by omega, by omega⟩]
    exact congrArg _ (by omega)
  have base : zFr (zFm [50, 51] [49] m0 σ.2.2) σ (zcf σ.1 (mR σ m0 49) (mR σ m0 48) 0 0 0 50, σ.2.1, σ.2.2) := ⟨rfl, fun c j n => congrFun (zcf_n (fun z => n (Or.inr ⟨49, by decide, z⟩))) j⟩
  have gs : zFr (zFm [50, 51] [49] m0 σ.2.2) σ s := by
    rw [hs]
    exact (base.w (j := 50) (zFm.f (by rfl))).w (j := 51) (zFm.f (by rfl))
  have hMs : (F_X11_many m0 s).toInt = N := by rw [mMany_g hJ hm gs (by rfl) (by rfl) (by rfl), hM]
  have fl : (F_X11_fillsFlows m0 0 (F_X11_fillsWays m0 s)).1 (mR σ m0 54) t = (F_X11_fillsWays m0 s).1 (mR σ m0 54) t := by
    have rw' : (F_X11_fillsWays m0 s).2.2 = σ.2.2 := by
      have g1 : zFr (zFm [] [54, 52, 53] m0 s.2.2) s (F_X11_fillsWays m0 s) := fr_X11_fillsWays zFr.id (zFm.s rfl) (zFm.s rfl) (zFm.s rfl)
      rw [g1.rf, rs]
    have g2 : zFr (zFm [47] [45, 46, 55] m0 σ.2.2) (F_X11_fillsWays m0 s) (F_X11_fillsFlows m0 0 (F_X11_fillsWays m0 s)) := fr_X11_fillsFlows zFr.id (by rw [rw']; exact zFm.s rfl) (zFm.f rfl) (by rw [rw']; exact zFm.s rfl) (by rw [rw']; exact zFm.s rfl)
    refine g2.2 _ _ ?_
    rintro (⟨e, -⟩ | ⟨x, hx, e⟩)
    · exact mR_m hJ hm (s := 54) (k := 154) (by rfl) (by decide) e
    · have h2 : zf 0 11 x = some (100 + x) ∧ x ≠ 54 := by
        simp only [List.mem_cons, List.not_mem_nil, or_false] at hx
        rcases hx with rfl | rfl | rfl <;> exact ⟨by rfl, by decide⟩
      exact mR_ne hJ hm (s := 54) (s' := x) (k := 154) (by rfl) h2.1 (by omega) e
  rw [fl]
  have hrs : zRow N (s.1 (mR σ m0 49)) := hr.cg (fun c _ c2 => row c (by omega))
  rw [mWays hJ hm s2 hMs hN hrs ht hj]
  have ij : (nI j).toInt = (j : Int) := nI_t (by omega)
  constructor
  · rintro ⟨k, hk⟩
    exact ⟨k, by rw [← pa_cg hr (fun c _ c2 => row c (by omega)) (by omega) (by omega)]; exact hk⟩
  · rintro ⟨k, hk⟩
    exact ⟨k, by rw [pa_cg hr (fun c _ c2 => row c (by omega)) (by omega) (by omega)]; exact hk⟩
theorem mTurnOk (hJ : zJ κ L kd σ) (hm : zT L kd m0 11) (hM : zM m0 σ = N) (hN : N ≤ 12) (hr : zRow N (σ.1 (mR σ m0 48))) : (F_X11_canTurn m0 p q (F_X11_copies m0 σ)).toInt = 0 ↔ ¬ zTu N (σ.1 (mR σ m0 48)) p q := by
  have e0 : (0 : Int32).toInt = 0 := by decide
  have e1 : (1 : Int32).toInt = 1 := by decide
  obtain ⟨-, c3⟩ := zCopies3 hJ hm (τ := σ) rfl
  have hS : ([49, 54, 52, 53, 45, 46, 55] : List Nat).all (fun t => zf 0 11 t == some (100 + t)) = true := by rfl
  have k2 := zN1 (x := F_X11_many m0 (F_X11_copies m0 σ)) (N := N) (by rw [mMany_g hJ hm c3 hS (by rfl) (by rfl), hM]) hN
  have r48 : (F_X11_copies m0 σ).1 (mR σ m0 48) = σ.1 (mR σ m0 48) := zFm.row hJ hm c3 (s := 48) (by rfl) hS (by rfl)
  have g : ∀ x, ((F_X11_copies m0 σ).2.2 m0 x).getD 0 = mR σ m0 x := fun x => by rw [c3.rf]
  have B := fun {t j : Nat} (ht : t < N) (hj : j < N) => mBits hJ hm hM hN hr (t := t) (j := j) ht hj
  obtain ⟨f, hf⟩ : ∃ f, f = F_X11_copies m0 σ := ⟨_, rfl⟩
  rw [← hf] at k2 r48 g B ⊢
  unfold F_X11_canTurn
  simp only [zlt, mPlc, mBeside, mIn, e0, e1, k2, g, r48]
  by_cases c : 1 ≤ p.toInt ∧ p.toInt ≤ (N : Int) - 1
  · rw [if_neg (fun z => z c)]
    by_cases d : 0 ≤ q.toInt ∧ q.toInt ≤ (N : Int) - 1
    · rw [if_neg (fun z => z d)]
      by_cases e : (σ.1 (mR σ m0 48) p.toNatClampNeg).toInt = q.toInt
      · rw [if_pos e]
        exact ⟨fun _ h => h.2.2.2.2.1 e, fun _ => e0⟩
      · rw [if_neg e]
        obtain ⟨k, hk⟩ : ∃ k : Nat, q.toInt = k := ⟨q.toInt.toNat, by omega⟩
        have b := B (t := p.toNatClampNeg) (j := k) (by rw [ztn]; omega) (by omega)
        rw [← zNi hk (by omega), show ((p.toNatClampNeg : Nat) : Int) = p.toInt by rw [ztn]; omega] at b
        by_cases h : ((f.1 (mR σ m0 54) p.toNatClampNeg >>> (q &&& 31)) &&& (1 : Int32)).toInt = 0
        · rw [if_pos h]
          have h2 := ((bt_cut hk (by omega)).1.mp h)
          exact ⟨fun z => absurd z (by decide), fun z => absurd ⟨c.1, by omega, d.1, by omega, e, fun w => h2 (b.mpr w)⟩ z⟩
        · rw [if_neg h]
          refine ⟨fun _ z => h ((bt_cut hk (by omega)).1.mpr (fun w => z.2.2.2.2.2 (b.mp w))), fun _ => e0⟩
    · rw [if_pos d]
      exact ⟨fun _ h => d ⟨h.2.2.1, by have := h.2.2.2.1; omega⟩, fun _ => e0⟩
  · rw [if_pos c]
    exact ⟨fun _ h => c ⟨h.1, by have := h.2.1; omega⟩, fun _ => e0⟩
end TURNM
end
-- 35x23.rel14
section
theorem zPr2 {α β : Type} {a b : α} {s t : β} (h : (a, s) = (b, t)) : a = b ∧ s = t := by
  cases h
  exact ⟨rfl, rfl⟩
section ZREL14
variable {κ : Int} {L1 : List Nat} {kd1 : Nat → Nat} {L2 : List Nat} {kd2 : Nat → Nat} {σ1 σ2 τ1 τ2 : zS} {m0 x0 : Nat} {Q : Nat → zCo → (Nat → Int32) → Prop} {V : zWh} {ps pc sl rv sh cd : Nat}
/-- a deed behind copies -/
theorem zDoes2 {L : List Nat} {kd : Nat → Nat} {σ : zS} (hJ : zJ κ L kd σ) (hm : zT L kd m0 11) {u : Nat} (hu : (σ.1 m0 57).toInt = u) (hu2 : u ≤ 40) {p v : Int32} {k : Nat} (hp : p.toInt = k) (hk : k < 50) : zDone σ m0 u (updR (rC σ.1 (mR σ m0 48) 0) k v) (F_X11_does m0 p v (F_X11_copies m0 σ)) := by
  obtain ⟨-, c3⟩ := zCopies3 hJ hm (τ := σ) rfl
  have hS : ([49, 54, 52, 53, 45, 46, 55] : List Nat).all (fun t => zf 0 11 t == some (100 + t)) = true := by rfl
  have r48 : (F_X11_copies m0 σ).1 (mR σ m0 48) = σ.1 (mR σ m0 48) := zFm.row hJ hm c3 (s := 48) (by rfl) hS (by rfl)
  obtain ⟨d2, d3⟩ := zCopies3 hJ hm (τ := F_X11_copies m0 σ) c3.1
  have en : p.toNatClampNeg = k := by rw [ztn, hp]; rfl
  have c4 := c3.tr d3
  have er : ((F_X11_copies m0 (F_X11_copies m0 σ)).2.2 m0 49).getD 0 = mR σ m0 49 := by rw [c4.rf]
  unfold F_X11_does
  simp only [zlt, er, en]
  refine zDone.of hJ hm hu hu2 (F := [50, 51, 47]) (S := [49, 54, 52, 53, 45, 46, 55]) (c4.w (zFm.s (s := 49) rfl k)) (by rfl) (by rfl) (by rfl) ?_
  funext j
  by_cases hj : j < 50
  · rw [rC_i hj, Nat.zero_add]
    by_cases e : j = k
    · rw [show updR (rC σ.1 (mR σ m0 48) 0) k v j = v from if_pos e, e]
      exact zu_s _ _ _ _
    · rw [show updR (rC σ.1 (mR σ m0 48) 0) k v j = rC σ.1 (mR σ m0 48) 0 j from if_neg e, rC_i hj, Nat.zero_add]
      exact (zu_j _ _ _ _ _ (fun z => e z.symm)).trans ((d2 j hj).trans (by rw [r48]))
  · rw [show updR (rC σ.1 (mR σ m0 48) 0) k v j = rC σ.1 (mR σ m0 48) 0 j from if_neg (by omega)]
    unfold rC
    rw [if_neg hj, if_neg hj]
/-- the reference's side, by what is written -/
theorem zRL.mf {F S : List Nat} (h : zRL Q L1 kd1 x0 m0 V ps pc sl rv sh cd σ1 σ2) (hJ : zJ κ L2 kd2 σ2) (hm : zT L2 kd2 m0 11) (g : zFr (zFm F S m0 σ2.2.2) σ2 τ2) (hS : S.all (fun t => zf 0 11 t == some (100 + t)) = true) (h1 : ([18, 57, 62].all (fun j => !(F.contains j))) = true) (h2 : ([21, 48, 58, 67, 68].all (fun j => !(S.contains j))) = true) : zRL Q L1 kd1 x0 m0 V ps pc sl rv sh cd σ1 τ2 := by
  obtain ⟨hL, hV, N, n, u, ⟨a1, a2, a3, a4, a5, a6, a7, a8, a9⟩, hq, hu, hh⟩ := h
  have f : ∀ j, (j = 18 ∨ j = 57 ∨ j = 62) → τ2.1 m0 j = σ2.1 m0 j := fun j hj => zFm.fld hJ hm g hS (by
    have z := List.all_eq_true.mp h1 j (by rcases hj with rfl | rfl | rfl <;> decide)
    simpa using z)
  have er : ∀ s, mR τ2 m0 s = mR σ2 m0 s := fun s => by rw [mR, g.rf]
  have r : ∀ s, (s = 21 ∨ s = 48 ∨ s = 58 ∨ s = 67 ∨ s = 68) → τ2.1 (mR σ2 m0 s) = σ2.1 (mR σ2 m0 s) := fun s hs => zFm.row hJ hm g (by rcases hs with rfl | rfl | rfl | rfl | rfl <;> rfl) hS (by
    have z := List.all_eq_true.mp h2 s (by rcases hs with rfl | rfl | rfl | rfl | rfl <;> decide)
    simpa using z)
  refine ⟨hL, hV, N, n, u, ⟨a1, ?_, a3, a4, a5, a6, a7, by rw [f 57 (by omega)]; exact a8, by rw [f 62 (by omega)]; exact a9⟩, ?_, fun i hi => ?_, fun s hs => ?_⟩
  · rw [← a2]
    unfold zM zp
    rw [f 18 (by omega)]
    show (τ2.1 (mR τ2 m0 21) _).toInt = (σ2.1 (mR σ2 m0 21) _).toInt
    rw [er, r 21 (by omega)]
  · rw [er, rC_e (g := σ2.1) (r' := mR σ2 m0 48) (o' := 0) (fun j _ => by rw [r 48 (by omega)])]; exact hq
  · rw [er, rC_e (g := σ2.1) (r' := mR σ2 m0 58) (o' := 50 * (u - 1 - i)) (fun j _ => by rw [r 58 (by omega)])]; exact hu i hi
  · rw [er, er, r 67 (by omega), rC_e (g := σ2.1) (r' := mR σ2 m0 68) (o' := 50 * s) (fun j _ => by rw [r 68 (by omega)])]; exact hh s hs
/-- the class' row leads where the reference's does -/
theorem zRL.rows (hG : zGd Q) (h : zRL Q L1 kd1 x0 m0 V ps pc sl rv sh cd σ1 σ2) (hg : gN m0 σ2) {N : Nat} (hM : zM m0 σ2 = N) (hN : N ≤ 12) : zRow N (σ2.1 (mR σ2 m0 48)) ∧ zRow N (σ1.1 (V.2.1 0)) ∧ ∀ c, 1 ≤ c → c < N → σ1.1 (V.2.1 0) c = σ2.1 (mR σ2 m0 48) c := by
  obtain ⟨hL, hV, N', n, u, ⟨a1, a2, a3, a4, a5, a6, a7, a8, a9⟩, hq, hu, hh⟩ := h
  have q0 := (hG.1 _ _ _ hq).1
  obtain rfl : N' = N := by omega
  have hr := zRow.of hg hM hN
  have e : ∀ c, 1 ≤ c → c < N' → σ1.1 (V.2.1 0) c = σ2.1 (mR σ2 m0 48) c := fun c c1 c2 => by
    have z := q0 c c1 c2
    rw [rC_i (by omega), Nat.zero_add] at z
    rw [← z]
    show _ = zt12 (σ1.1 (V.2.1 0)) c
    exact (if_pos (by omega)).symm
  exact ⟨hr, hr.cg e, e⟩
theorem zRL.turn {v1 v2 p q : Int32} (hG : zGd Q) (h : zRL Q L1 kd1 x0 m0 V ps pc sl rv sh cd σ1 σ2) (hx : zT L1 kd1 x0 10) (hI : zI κ 0 L1 kd1 σ1) (hJ : zJ κ L2 kd2 σ2) (hm : zT L2 kd2 m0 11) (hg : gN m0 σ2) (f1 : (v1, τ1) = F_X10_turn x0 p q σ1) (f2 : (v2, τ2) = F_X11_turn m0 p q σ2) : v1.toInt = v2.toInt ∧ zRL Q L1 kd1 x0 m0 V ps pc sl rv sh cd τ1 τ2 := by
  obtain ⟨hL, hV, N, n, u, ⟨a1, a2, a3, a4, a5, a6, a7, a8, a9⟩, hq, hu, hh⟩ := id h
  obtain ⟨r2, r1, re⟩ := h.rows hG hg a2 a3
  obtain ⟨m1, m2⟩ := cTurnOk (p := p) (q := q) hL a1 a3 r1
  have m3 := mTurnOk (p := p) (q := q) hJ hm a2 a3 r2
  have m4 : zTu N (σ1.1 (V.2.1 0)) p q ↔ zTu N (σ2.1 (mR σ2 m0 48)) p q := zTu.cg r2 re
  have g6 : (σ1.2.2 x0 6).getD 0 = V.1 0 := xnw hL
  have g4 : (σ1.2.2 x0 4).getD 0 = ps := by rw [hL.1.2.2.2.1]; rfl
  obtain ⟨-, c3⟩ := zCopies3 hJ hm (τ := σ2) rfl
  unfold F_X10_turn at f1
  unfold F_X11_turn at f2
  simp only [zlt, zlt2, m1, g6, g4] at f1 f2
  by_cases c : zTu N (σ1.1 (V.2.1 0)) p q
  · rw [if_neg (fun z => m2.mp z c)] at f1
    rw [if_neg (fun z => m3.mp z (m4.mp c))] at f2
    obtain ⟨c1, c2, -⟩ := id c
    obtain ⟨k, hk⟩ : ∃ k : Nat, p.toInt = k := ⟨p.toInt.toNat, by omega⟩
    have nk : p.toNatClampNeg = k := by rw [ztn, hk]; rfl
    obtain ⟨s, e', p2, -⟩ := zPush hL (k := 0) (by decide) a4 a5 a6 a7
    have g6' : ((F_X4_push ps (V.1 0) σ1).2.2 x0 6).getD 0 = V.1 0 := by rw [e', p2]; exact g6
    have g0' : ((F_X4_push ps (V.1 0) σ1).2.2 (V.1 0) 0).getD 0 = V.2.1 0 := by rw [e', p2]; exact (hL.gA (k := 0) (by decide)).1
    rw [g6', g0', nk] at f1
    have t1 : τ1 = (zu (F_X4_push ps (V.1 0) σ1).1 (V.2.1 0) k q, (F_X4_push ps (V.1 0) σ1).2) := congrArg Prod.snd f1
    have t2 : τ2 = F_X11_does m0 p q (F_X11_copies m0 σ2) := congrArg Prod.snd f2
    refine ⟨by rw [show v1 = 1 from congrArg Prod.fst f1, show v2 = 1 from congrArg Prod.fst f2], h.act1 hx hI (Or.inr rfl) t1 (fun u' b1 b2 => by rw [t2]; exact zDoes2 hJ hm b1 b2 hk (by omega)) (fun N' b1 b2 b3 f hf => ?_)⟩
    obtain rfl : N' = N := by omega
    rw [zcc_i hL (by omega), hf]
    exact hG.2.2.2 N' _ _ k q (by omega) (by omega) b2 b3
  · rw [if_pos (m2.mpr c)] at f1
    rw [if_pos (m3.mpr (fun z => c (m4.mpr z)))] at f2
    cases f1
    obtain ⟨w2, t2⟩ := zPr2 f2
    refine ⟨by rw [w2], ?_⟩
    rw [t2]
    exact h.mf hJ hm c3 (by rfl) (by rfl) (by rfl)
end ZREL14
end
-- 35x24.rel15
section
/-! BEGINNINGS -/
def zf12 (f : Nat → Nat → Int32) (r : Nat) : Nat → Nat → Int32 := fun q => if q = r then (fun j => if j < 12 then (0 : Int32) else f r j) else f q
theorem zf12_b {f : Nat → Nat → Int32} {r j : Nat} (h : j < 12) : zf12 f r r j = 0 := by
  unfold zf12
  rw [if_pos rfl, if_pos h]
theorem zf12_n {f : Nat → Nat → Int32} {r c : Nat} (h : ¬ c = r) : zf12 f r c = f c := if_neg h
section BEGC
variable {L : List Nat} {kd : Nat → Nat} {x0 : Nat} {V : zWh} {ps pc sl td ti dy : Nat} {σ : zS}
/-- the class begins anew: now is the tree told, nothing is past, held or dyed -/
theorem cBeg (hL : zLay L kd x0 σ.2.2 V ps pc sl) (d1 : (σ.2.2 x0 10).getD 0 = td) (d2 : (σ.2.2 td 2).getD 0 = ti) (ht : zT L kd ti 45) (y1 : (σ.2.2 x0 5).getD 0 = dy) (ty : zT L kd dy 2) : (F_X10_beginAnew x0 σ).2 = σ.2 ∧ zcc V (F_X10_beginAnew x0 σ).1 0 = (zt12 (σ.1 ti), fun _ => 0, fun _ => 0, 0, 0, 0) ∧ (∀ k, k < 45 → k ≠ 0 → zcc V (F_X10_beginAnew x0 σ).1 k = zcc V σ.1 k) ∧ (F_X10_beginAnew x0 σ).1 ps 1 = σ.1 ps 1 ∧ (F_X10_beginAnew x0 σ).1 ps 2 = 0 ∧ (F_X10_beginAnew x0 σ).1 dy 4 = 0 ∧ (F_X10_beginAnew x0 σ).1 x0 12 = 0 ∧ ∀ c, ¬ (c = V.1 0 ∨ c = V.2.1 0 ∨ c = V.2.2.1 0 ∨ c = V.2.2.2 0 ∨ c = ps ∨ c = dy ∨ c = x0) → (F_X10_beginAnew x0 σ).1 c = σ.1 c := by
  obtain ⟨a0, a1, a2⟩ := hL.gA (k := 0) (by decide)
  obtain ⟨⟨tA, tI, tW, tM⟩, -⟩ := hL.2.2.2.1 0 (by decide)
  have tp : zT L kd ps 4 := hL.2.2.2.2.2.2.1
  have tx : zT L kd x0 10 := hL.2.2.2.2.2.1
  have g6 : (σ.2.2 x0 6).getD 0 = V.1 0 := xnw hL
  have g4 : (σ.2.2 x0 4).getD 0 = ps := by rw [hL.1.2.2.2.1]; rfl
  have n : ∀ {a b ka kb : Nat}, zT L kd a ka → zT L kd b kb → ka ≠ kb → ¬ a = b := fun ha hb hn => zNk ha hb hn
  obtain ⟨f1, e1⟩ : ∃ f, f = zc12 σ.1 ti (V.2.1 0) := ⟨_, rfl⟩
  obtain ⟨f2, e2⟩ : ∃ f, f = zf12 f1 (V.2.2.1 0) := ⟨_, rfl⟩
  obtain ⟨f3, e3⟩ : ∃ f, f = zf12 f2 (V.2.2.2 0) := ⟨_, rfl⟩
  obtain ⟨f4, e4⟩ : ∃ f, f = zu f3 (V.1 0) 3 (0 : Int32) := ⟨_, rfl⟩
  obtain ⟨f5, e5⟩ : ∃ f, f = zu f4 (V.1 0) 4 (0 : Int32) := ⟨_, rfl⟩
  obtain ⟨f6, e6⟩ : ∃ f, f = zu f5 (V.1 0) 5 (0 : Int32) := ⟨_, rfl⟩
  obtain ⟨f7, e7⟩ : ∃ f, f = zu f6 ps 2 (0 : Int32) := ⟨_, rfl⟩
  obtain ⟨f8, e8⟩ : ∃ f, f = zu f7 dy 4 (0 : Int32) := ⟨_, rfl⟩
  obtain ⟨f9, e9⟩ : ∃ f, f = zu f8 x0 12 (0 : Int32) := ⟨_, rfl⟩
  have E1 : F_X1_begin (V.1 0) td σ = (f6, σ.2) := by
    rw [e6, e5, e4, e3, e2, e1]
    unfold F_X1_begin
    simp only [zlt, a0, d2]
    have r1 : ((zcpy σ ti (V.2.1 0) 12).2.2 (V.1 0) 1).getD 0 = V.2.2.1 0 := a1
    rw [r1]
    have r2 : ((zfil (zcpy σ ti (V.2.1 0) 12) (V.2.2.1 0) 0 12).2.2 (V.1 0) 2).getD 0 = V.2.2.2 0 := a2
    rw [r2]
    rfl
  have E : F_X10_beginAnew x0 σ = (f9, σ.2) := by
    unfold F_X10_beginAnew
    simp only [zlt, g6, d1, E1, g4, y1]
    rw [e9, e8, e7]
  rw [E]
  have o : ∀ c, ¬ (c = V.1 0 ∨ c = V.2.1 0 ∨ c = V.2.2.1 0 ∨ c = V.2.2.2 0 ∨ c = ps ∨ c = dy ∨ c = x0) → f9 c = σ.1 c := fun c hc => by
    have h1 : ¬ c = V.1 0 := fun z => hc (Or.inl z)
    have h2 : ¬ c = V.2.1 0 := fun z => hc (Or.inr (Or.inl z))
    have h3 : ¬ c = V.2.2.1 0 := fun z => hc (Or.inr (Or.inr (Or.inl z)))
    have h4 : ¬ c = V.2.2.2 0 := fun z => hc (Or.inr (Or.inr (Or.inr (Or.inl z))))
    have h5 : ¬ c = ps := fun z => hc (Or.inr (Or.inr (Or.inr (Or.inr (Or.inl z)))))
    have h6 : ¬ c = dy := fun z => hc (Or.inr (Or.inr (Or.inr (Or.inr (Or.inr (Or.inl z))))))
    have h7 : ¬ c = x0 := fun z => hc (Or.inr (Or.inr (Or.inr (Or.inr (Or.inr (Or.inr z))))))
    rw [e9, zu_n _ _ _ h7, e8, zu_n _ _ _ h6, e7, zu_n _ _ _ h5, e6, zu_n _ _ _ h1, e5, zu_n _ _ _ h1, e4, zu_n _ _ _ h1, e3, zf12_n h4, e2, zf12_n h3, e1, zc12_n h2]
  have t6 : ∀ {c k : Nat}, zT L kd c k → k ≠ 4 → k ≠ 2 → k ≠ 10 → f9 c = f6 c := fun hc h1 h2 h3 => by
    rw [e9, zu_n _ _ _ (n hc tx h3), e8, zu_n _ _ _ (n hc ty h2), e7, zu_n _ _ _ (n hc tp h1)]
  have s6 : ∀ {c k : Nat}, zT L kd c k → k ≠ 1 → f6 c = f3 c := fun hc h1 => by
    rw [e6, zu_n _ _ _ (n hc tA h1), e5, zu_n _ _ _ (n hc tA h1), e4, zu_n _ _ _ (n hc tA h1)]
  refine ⟨rfl, ?_, fun k hk h0 => ?_, ?_, ?_, ?_, ?_, o⟩
  · have z1 : zt12 (f9 (V.2.1 0)) = zt12 (σ.1 ti) := zt12_e (fun j hj => by
      rw [t6 tI (by decide) (by decide) (by decide), s6 tI (by decide), e3, zf12_n (n tI tM (by decide)), e2, zf12_n (n tI tW (by decide)), e1, zc12_b hj])
    have z2 : zt12 (f9 (V.2.2.1 0)) = fun _ => 0 := funext (fun j => by
      unfold zt12
      split
      · next hj => rw [t6 tW (by decide) (by decide) (by decide), s6 tW (by decide), e3, zf12_n (n tW tM (by decide)), e2, zf12_b hj]
      · rfl)
    have z3 : zt12 (f9 (V.2.2.2 0)) = fun _ => 0 := funext (fun j => by
      unfold zt12
      split
      · next hj => rw [t6 tM (by decide) (by decide) (by decide), s6 tM (by decide), e3, zf12_b hj]
      · rfl)
    show (zt12 (f9 (V.2.1 0)), zt12 (f9 (V.2.2.1 0)), zt12 (f9 (V.2.2.2 0)), f9 (V.1 0) 3, f9 (V.1 0) 4, f9 (V.1 0) 5) = _
    rw [z1, z2, z3, t6 tA (by decide) (by decide) (by decide), e6, zu_s, zu_j _ _ _ _ _ (by decide), zu_j _ _ _ _ _ (by decide), e5, zu_s, zu_j _ _ _ _ _ (by decide), e4, zu_s]
  · obtain ⟨⟨uA, uI, uW, uM⟩, -⟩ := hL.2.2.2.1 k hk
    have hi := hL.2.2.2.2.1 k 0 hk (by decide)
    have key : ∀ {c q : Nat}, zT L kd c q → q ≠ 4 → q ≠ 2 → q ≠ 10 → ¬ c = V.1 0 → ¬ c = V.2.1 0 → ¬ c = V.2.2.1 0 → ¬ c = V.2.2.2 0 → f9 c = σ.1 c := fun hc q1 q2 q3 h1 h2 h3 h4 => o _ (by
      rintro (z | z | z | z | z | z | z)
      · exact h1 z
      · exact h2 z
      · exact h3 z
      · exact h4 z
      · exact n hc tp q1 z
      · exact n hc ty q2 z
      · exact n hc tx q3 z)
    exact zcc.st (key uA (by decide) (by decide) (by decide) (fun z => h0 (hi (Or.inl z))) (n uA tI (by decide)) (n uA tW (by decide)) (n uA tM (by decide))) (key uI (by decide) (by decide) (by decide) (n uI tA (by decide)) (fun z => h0 (hi (Or.inr (Or.inl z)))) (n uI tW (by decide)) (n uI tM (by decide))) (key uW (by decide) (by decide) (by decide) (n uW tA (by decide)) (n uW tI (by decide)) (fun z => h0 (hi (Or.inr (Or.inr (Or.inl z))))) (n uW tM (by decide))) (key uM (by decide) (by decide) (by decide) (n uM tA (by decide)) (n uM tI (by decide)) (n uM tW (by decide)) (fun z => h0 (hi (Or.inr (Or.inr (Or.inr z))))))
  · show f9 ps 1 = σ.1 ps 1
    rw [e9, zu_n _ _ _ (n tp tx (by decide)), e8, zu_n _ _ _ (n tp ty (by decide)), e7, zu_j _ _ _ _ _ (by decide), s6 tp (by decide), e3, zf12_n (n tp tM (by decide)), e2, zf12_n (n tp tW (by decide)), e1, zc12_n (n tp tI (by decide))]
  · show f9 ps 2 = 0
    rw [e9, zu_n _ _ _ (n tp tx (by decide)), e8, zu_n _ _ _ (n tp ty (by decide)), e7, zu_s]
  · show f9 dy 4 = 0
    rw [e9, zu_n _ _ _ (n ty tx (by decide)), e8, zu_s]
  · show f9 x0 12 = 0
    rw [e9, zu_s]
end BEGC
end
-- 35x25.rel16
section
/-! THE REFERENCE BEGINS -/
section BEGM
variable {N m0 b w d : Nat} {s : zS}
/-- what beginning writes -/
def zAb (m0 w : Nat) : Nat → Nat → Prop := fun c j => c = w ∨ (c = m0 ∧ (j = 50 ∨ j = 51))
theorem mBeg1 (wd : d ≠ w) (wm : m0 ≠ w) (gw : (s.2.2 m0 49).getD 0 = w) (gd : (s.2.2 m0 22).getD 0 = d) (hb : (s.1 m0 18).toInt = b) (hb1 : b ≤ 1) (hN : N ≤ 12) (hM : ∀ τ, zFr (fun c _ => c = w) s τ → (F_X11_many m0 τ).toInt = N) {kA : Int32 → zS → zS} : ∀ (n : Nat) (x : Int32) (i : Nat) (τ : zS), x.toInt = i → i ≤ N → N - i < n → zFr (fun c _ => c = w) s τ → (∀ j, j < 50 → τ.1 w j = if j < i then s.1 d (12 * b + j) else 0) → zFr (zAb m0 w) s (F_X11_begins_23 m0 kA n x τ) ∧ ∀ j, j < 50 → (F_X11_begins_23 m0 kA n x τ).1 w j = if j < N then s.1 d (12 * b + j) else 0 := by
  have e12 : (12 : Int32).toInt = 12 := by decide
  intro n
  induction n with
  | zero => intro x i τ _ _ h; exact absurd h (by omega)
  | succ n ih =>
    intro x i τ hx hi hm g hj
    have r0 : τ.2.2 = s.2.2 := g.rf
    have M := hM τ g
    have t18 : τ.1 m0 18 = s.1 m0 18 := g.2 _ _ wm
    have td : τ.1 d = s.1 d := funext (fun j => g.2 _ _ wd)
    rw [F_X11_begins_23]
    simp only [zlt, r0, gw, gd, t18, td]
    by_cases cx : i < N
    · rw [if_pos (by omega)]
      have nx : x.toNatClampNeg = i := by rw [ztn, hx]; rfl
      have em : ((12 : Int32) * s.1 m0 18).toInt = 12 * b := by rw [zb_mul (by rw [e12, hb]; omega) (by rw [e12, hb]; omega), e12, hb]
      have ei : ((12 : Int32) * s.1 m0 18 + x).toNatClampNeg = 12 * b + i := by rw [ztn, zb_add (by rw [em, hx]; omega) (by rw [em, hx]; omega), em, hx]; omega
      rw [nx, ei]
      refine ih (x + (1 : Int32)) (i + 1) _ (zp1 hx (by omega)) (by omega) (by omega) (by rw [← r0]; exact g.w rfl) (fun j h50 => ?_)
      show zu τ.1 w i _ w j = _
      by_cases e : j = i
      · rw [e, zu_s, if_pos (by omega)]
      · rw [zu_j _ _ _ _ _ (fun z => e z.symm), hj j h50]
        by_cases c : j < i
        · rw [if_pos c, if_pos (by omega)]
        · rw [if_neg c, if_neg (by omega)]
    · rw [if_neg (by omega)]
      obtain rfl : i = N := by omega
      have g2 : zFr (zAb m0 w) s τ := g.up (fun c j q => Or.inl q)
      refine ⟨by rw [← r0]; exact (g2.w (Or.inr ⟨rfl, Or.inl rfl⟩)).w (Or.inr ⟨rfl, Or.inr rfl⟩), fun j h50 => ?_⟩
      show zu (zu τ.1 m0 50 _) m0 51 0 w j = _
      rw [zu_n _ _ _ (fun z => wm z.symm), zu_n _ _ _ (fun z => wm z.symm)]
      exact hj j h50
theorem mBeg2 (wd : d ≠ w) (wm : m0 ≠ w) (gw : (s.2.2 m0 49).getD 0 = w) (gd : (s.2.2 m0 22).getD 0 = d) (hb : (s.1 m0 18).toInt = b) (hb1 : b ≤ 1) (hN : N ≤ 12) (hM : ∀ τ, zFr (fun c _ => c = w) s τ → (F_X11_many m0 τ).toInt = N) : ∀ (n : Nat) (x : Int32) (i : Nat) (τ : zS), x.toInt = i → i ≤ 50 → 50 - i < n → zFr (fun c _ => c = w) s τ → (∀ j, j < i → τ.1 w j = 0) → zFr (zAb m0 w) s (F_X11_begins_2 m0 n x τ) ∧ ∀ j, j < 50 → (F_X11_begins_2 m0 n x τ).1 w j = if j < N then s.1 d (12 * b + j) else 0 := by
  have e50 : (50 : Int32).toInt = 50 := by decide
  intro n
  induction n with
  | zero => intro x i τ _ _ h; exact absurd h (by omega)
  | succ n ih =>
    intro x i τ hx hi hm g hj
    have r0 : τ.2.2 = s.2.2 := g.rf
    rw [F_X11_begins_2]
    simp only [zlt, r0, gw, e50]
    by_cases cx : i < 50
    · rw [if_pos (by omega)]
      have nx : x.toNatClampNeg = i := by rw [ztn, hx]; rfl
      rw [nx]
      refine ih (x + (1 : Int32)) (i + 1) _ (zp1 hx (by omega)) (by omega) (by omega) (by rw [← r0]; exact g.w rfl) (fun j h => ?_)
      show zu τ.1 w i 0 w j = 0
      by_cases e : j = i
      · rw [e, zu_s]
      · rw [zu_j _ _ _ _ _ (fun z => e z.symm)]
        exact hj j (by omega)
    · rw [if_neg (by omega)]
      obtain rfl : i = 50 := by omega
      exact mBeg1 wd wm gw gd hb hb1 hN hM 10000 0 0 τ (by decide) (by omega) (by omega) g (fun j h => by rw [hj j h, if_neg (by omega)])
end BEGM
section BEGM2
variable {L : List Nat} {kd : Nat → Nat} {m0 N b : Nat} {σ s : zS} {κ : Int}
/-- what follows a text without faults -/
noncomputable def mBg (m0 : Nat) (s : zS) : zS :=
  zLet (s.1 m0 19) fun v165 =>
  zLet ((zu s.1 m0 18 v165, s.2.1, s.2.2)) fun s166 =>
  zLet (F_X11_begins m0 s166) fun t173 =>
  zLet (F_X11_keepsRow m0 t173) fun t180 =>
  zLet ((0 : Int32)) fun v187 =>
  zLet ((zu t180.1 m0 57 v187, t180.2.1, t180.2.2)) fun s188 =>
  zLet ((0 : Int32)) fun v196 =>
  zLet ((zu s188.1 m0 62 v196, s188.2.1, s188.2.2)) fun s197 => s197
theorem mBg_e (hJ : zJ κ L kd σ) (hm : zT L kd m0 11) (h2 : s.2 = σ.2) (hb : (s.1 m0 19).toInt = b) (hb1 : b ≤ 1) (hM : (s.1 (mR σ m0 21) b).toInt = N) (hN : N ≤ 12) : (mBg m0 s).2 = σ.2 ∧ (mBg m0 s).1 m0 18 = s.1 m0 19 ∧ (mBg m0 s).1 m0 57 = 0 ∧ (mBg m0 s).1 m0 62 = 0 ∧ (∀ j, j < 50 → (mBg m0 s).1 (mR σ m0 48) j = if j < N then s.1 (mR σ m0 22) (12 * b + j) else 0) ∧ zFr (zFm [18, 50, 51, 57, 62] [48, 49] m0 σ.2.2) s (mBg m0 s) := by
  have rs : s.2.2 = σ.2.2 := by rw [h2]
  have m49 : mR σ m0 49 ≠ m0 := mR_m hJ hm (s := 49) (k := 149) (by rfl) (by decide)
  have m48 : mR σ m0 48 ≠ m0 := mR_m hJ hm (s := 48) (k := 148) (by rfl) (by decide)
  have m22 : mR σ m0 22 ≠ m0 := mR_m hJ hm (s := 22) (k := 122) (by rfl) (by decide)
  have m21 : mR σ m0 21 ≠ m0 := mR_m hJ hm (s := 21) (k := 121) (by rfl) (by decide)
  have n1 : mR σ m0 22 ≠ mR σ m0 49 := mR_ne hJ hm (s := 22) (s' := 49) (k := 122) (k' := 149) (by rfl) (by rfl) (by decide)
  have n2 : mR σ m0 21 ≠ mR σ m0 49 := mR_ne hJ hm (s := 21) (s' := 49) (k := 121) (k' := 149) (by rfl) (by rfl) (by decide)
  obtain ⟨s6, e6⟩ : ∃ s6 : zS, s6 = (zu s.1 m0 18 (s.1 m0 19), s.2.1, s.2.2) := ⟨_, rfl⟩
  have g6 : zFr (zFm [18, 50, 51, 57, 62] [48, 49] m0 σ.2.2) s s6 := by rw [e6]; exact zFr.id.w (zFm.f (by rfl))
  have s18 : s6.1 m0 18 = s.1 m0 19 := by rw [e6]; exact zu_s _ _ _ _
  have s22 : s6.1 (mR σ m0 22) = s.1 (mR σ m0 22) := by rw [e6]; exact zu_n _ _ _ m22
  have s21 : s6.1 (mR σ m0 21) = s.1 (mR σ m0 21) := by rw [e6]; exact zu_n _ _ _ m21
  have r6 : s6.2.2 = σ.2.2 := by rw [g6.rf, rs]
  have many : ∀ τ, zFr (fun c _ => c = mR σ m0 49) s6 τ → (F_X11_many m0 τ).toInt = N := fun τ g => by
    unfold F_X11_many
    simp only [zlt]
    rw [g.rf, r6, g.2 m0 18 (fun z => m49 z.symm), g.2 (mR σ m0 21) _ n2, s18, s21, show (s.1 m0 19).toNatClampNeg = b by rw [ztn, hb]; rfl]
    exact hM
  obtain ⟨q1, q2⟩ := mBeg2 (s := s6) (m0 := m0) (w := mR σ m0 49) (d := mR σ m0 22) (b := b) n1 (fun z => m49 z.symm) (by rw [r6]) (by rw [r6]) (by rw [s18]; exact hb) hb1 hN many 10000 0 0 s6 (by decide) (by omega) (by omega) zFr.id (fun j h => absurd h (by omega))
  obtain ⟨t, et⟩ : ∃ t, t = F_X11_begins m0 s6 := ⟨_, rfl⟩
  have et2 : t = F_X11_begins_2 m0 10000 0 s6 := by
    rw [et]
    unfold F_X11_begins
    simp only [zlt]
  rw [← et2] at q1 q2
  have t2 : t.2 = σ.2 := by rw [q1.1, g6.1, h2]
  have gt : zFr (zFm [18, 50, 51, 57, 62] [48, 49] m0 σ.2.2) s t := g6.tr (q1.up (fun c j z => by
    rcases z with z | ⟨z1, z2⟩
    · exact Or.inr ⟨49, by decide, z⟩
    · exact Or.inl ⟨z1, by simp only [List.mem_cons, List.not_mem_nil, or_false]; omega⟩))
  have K := zKeep hJ hm (τ := t) t2
  have E : mBg m0 s = (zu (zu (zcf t.1 (mR σ m0 48) (mR σ m0 49) 0 0 0 50) m0 57 0) m0 62 0, σ.2) := by
    unfold mBg
    simp only [zlt]
    rw [← e6, ← et, K]
  have gk : zFr (zFm [18, 50, 51, 57, 62] [48, 49] m0 σ.2.2) s (zcf t.1 (mR σ m0 48) (mR σ m0 49) 0 0 0 50, t.2.1, t.2.2) := ⟨gt.1, fun c j n => (congrFun (zcf_n (fun z => n (Or.inr ⟨48, by decide, z⟩))) j).trans (gt.2 c j n)⟩
  have gE := (gk.w (j := 57) (v := (0 : Int32)) (zFm.f (by rfl))).w (j := 62) (v := (0 : Int32)) (zFm.f (by rfl))
  have e2 : (zu (zu (zcf t.1 (mR σ m0 48) (mR σ m0 49) 0 0 0 50) m0 57 0) m0 62 0, σ.2) = (zu (zu (zcf t.1 (mR σ m0 48) (mR σ m0 49) 0 0 0 50) m0 57 0) m0 62 0, t.2.1, t.2.2) := by rw [← t2]
  rw [E]
  refine ⟨rfl, ?_, ?_, zu_s _ _ _ _, fun j hj => ?_, by rw [e2]; exact gE⟩
  · show zu (zu (zcf t.1 (mR σ m0 48) (mR σ m0 49) 0 0 0 50) m0 57 0) m0 62 0 m0 18 = _
    rw [zu_j _ _ _ _ _ (by decide), zu_j _ _ _ _ _ (by decide), zcf_n (fun z => m48 z.symm), ← s18]
    exact q1.2 _ _ (by
      rintro (z | ⟨-, z⟩)
      · exact m49 z.symm
      · omega)
  · show zu (zu (zcf t.1 (mR σ m0 48) (mR σ m0 49) 0 0 0 50) m0 57 0) m0 62 0 m0 57 = _
    rw [zu_j _ _ _ _ _ (by decide), zu_s]
  · show zu (zu (zcf t.1 (mR σ m0 48) (mR σ m0 49) 0 0 0 50) m0 57 0) m0 62 0 (mR σ m0 48) j = _
    rw [zu_n _ _ _ m48, zu_n _ _ _ m48, zcf_i ⟨by omega, by omega⟩, show 0 + (j - 0) = j by omega, q2 j hj, s22]
end BEGM2
end
-- 35x26.rel17
section
section HELD
variable {m0 h : Nat} {s : zS}
theorem mHeld (gh : (s.2.2 m0 67).getD 0 = h) {kA : Int32 → zS → Int32 × zS} {kB : zS → Int32 × zS} : ∀ (n : Nat) (x : Int32) (i : Nat) (τ : zS), x.toInt = i → i ≤ 3 → 3 - i < n → zFr (fun c _ => c = h) s τ → (∀ j, j < i → τ.1 h j = 0) → (F_X11_read_224 m0 kA kB n x τ).1 = 0 ∧ zFr (fun c _ => c = h) s (F_X11_read_224 m0 kA kB n x τ).2 ∧ ∀ j, j < 3 → (F_X11_read_224 m0 kA kB n x τ).2.1 h j = 0 := by
  have e3 : (3 : Int32).toInt = 3 := by decide
  have eb : vp_nar .boolean (0 : Int32) = 0 := by decide
  intro n
  induction n with
  | zero => intro x i τ _ _ h; exact absurd h (by omega)
  | succ n ih =>
    intro x i τ hx hi hm g hj
    have r0 : τ.2.2 = s.2.2 := g.rf
    rw [F_X11_read_224]
    simp only [zlt, r0, gh, e3, eb]
    by_cases cx : i < 3
    · rw [if_pos (by omega)]
      have nx : x.toNatClampNeg = i := by rw [ztn, hx]; rfl
      rw [nx]
      refine ih (x + (1 : Int32)) (i + 1) _ (zp1 hx (by omega)) (by omega) (by omega) (by rw [← r0]; exact g.w rfl) (fun j h' => ?_)
      show zu τ.1 h i 0 h j = 0
      by_cases e : j = i
      · rw [e, zu_s]
      · rw [zu_j _ _ _ _ _ (fun z => e z.symm)]
        exact hj j (by omega)
    · rw [if_neg (by omega)]
      obtain rfl : i = 3 := by omega
      exact ⟨rfl, g, hj⟩
end HELD
end
-- 35x27.fi1
section
/-! WHAT A FUNCTION LEAVES AS IT WAS: references and whole numbers as they were, but for the places A (longs may be written) -/
def zFi (A : Nat → Nat → Prop) (σ σ' : zS) : Prop := σ'.2.2 = σ.2.2 ∧ ∀ c j, ¬ A c j → σ'.1 c j = σ.1 c j
def zFj {α : Type} (A : Nat → Nat → Prop) (σ : zS) (r : α × zS) : Prop := zFi A σ r.2
section ZFI
variable {A : Nat → Nat → Prop} {σ s : zS} {α β : Type}
theorem zFi.rf (h : zFi A σ s) : s.2.2 = σ.2.2 := h.1
theorem zFi.id : zFi A σ σ := ⟨rfl, fun _ _ _ => rfl⟩
theorem zFi.w {r j : Nat} {v : Int32} (h : zFi A σ s) (hr : A r j) : zFi A σ (zu s.1 r j v, s.2.1, s.2.2) := ⟨h.1, fun c i n => by
  show zu s.1 r j v c i = _
  unfold zu
  by_cases e : c = r
  · rw [if_pos e]
    by_cases e2 : i = j
    · exact absurd (by rw [e, e2]; exact hr) n
    · rw [if_neg e2]; exact h.2 c i n
  · rw [if_neg e]; exact h.2 c i n⟩
theorem zFi.cp {a r n : Nat} (h : zFi A σ s) (hr : ∀ j, A r j) : zFi A σ (zcpy s a r n) := ⟨h.1, fun c i m => by
  show (if c = r then _ else s.1 c) i = _
  by_cases e : c = r
  · exact absurd (by rw [e]; exact hr i) m
  · rw [if_neg e]; exact h.2 c i m⟩
theorem zFi.fl {r n : Nat} {v : Int32} (h : zFi A σ s) (hr : ∀ j, A r j) : zFi A σ (zfil s r v n) := ⟨h.1, fun c i m => by
  show (if c = r then _ else s.1 c) i = _
  by_cases e : c = r
  · exact absurd (by rw [e]; exact hr i) m
  · rw [if_neg e]; exact h.2 c i m⟩
theorem zFi.up {B : Nat → Nat → Prop} (h : zFi A σ s) (u : ∀ c j, A c j → B c j) : zFi B σ s := ⟨h.1, fun c j n => h.2 c j (fun q => n (u c j q))⟩
theorem zFi.tr {s' : zS} (h : zFi A σ s) (g : zFi A s s') : zFi A σ s' := ⟨g.1.trans h.1, fun c j n => (g.2 c j n).trans (h.2 c j n)⟩
theorem zFj.of {r : α × zS} {v : α} (h : zFj A σ r) (e : (v, s) = r) : zFi A σ s := by rw [show s = r.2 from congrArg Prod.snd e]; exact h
theorem zFi_let {x : α} {f : α → zS} (h : ∀ v, v = x → zFi A σ (f v)) : zFi A σ (zLet x f) := h x rfl
theorem zFi_let2 {x : α × β} {f : α → β → zS} (h : ∀ v s, (v, s) = x → zFi A σ (f v s)) : zFi A σ (zLet2 x f) := h x.1 x.2 rfl
theorem zFj_let {x : α} {f : α → β × zS} (h : ∀ v, v = x → zFj A σ (f v)) : zFj A σ (zLet x f) := h x rfl
theorem zFj_let2 {γ : Type} {x : α × γ} {f : α → γ → β × zS} (h : ∀ v s, (v, s) = x → zFj A σ (f v s)) : zFj A σ (zLet2 x f) := h x.1 x.2 rfl
theorem zFi_if {c : Prop} {i : Decidable c} {x y : zS} (h : c → zFi A σ x) (g : ¬ c → zFi A σ y) : zFi A σ (@ite _ c i x y) := by
  by_cases e : c
  · rw [if_pos e]; exact h e
  · rw [if_neg e]; exact g e
theorem zFj_if {c : Prop} {i : Decidable c} {x y : α × zS} (h : c → zFj A σ x) (g : ¬ c → zFj A σ y) : zFj A σ (@ite _ c i x y) := by
  by_cases e : c
  · rw [if_pos e]; exact h e
  · rw [if_neg e]; exact g e
end ZFI
set_option maxRecDepth 100000 in
theorem fi_X3_goTo {A : Nat → Nat → Prop} {σ σ0 : zS} {a0 : Nat} {p1 : Int32}  (g : zFi A σ σ0) (h0 : A a0 2) (h1 : A a0 3) (h2 : A a0 5) : zFi A σ (F_X3_goTo a0 p1 σ0) := by
  unfold F_X3_goTo
  refine zFi_if (fun _ => ?_) (fun _ => ?_)
  · skip
    refine zFi_let (fun v2 _ => ?_)
    refine zFi_let (fun s3 es3 => ?_)
    have gs3 : zFi A σ s3 := by rw [es3]; exact g.w h0
    refine zFi_if (fun _ => ?_) (fun _ => ?_)
    · skip
      refine zFi_let (fun v5 _ => ?_)
      refine zFi_let (fun s6 es6 => ?_)
      have gs6 : zFi A σ s6 := by rw [es6]; exact gs3.w h1
      refine zFi_if (fun _ => ?_) (fun _ => ?_)
      · skip
        refine zFi_let (fun v8 _ => ?_)
        refine zFi_let (fun s9 es9 => ?_)
        have gs9 : zFi A σ s9 := by rw [es9]; exact gs6
        refine zFi_if (fun _ => ?_) (fun _ => ?_)
        · skip
          refine zFi_let (fun v11 _ => ?_)
          refine zFi_let (fun s12 es12 => ?_)
          have gs12 : zFi A σ s12 := by rw [es12]; exact gs9.w h2
          exact gs12
        · skip
          exact gs9
      · skip
        exact gs6
    · skip
      exact gs3
  · skip
    refine zFi_let (fun v13 ev13 => ?_)
    rw [g.rf] at ev13
    subst ev13
    refine zFi_let (fun v14 _ => ?_)
    refine zFi_if (fun _ => ?_) (fun _ => ?_)
    · skip
      refine zFi_let (fun v28 _ => ?_)
      refine zFi_let (fun s29 es29 => ?_)
      have gs29 : zFi A σ s29 := by rw [es29]; exact g.w h0
      refine zFi_if (fun _ => ?_) (fun _ => ?_)
      · skip
        exact gs29
      · skip
        refine zFi_let (fun v31 ev31 => ?_)
        rw [gs29.rf] at ev31
        subst ev31
        refine zFi_let (fun v32 ev32 => ?_)
        rw [gs29.rf] at ev32
        subst ev32
        refine zFi_let (fun v33 _ => ?_)
        refine zFi_let (fun s34 es34 => ?_)
        have gs34 : zFi A σ s34 := by rw [es34]; exact gs29.w h1
        refine zFi_if (fun _ => ?_) (fun _ => ?_)
        · skip
          exact gs34
        · skip
          refine zFi_let (fun v36 ev36 => ?_)
          rw [gs34.rf] at ev36
          subst ev36
          refine zFi_let (fun v37 ev37 => ?_)
          rw [gs34.rf] at ev37
          subst ev37
          refine zFi_let (fun v38 _ => ?_)
          refine zFi_let (fun s39 es39 => ?_)
          have gs39 : zFi A σ s39 := by rw [es39]; exact gs34
          refine zFi_if (fun _ => ?_) (fun _ => ?_)
          · skip
            exact gs39
          · skip
            refine zFi_let (fun v41 ev41 => ?_)
            rw [gs39.rf] at ev41
            subst ev41
            refine zFi_let (fun v42 ev42 => ?_)
            rw [gs39.rf] at ev42
            subst ev42
            refine zFi_let (fun v43 _ => ?_)
            refine zFi_let (fun s44 es44 => ?_)
            have gs44 : zFi A σ s44 := by rw [es44]; exact gs39.w h2
            exact gs44
    · skip
      refine zFi_let (fun v17 _ => ?_)
      refine zFi_let (fun s18 es18 => ?_)
      have gs18 : zFi A σ s18 := by rw [es18]; exact g.w h0
      refine zFi_if (fun _ => ?_) (fun _ => ?_)
      · skip
        refine zFi_let (fun v20 _ => ?_)
        refine zFi_let (fun s21 es21 => ?_)
        have gs21 : zFi A σ s21 := by rw [es21]; exact gs18.w h1
        refine zFi_if (fun _ => ?_) (fun _ => ?_)
        · skip
          refine zFi_let (fun v23 _ => ?_)
          refine zFi_let (fun s24 es24 => ?_)
          have gs24 : zFi A σ s24 := by rw [es24]; exact gs21
          refine zFi_if (fun _ => ?_) (fun _ => ?_)
          · skip
            refine zFi_let (fun v26 _ => ?_)
            refine zFi_let (fun s27 es27 => ?_)
            have gs27 : zFi A σ s27 := by rw [es27]; exact gs24.w h2
            exact gs27
          · skip
            exact gs24
        · skip
          exact gs21
      · skip
        exact gs18
set_option maxRecDepth 100000 in
theorem fi_X3_fail {A : Nat → Nat → Prop} {σ σ0 : zS} {a0 : Nat} {p1 : Int32}  (g : zFi A σ σ0) (h0 : A a0 8) (h1 : A a0 9) (h2 : A a0 3) : zFi A σ (F_X3_fail a0 p1 σ0) := by
  unfold F_X3_fail
  refine zFi_let (fun v1 _ => ?_)
  refine zFi_if (fun _ => ?_) (fun _ => ?_)
  · skip
    refine zFi_let (fun s3 es3 => ?_)
    have gs3 : zFi A σ s3 := by rw [es3]; exact g.w h0
    refine zFi_let (fun v4 _ => ?_)
    refine zFi_let (fun s5 es5 => ?_)
    have gs5 : zFi A σ s5 := by rw [es5]; exact gs3.w h1
    refine zFi_let (fun v6 _ => ?_)
    refine zFi_let (fun s7 es7 => ?_)
    have gs7 : zFi A σ s7 := by rw [es7]; exact gs5.w h2
    exact gs7
  · skip
    exact g
set_option maxRecDepth 100000 in
theorem fi_X3_failLate {A : Nat → Nat → Prop} {σ σ0 : zS} {a0 : Nat} {p1 : Int32}  (g : zFi A σ σ0) (h0 : A a0 10) (h1 : A a0 11) : zFi A σ (F_X3_failLate a0 p1 σ0) := by
  unfold F_X3_failLate
  refine zFi_let (fun v1 _ => ?_)
  refine zFi_if (fun _ => ?_) (fun _ => ?_)
  · skip
    refine zFi_let (fun s3 es3 => ?_)
    have gs3 : zFi A σ s3 := by rw [es3]; exact g.w h0
    refine zFi_let (fun v4 _ => ?_)
    refine zFi_let (fun s5 es5 => ?_)
    have gs5 : zFi A σ s5 := by rw [es5]; exact gs3.w h1
    exact gs5
  · skip
    exact g
set_option maxRecDepth 100000 in
theorem fi_X3_take {A : Nat → Nat → Prop} {σ σ0 : zS} {a0 : Nat} {p1 : Int32}  (g : zFi A σ σ0) (h0 : A a0 2) (h1 : A a0 3) (h2 : A a0 5) (h3 : A a0 8) (h4 : A a0 9) : zFi A σ (F_X3_take a0 p1 σ0) := by
  unfold F_X3_take
  refine zFi_let (fun v1 _ => ?_)
  refine zFi_if (fun _ => ?_) (fun _ => ?_)
  · skip
    refine zFi_let (fun v3 _ => ?_)
    refine zFi_let (fun v4 _ => ?_)
    refine zFi_if (fun _ => ?_) (fun _ => ?_)
    · skip
      refine zFi_let (fun v7 _ => ?_)
      refine zFi_let (fun v8 _ => ?_)
      refine zFi_let (fun v9 _ => ?_)
      refine zFi_let (fun s10 es10 => ?_)
      have gs10 : zFi A σ s10 := by rw [es10]; exact fi_X3_goTo g h0 h1 h2
      exact gs10
    · skip
      refine zFi_let (fun v11 _ => ?_)
      refine zFi_let (fun s12 es12 => ?_)
      have gs12 : zFi A σ s12 := by rw [es12]; exact fi_X3_fail g h3 h4 h1
      exact gs12
  · skip
    refine zFi_let (fun v13 _ => ?_)
    refine zFi_let (fun s14 es14 => ?_)
    have gs14 : zFi A σ s14 := by rw [es14]; exact fi_X3_fail g h3 h4 h1
    exact gs14
set_option maxRecDepth 100000 in
theorem fi_X3_placeNamed_13 {A : Nat → Nat → Prop} {σ : zS} {a0 : Nat} {p1 : Int64}   : ∀ (n : Nat) (x4 : Int32) (τ5 : zS), zFi A σ τ5 → zFj A σ (F_X3_placeNamed_13 a0 p1 n x4 τ5) := by
  intro n
  induction n with
  | zero => intro x4 τ5 g; exact g
  | succ n ih =>
    intro x4 τ5 g
    rw [F_X3_placeNamed_13]
    refine zFj_let (fun v6 _ => ?_)
    refine zFj_if (fun _ => ?_) (fun _ => ?_)
    · skip
      refine zFj_let (fun v8 _ => ?_)
      exact g
    · skip
      refine zFj_let (fun v9 _ => ?_)
      refine zFj_if (fun _ => ?_) (fun _ => ?_)
      · skip
        refine zFj_let (fun v11 ev11 => ?_)
        rw [g.rf] at ev11
        subst ev11
        refine zFj_let (fun v12 ev12 => ?_)
        rw [g.rf] at ev12
        subst ev12
        refine zFj_let (fun v13 _ => ?_)
        refine zFj_let (fun v14 _ => ?_)
        refine zFj_if (fun _ => ?_) (fun _ => ?_)
        · skip
          exact g
        · skip
          refine zFj_let (fun v16 _ => ?_)
          exact ih _ _ g
      · skip
        exact g
set_option maxRecDepth 100000 in
theorem fi_X3_placeNamed_13_1 {A : Nat → Nat → Prop} {σ : zS} {a0 : Nat} {p1 : Int64}   : ∀ (n : Nat) (x18 : Int32) (τ19 : zS), zFi A σ τ19 → zFj A σ (F_X3_placeNamed_13_1 a0 p1 n x18 τ19) := by
  intro n
  induction n with
  | zero => intro x18 τ19 g; exact g
  | succ n ih =>
    intro x18 τ19 g
    rw [F_X3_placeNamed_13_1]
    refine zFj_let (fun v20 _ => ?_)
    refine zFj_if (fun _ => ?_) (fun _ => ?_)
    · skip
      refine zFj_let (fun v22 _ => ?_)
      exact g
    · skip
      refine zFj_let (fun v23 _ => ?_)
      refine zFj_if (fun _ => ?_) (fun _ => ?_)
      · skip
        refine zFj_let (fun v25 ev25 => ?_)
        rw [g.rf] at ev25
        subst ev25
        refine zFj_let (fun v26 ev26 => ?_)
        rw [g.rf] at ev26
        subst ev26
        refine zFj_let (fun v27 _ => ?_)
        refine zFj_let (fun v28 _ => ?_)
        refine zFj_if (fun _ => ?_) (fun _ => ?_)
        · skip
          exact g
        · skip
          refine zFj_let (fun v30 _ => ?_)
          exact ih _ _ g
      · skip
        exact g
set_option maxRecDepth 100000 in
theorem fi_X3_placeNamed {A : Nat → Nat → Prop} {σ σ0 : zS} {a0 : Nat} {p1 : Int64}  (g : zFi A σ σ0)  : zFj A σ (F_X3_placeNamed a0 p1 σ0) := by
  unfold F_X3_placeNamed
  refine zFj_let (fun v1 _ => ?_)
  refine zFj_if (fun _ => ?_) (fun _ => ?_)
  · skip
    refine zFj_let (fun v3 _ => ?_)
    exact fi_X3_placeNamed_13   _ _ _ g
  · skip
    refine zFj_let (fun v17 _ => ?_)
    exact fi_X3_placeNamed_13_1   _ _ _ g
set_option maxRecDepth 100000 in
theorem fi_X3_newName {A : Nat → Nat → Prop} {σ σ0 : zS} {a0 : Nat}  (g : zFi A σ σ0) (h0 : A a0 2) (h1 : A a0 3) (h2 : A a0 5) (h3 : A a0 8) (h4 : A a0 9) (h5 : A a0 10) (h6 : A a0 11) : zFj A σ (F_X3_newName a0 σ0) := by
  unfold F_X3_newName
  refine zFj_let (fun v1 _ => ?_)
  refine zFj_let (fun v2 _ => ?_)
  refine zFj_let (fun v3 _ => ?_)
  refine zFj_if (fun _ => ?_) (fun _ => ?_)
  · skip
    refine zFj_let2 (fun v7 s8 es8 => ?_)
    have gs8 : zFi A σ s8 := (fi_X3_placeNamed g ).of es8
    refine zFj_let (fun v9 _ => ?_)
    refine zFj_if (fun _ => ?_) (fun _ => ?_)
    · skip
      refine zFj_let (fun v11 _ => ?_)
      refine zFj_let (fun s12 es12 => ?_)
      have gs12 : zFi A σ s12 := by rw [es12]; exact fi_X3_take gs8 h0 h1 h2 h3 h4
      exact gs12
    · skip
      refine zFj_let (fun v13 _ => ?_)
      refine zFj_let (fun s14 es14 => ?_)
      have gs14 : zFi A σ s14 := by rw [es14]; exact fi_X3_failLate gs8 h5 h6
      refine zFj_let (fun v15 _ => ?_)
      refine zFj_let (fun s16 es16 => ?_)
      have gs16 : zFi A σ s16 := by rw [es16]; exact fi_X3_take gs14 h0 h1 h2 h3 h4
      exact gs16
  · skip
    refine zFj_let (fun v5 _ => ?_)
    refine zFj_let (fun s6 es6 => ?_)
    have gs6 : zFi A σ s6 := by rw [es6]; exact fi_X3_take g h0 h1 h2 h3 h4
    exact gs6
set_option maxRecDepth 100000 in
theorem fi_X3_knownName {A : Nat → Nat → Prop} {σ σ0 : zS} {a0 : Nat}  (g : zFi A σ σ0) (h0 : A a0 10) (h1 : A a0 11) (h2 : A a0 2) (h3 : A a0 3) (h4 : A a0 5) (h5 : A a0 8) (h6 : A a0 9) : zFj A σ (F_X3_knownName a0 σ0) := by
  unfold F_X3_knownName
  refine zFj_let (fun v1 _ => ?_)
  refine zFj_let2 (fun v2 s3 es3 => ?_)
  have gs3 : zFi A σ s3 := (fi_X3_placeNamed g ).of es3
  refine zFj_let (fun v4 _ => ?_)
  refine zFj_let (fun v5 _ => ?_)
  refine zFj_if (fun _ => ?_) (fun _ => ?_)
  · skip
    refine zFj_let (fun v11 _ => ?_)
    refine zFj_if (fun _ => ?_) (fun _ => ?_)
    · skip
      refine zFj_let (fun v17 _ => ?_)
      refine zFj_let (fun s18 es18 => ?_)
      have gs18 : zFi A σ s18 := by rw [es18]; exact fi_X3_failLate gs3 h0 h1
      refine zFj_let (fun v19 _ => ?_)
      refine zFj_let (fun s20 es20 => ?_)
      have gs20 : zFi A σ s20 := by rw [es20]; exact fi_X3_take gs18 h2 h3 h4 h5 h6
      refine zFj_let (fun v21 _ => ?_)
      refine zFj_let (fun v22 _ => ?_)
      exact gs20
    · skip
      refine zFj_let (fun v13 _ => ?_)
      refine zFj_let (fun s14 es14 => ?_)
      have gs14 : zFi A σ s14 := by rw [es14]; exact fi_X3_take gs3 h2 h3 h4 h5 h6
      refine zFj_let (fun v15 _ => ?_)
      refine zFj_let (fun v16 _ => ?_)
      exact gs14
  · skip
    refine zFj_let (fun v7 _ => ?_)
    refine zFj_let (fun s8 es8 => ?_)
    have gs8 : zFi A σ s8 := by rw [es8]; exact fi_X3_take gs3 h2 h3 h4 h5 h6
    refine zFj_let (fun v9 _ => ?_)
    refine zFj_let (fun v10 _ => ?_)
    exact gs8
set_option maxRecDepth 100000 in
theorem fi_X3_number {A : Nat → Nat → Prop} {σ σ0 : zS} {a0 : Nat} {p1 : Int32} {p2 : Int32}  (g : zFi A σ σ0) (h0 : A a0 10) (h1 : A a0 11) (h2 : A a0 2) (h3 : A a0 3) (h4 : A a0 5) (h5 : A a0 8) (h6 : A a0 9) : zFj A σ (F_X3_number a0 p1 p2 σ0) := by
  unfold F_X3_number
  refine zFj_let (fun v1 _ => ?_)
  refine zFj_let (fun v2 _ => ?_)
  refine zFj_let (fun v3 _ => ?_)
  refine zFj_let (fun v4 _ => ?_)
  refine zFj_if (fun _ => ?_) (fun _ => ?_)
  · skip
    refine zFj_let (fun v8 _ => ?_)
    refine zFj_if (fun _ => ?_) (fun _ => ?_)
    · skip
      refine zFj_let (fun v12 _ => ?_)
      refine zFj_let (fun s13 es13 => ?_)
      have gs13 : zFi A σ s13 := by rw [es13]; exact fi_X3_failLate g h0 h1
      refine zFj_let (fun v14 _ => ?_)
      refine zFj_let (fun s15 es15 => ?_)
      have gs15 : zFi A σ s15 := by rw [es15]; exact fi_X3_take gs13 h2 h3 h4 h5 h6
      exact gs15
    · skip
      refine zFj_let (fun v10 _ => ?_)
      refine zFj_let (fun s11 es11 => ?_)
      have gs11 : zFi A σ s11 := by rw [es11]; exact fi_X3_take g h2 h3 h4 h5 h6
      exact gs11
  · skip
    refine zFj_let (fun v6 _ => ?_)
    refine zFj_let (fun s7 es7 => ?_)
    have gs7 : zFi A σ s7 := by rw [es7]; exact fi_X3_take g h2 h3 h4 h5 h6
    exact gs7
set_option maxRecDepth 100000 in
theorem fi_X9_addStep {A : Nat → Nat → Prop} {σ σ0 : zS} {a0 : Nat} {p1 : Int32} {p2 : Int32}  (g : zFi A σ σ0) (h0 : ∀ j, A ((σ.2.2 a0 6).getD 0) j) (h1 : ∀ j, A ((σ.2.2 a0 7).getD 0) j) (h2 : A a0 8) : zFi A σ (F_X9_addStep a0 p1 p2 σ0) := by
  unfold F_X9_addStep
  refine zFi_let (fun v1 _ => ?_)
  refine zFi_let (fun v2 _ => ?_)
  refine zFi_if (fun _ => ?_) (fun _ => ?_)
  · skip
    refine zFi_let (fun v4 ev4 => ?_)
    rw [g.rf] at ev4
    subst ev4
    refine zFi_let (fun v5 _ => ?_)
    refine zFi_let (fun s6 es6 => ?_)
    have gs6 : zFi A σ s6 := by rw [es6]; exact g.w (h0 _)
    refine zFi_let (fun v8 ev8 => ?_)
    rw [gs6.rf] at ev8
    subst ev8
    refine zFi_let (fun v9 _ => ?_)
    refine zFi_let (fun s10 es10 => ?_)
    have gs10 : zFi A σ s10 := by rw [es10]; exact gs6.w (h1 _)
    refine zFi_let (fun v12 _ => ?_)
    refine zFi_let (fun v13 _ => ?_)
    refine zFi_let (fun v14 _ => ?_)
    refine zFi_let (fun s15 es15 => ?_)
    have gs15 : zFi A σ s15 := by rw [es15]; exact gs10.w h2
    exact gs15
  · skip
    exact g
set_option maxRecDepth 100000 in
theorem fi_X3_unit_o6 {A : Nat → Nat → Prop} {σ σ0 : zS} {a0 : Nat} {p1 : Int32}  (g : zFi A σ σ0) (h0 : ∀ j, A ((σ.2.2 ((σ.2.2 a0 1).getD 0) 6).getD 0) j) (h1 : ∀ j, A ((σ.2.2 ((σ.2.2 a0 1).getD 0) 7).getD 0) j) (h2 : A (((σ.2.2 a0 1).getD 0)) 8) (h3 : A a0 2) (h4 : A a0 3) (h5 : A a0 5) (h6 : A a0 8) (h7 : A a0 9) : zFi A σ (F_X3_unit_o6 a0 p1 σ0) := by
  unfold F_X3_unit_o6
  refine zFi_let (fun v1 _ => ?_)
  refine zFi_let (fun v2 _ => ?_)
  refine zFi_if (fun _ => ?_) (fun _ => ?_)
  · skip
    refine zFi_let (fun v45 ev45 => ?_)
    rw [g.rf] at ev45
    subst ev45
    refine zFi_let (fun v46 _ => ?_)
    refine zFi_let (fun v47 _ => ?_)
    refine zFi_let (fun v48 _ => ?_)
    refine zFi_let (fun s49 es49 => ?_)
    have gs49 : zFi A σ s49 := by rw [es49]; exact fi_X9_addStep g h0 h1 h2
    refine zFi_let (fun v50 _ => ?_)
    refine zFi_let (fun s51 es51 => ?_)
    have gs51 : zFi A σ s51 := by rw [es51]; exact fi_X3_take gs49 h3 h4 h5 h6 h7
    exact gs51
  · skip
    refine zFi_let (fun v4 _ => ?_)
    refine zFi_let (fun v5 _ => ?_)
    refine zFi_if (fun _ => ?_) (fun _ => ?_)
    · skip
      refine zFi_let (fun v8 _ => ?_)
      refine zFi_let (fun v9 _ => ?_)
      refine zFi_if (fun _ => ?_) (fun _ => ?_)
      · skip
        exact g
      · skip
        refine zFi_let (fun v11 _ => ?_)
        refine zFi_let (fun v12 _ => ?_)
        refine zFi_if (fun _ => ?_) (fun _ => ?_)
        · skip
          exact g
        · skip
          refine zFi_let (fun v14 _ => ?_)
          refine zFi_let (fun s15 es15 => ?_)
          have gs15 : zFi A σ s15 := by rw [es15]; exact fi_X3_fail g h6 h7 h4
          exact gs15
    · skip
      refine zFi_let (fun v16 _ => ?_)
      refine zFi_let (fun v17 _ => ?_)
      refine zFi_if (fun _ => ?_) (fun _ => ?_)
      · skip
        refine zFi_let (fun v37 ev37 => ?_)
        rw [g.rf] at ev37
        subst ev37
        refine zFi_let (fun v38 _ => ?_)
        refine zFi_let (fun v39 _ => ?_)
        refine zFi_let (fun v40 _ => ?_)
        refine zFi_let (fun v41 _ => ?_)
        refine zFi_let (fun s42 es42 => ?_)
        have gs42 : zFi A σ s42 := by rw [es42]; exact fi_X9_addStep g h0 h1 h2
        refine zFi_let (fun v43 _ => ?_)
        refine zFi_let (fun s44 es44 => ?_)
        have gs44 : zFi A σ s44 := by rw [es44]; exact fi_X3_take gs42 h3 h4 h5 h6 h7
        exact gs44
      · skip
        refine zFi_let (fun v20 _ => ?_)
        refine zFi_let (fun v21 _ => ?_)
        refine zFi_if (fun _ => ?_) (fun _ => ?_)
        · skip
          refine zFi_let (fun v30 _ => ?_)
          refine zFi_if (fun _ => ?_) (fun _ => ?_)
          · skip
            exact g
          · skip
            refine zFi_let (fun v32 _ => ?_)
            refine zFi_let (fun v33 _ => ?_)
            refine zFi_if (fun _ => ?_) (fun _ => ?_)
            · skip
              refine zFi_let (fun v35 _ => ?_)
              refine zFi_let (fun s36 es36 => ?_)
              have gs36 : zFi A σ s36 := by rw [es36]; exact fi_X3_fail g h6 h7 h4
              exact gs36
            · skip
              exact g
        · skip
          refine zFi_let (fun v23 _ => ?_)
          refine zFi_let (fun v24 _ => ?_)
          refine zFi_if (fun _ => ?_) (fun _ => ?_)
          · skip
            refine zFi_let (fun v28 _ => ?_)
            refine zFi_let (fun s29 es29 => ?_)
            have gs29 : zFi A σ s29 := by rw [es29]; exact fi_X3_fail g h6 h7 h4
            exact gs29
          · skip
            refine zFi_let (fun v26 _ => ?_)
            refine zFi_let (fun s27 es27 => ?_)
            have gs27 : zFi A σ s27 := by rw [es27]; exact fi_X3_fail g h6 h7 h4
            exact gs27
set_option maxRecDepth 100000 in
theorem fi_X3_product_o6_7 {A : Nat → Nat → Prop} {σ : zS} {a0 : Nat} {p1 : Int32}  (h0 : A a0 2) (h1 : A a0 3) (h2 : A a0 5) (h3 : A a0 8) (h4 : A a0 9) (h5 : ∀ j, A ((σ.2.2 ((σ.2.2 a0 1).getD 0) 6).getD 0) j) (h6 : ∀ j, A ((σ.2.2 ((σ.2.2 a0 1).getD 0) 7).getD 0) j) (h7 : A (((σ.2.2 a0 1).getD 0)) 8) : ∀ (n : Nat) (x3 : Int32) (τ4 : zS), zFi A σ τ4 → zFi A σ (F_X3_product_o6_7 a0 p1 n x3 τ4) := by
  intro n
  induction n with
  | zero => intro x3 τ4 g; exact g
  | succ n ih =>
    intro x3 τ4 g
    rw [F_X3_product_o6_7]
    refine zFi_let (fun v5 _ => ?_)
    refine zFi_if (fun _ => ?_) (fun _ => ?_)
    · skip
      exact g
    · skip
      refine zFi_let (fun v7 _ => ?_)
      refine zFi_let (fun v8 _ => ?_)
      refine zFi_let (fun v9 _ => ?_)
      refine zFi_let (fun v10 _ => ?_)
      refine zFi_if (fun _ => ?_) (fun _ => ?_)
      · skip
        exact g
      · skip
        refine zFi_let (fun v12 _ => ?_)
        refine zFi_let (fun s13 es13 => ?_)
        have gs13 : zFi A σ s13 := by rw [es13]; exact fi_X3_take g h0 h1 h2 h3 h4
        refine zFi_let (fun s14 es14 => ?_)
        have gs14 : zFi A σ s14 := by rw [es14]; exact fi_X3_unit_o6 gs13 h5 h6 h7 h0 h1 h2 h3 h4
        refine zFi_let (fun v15 ev15 => ?_)
        rw [gs14.rf] at ev15
        subst ev15
        refine zFi_let (fun v16 _ => ?_)
        refine zFi_if (fun _ => ?_) (fun _ => ?_)
        · skip
          refine zFi_let (fun v22 _ => ?_)
          refine zFi_let (fun v23 _ => ?_)
          refine zFi_let (fun s24 es24 => ?_)
          have gs24 : zFi A σ s24 := by rw [es24]; exact fi_X9_addStep gs14 h5 h6 h7
          refine zFi_let (fun v25 _ => ?_)
          exact ih _ _ gs24
        · skip
          refine zFi_let (fun v18 _ => ?_)
          refine zFi_let (fun v19 _ => ?_)
          refine zFi_let (fun s20 es20 => ?_)
          have gs20 : zFi A σ s20 := by rw [es20]; exact fi_X9_addStep gs14 h5 h6 h7
          refine zFi_let (fun v21 _ => ?_)
          exact ih _ _ gs20
set_option maxRecDepth 100000 in
theorem fi_X3_product_o6 {A : Nat → Nat → Prop} {σ σ0 : zS} {a0 : Nat} {p1 : Int32}  (g : zFi A σ σ0) (h0 : ∀ j, A ((σ.2.2 ((σ.2.2 a0 1).getD 0) 6).getD 0) j) (h1 : ∀ j, A ((σ.2.2 ((σ.2.2 a0 1).getD 0) 7).getD 0) j) (h2 : A (((σ.2.2 a0 1).getD 0)) 8) (h3 : A a0 2) (h4 : A a0 3) (h5 : A a0 5) (h6 : A a0 8) (h7 : A a0 9) : zFi A σ (F_X3_product_o6 a0 p1 σ0) := by
  unfold F_X3_product_o6
  refine zFi_let (fun s1 es1 => ?_)
  have gs1 : zFi A σ s1 := by rw [es1]; exact fi_X3_unit_o6 g h0 h1 h2 h3 h4 h5 h6 h7
  refine zFi_let (fun v2 _ => ?_)
  exact fi_X3_product_o6_7  h3 h4 h5 h6 h7 h0 h1 h2 _ _ _ gs1
set_option maxRecDepth 100000 in
theorem fi_X3_sum_o6_7 {A : Nat → Nat → Prop} {σ : zS} {a0 : Nat} {p1 : Int32}  (h0 : A a0 2) (h1 : A a0 3) (h2 : A a0 5) (h3 : A a0 8) (h4 : A a0 9) (h5 : ∀ j, A ((σ.2.2 ((σ.2.2 a0 1).getD 0) 6).getD 0) j) (h6 : ∀ j, A ((σ.2.2 ((σ.2.2 a0 1).getD 0) 7).getD 0) j) (h7 : A (((σ.2.2 a0 1).getD 0)) 8) : ∀ (n : Nat) (x3 : Int32) (τ4 : zS), zFi A σ τ4 → zFi A σ (F_X3_sum_o6_7 a0 p1 n x3 τ4) := by
  intro n
  induction n with
  | zero => intro x3 τ4 g; exact g
  | succ n ih =>
    intro x3 τ4 g
    rw [F_X3_sum_o6_7]
    refine zFi_let (fun v5 _ => ?_)
    refine zFi_if (fun _ => ?_) (fun _ => ?_)
    · skip
      exact g
    · skip
      refine zFi_let (fun v7 _ => ?_)
      refine zFi_let (fun v8 _ => ?_)
      refine zFi_let (fun v9 _ => ?_)
      refine zFi_let (fun v10 _ => ?_)
      refine zFi_if (fun _ => ?_) (fun _ => ?_)
      · skip
        exact g
      · skip
        refine zFi_let (fun v12 _ => ?_)
        refine zFi_let (fun s13 es13 => ?_)
        have gs13 : zFi A σ s13 := by rw [es13]; exact fi_X3_take g h0 h1 h2 h3 h4
        refine zFi_let (fun s14 es14 => ?_)
        have gs14 : zFi A σ s14 := by rw [es14]; exact fi_X3_product_o6 gs13 h5 h6 h7 h0 h1 h2 h3 h4
        refine zFi_let (fun v15 ev15 => ?_)
        rw [gs14.rf] at ev15
        subst ev15
        refine zFi_let (fun v16 _ => ?_)
        refine zFi_if (fun _ => ?_) (fun _ => ?_)
        · skip
          refine zFi_let (fun v22 _ => ?_)
          refine zFi_let (fun v23 _ => ?_)
          refine zFi_let (fun s24 es24 => ?_)
          have gs24 : zFi A σ s24 := by rw [es24]; exact fi_X9_addStep gs14 h5 h6 h7
          refine zFi_let (fun v25 _ => ?_)
          exact ih _ _ gs24
        · skip
          refine zFi_let (fun v18 _ => ?_)
          refine zFi_let (fun v19 _ => ?_)
          refine zFi_let (fun s20 es20 => ?_)
          have gs20 : zFi A σ s20 := by rw [es20]; exact fi_X9_addStep gs14 h5 h6 h7
          refine zFi_let (fun v21 _ => ?_)
          exact ih _ _ gs20
set_option maxRecDepth 100000 in
theorem fi_X3_sum_o6 {A : Nat → Nat → Prop} {σ σ0 : zS} {a0 : Nat} {p1 : Int32}  (g : zFi A σ σ0) (h0 : ∀ j, A ((σ.2.2 ((σ.2.2 a0 1).getD 0) 6).getD 0) j) (h1 : ∀ j, A ((σ.2.2 ((σ.2.2 a0 1).getD 0) 7).getD 0) j) (h2 : A (((σ.2.2 a0 1).getD 0)) 8) (h3 : A a0 2) (h4 : A a0 3) (h5 : A a0 5) (h6 : A a0 8) (h7 : A a0 9) : zFi A σ (F_X3_sum_o6 a0 p1 σ0) := by
  unfold F_X3_sum_o6
  refine zFi_let (fun s1 es1 => ?_)
  have gs1 : zFi A σ s1 := by rw [es1]; exact fi_X3_product_o6 g h0 h1 h2 h3 h4 h5 h6 h7
  refine zFi_let (fun v2 _ => ?_)
  exact fi_X3_sum_o6_7  h3 h4 h5 h6 h7 h0 h1 h2 _ _ _ gs1
set_option maxRecDepth 100000 in
theorem fi_X3_unit_o5 {A : Nat → Nat → Prop} {σ σ0 : zS} {a0 : Nat} {p1 : Int32}  (g : zFi A σ σ0) (h0 : ∀ j, A ((σ.2.2 ((σ.2.2 a0 1).getD 0) 6).getD 0) j) (h1 : ∀ j, A ((σ.2.2 ((σ.2.2 a0 1).getD 0) 7).getD 0) j) (h2 : A (((σ.2.2 a0 1).getD 0)) 8) (h3 : A a0 2) (h4 : A a0 3) (h5 : A a0 5) (h6 : A a0 8) (h7 : A a0 9) : zFi A σ (F_X3_unit_o5 a0 p1 σ0) := by
  unfold F_X3_unit_o5
  refine zFi_let (fun v1 _ => ?_)
  refine zFi_let (fun v2 _ => ?_)
  refine zFi_if (fun _ => ?_) (fun _ => ?_)
  · skip
    refine zFi_let (fun v47 ev47 => ?_)
    rw [g.rf] at ev47
    subst ev47
    refine zFi_let (fun v48 _ => ?_)
    refine zFi_let (fun v49 _ => ?_)
    refine zFi_let (fun v50 _ => ?_)
    refine zFi_let (fun s51 es51 => ?_)
    have gs51 : zFi A σ s51 := by rw [es51]; exact fi_X9_addStep g h0 h1 h2
    refine zFi_let (fun v52 _ => ?_)
    refine zFi_let (fun s53 es53 => ?_)
    have gs53 : zFi A σ s53 := by rw [es53]; exact fi_X3_take gs51 h3 h4 h5 h6 h7
    exact gs53
  · skip
    refine zFi_let (fun v4 _ => ?_)
    refine zFi_let (fun v5 _ => ?_)
    refine zFi_if (fun _ => ?_) (fun _ => ?_)
    · skip
      refine zFi_let (fun v8 _ => ?_)
      refine zFi_let (fun v9 _ => ?_)
      refine zFi_if (fun _ => ?_) (fun _ => ?_)
      · skip
        exact g
      · skip
        refine zFi_let (fun v11 _ => ?_)
        refine zFi_let (fun v12 _ => ?_)
        refine zFi_if (fun _ => ?_) (fun _ => ?_)
        · skip
          exact g
        · skip
          refine zFi_let (fun v14 _ => ?_)
          refine zFi_let (fun s15 es15 => ?_)
          have gs15 : zFi A σ s15 := by rw [es15]; exact fi_X3_fail g h6 h7 h4
          exact gs15
    · skip
      refine zFi_let (fun v16 _ => ?_)
      refine zFi_let (fun v17 _ => ?_)
      refine zFi_if (fun _ => ?_) (fun _ => ?_)
      · skip
        refine zFi_let (fun v39 ev39 => ?_)
        rw [g.rf] at ev39
        subst ev39
        refine zFi_let (fun v40 _ => ?_)
        refine zFi_let (fun v41 _ => ?_)
        refine zFi_let (fun v42 _ => ?_)
        refine zFi_let (fun v43 _ => ?_)
        refine zFi_let (fun s44 es44 => ?_)
        have gs44 : zFi A σ s44 := by rw [es44]; exact fi_X9_addStep g h0 h1 h2
        refine zFi_let (fun v45 _ => ?_)
        refine zFi_let (fun s46 es46 => ?_)
        have gs46 : zFi A σ s46 := by rw [es46]; exact fi_X3_take gs44 h3 h4 h5 h6 h7
        exact gs46
      · skip
        refine zFi_let (fun v20 _ => ?_)
        refine zFi_let (fun v21 _ => ?_)
        refine zFi_if (fun _ => ?_) (fun _ => ?_)
        · skip
          refine zFi_let (fun v30 _ => ?_)
          refine zFi_if (fun _ => ?_) (fun _ => ?_)
          · skip
            refine zFi_let (fun v32 _ => ?_)
            refine zFi_let (fun s33 es33 => ?_)
            have gs33 : zFi A σ s33 := by rw [es33]; exact fi_X3_take g h3 h4 h5 h6 h7
            refine zFi_let (fun v34 _ => ?_)
            refine zFi_let (fun v35 _ => ?_)
            refine zFi_let (fun s36 es36 => ?_)
            have gs36 : zFi A σ s36 := by rw [es36]; exact fi_X3_sum_o6 gs33 h0 h1 h2 h3 h4 h5 h6 h7
            refine zFi_let (fun v37 _ => ?_)
            refine zFi_let (fun s38 es38 => ?_)
            have gs38 : zFi A σ s38 := by rw [es38]; exact fi_X3_take gs36 h3 h4 h5 h6 h7
            exact gs38
          · skip
            exact g
        · skip
          refine zFi_let (fun v23 _ => ?_)
          refine zFi_let (fun v24 _ => ?_)
          refine zFi_if (fun _ => ?_) (fun _ => ?_)
          · skip
            refine zFi_let (fun v28 _ => ?_)
            refine zFi_let (fun s29 es29 => ?_)
            have gs29 : zFi A σ s29 := by rw [es29]; exact fi_X3_fail g h6 h7 h4
            exact gs29
          · skip
            refine zFi_let (fun v26 _ => ?_)
            refine zFi_let (fun s27 es27 => ?_)
            have gs27 : zFi A σ s27 := by rw [es27]; exact fi_X3_fail g h6 h7 h4
            exact gs27
set_option maxRecDepth 100000 in
theorem fi_X3_product_o5_7 {A : Nat → Nat → Prop} {σ : zS} {a0 : Nat} {p1 : Int32}  (h0 : A a0 2) (h1 : A a0 3) (h2 : A a0 5) (h3 : A a0 8) (h4 : A a0 9) (h5 : ∀ j, A ((σ.2.2 ((σ.2.2 a0 1).getD 0) 6).getD 0) j) (h6 : ∀ j, A ((σ.2.2 ((σ.2.2 a0 1).getD 0) 7).getD 0) j) (h7 : A (((σ.2.2 a0 1).getD 0)) 8) : ∀ (n : Nat) (x3 : Int32) (τ4 : zS), zFi A σ τ4 → zFi A σ (F_X3_product_o5_7 a0 p1 n x3 τ4) := by
  intro n
  induction n with
  | zero => intro x3 τ4 g; exact g
  | succ n ih =>
    intro x3 τ4 g
    rw [F_X3_product_o5_7]
    refine zFi_let (fun v5 _ => ?_)
    refine zFi_if (fun _ => ?_) (fun _ => ?_)
    · skip
      exact g
    · skip
      refine zFi_let (fun v7 _ => ?_)
      refine zFi_let (fun v8 _ => ?_)
      refine zFi_let (fun v9 _ => ?_)
      refine zFi_let (fun v10 _ => ?_)
      refine zFi_if (fun _ => ?_) (fun _ => ?_)
      · skip
        exact g
      · skip
        refine zFi_let (fun v12 _ => ?_)
        refine zFi_let (fun s13 es13 => ?_)
        have gs13 : zFi A σ s13 := by rw [es13]; exact fi_X3_take g h0 h1 h2 h3 h4
        refine zFi_let (fun s14 es14 => ?_)
        have gs14 : zFi A σ s14 := by rw [es14]; exact fi_X3_unit_o5 gs13 h5 h6 h7 h0 h1 h2 h3 h4
        refine zFi_let (fun v15 ev15 => ?_)
        rw [gs14.rf] at ev15
        subst ev15
        refine zFi_let (fun v16 _ => ?_)
        refine zFi_if (fun _ => ?_) (fun _ => ?_)
        · skip
          refine zFi_let (fun v22 _ => ?_)
          refine zFi_let (fun v23 _ => ?_)
          refine zFi_let (fun s24 es24 => ?_)
          have gs24 : zFi A σ s24 := by rw [es24]; exact fi_X9_addStep gs14 h5 h6 h7
          refine zFi_let (fun v25 _ => ?_)
          exact ih _ _ gs24
        · skip
          refine zFi_let (fun v18 _ => ?_)
          refine zFi_let (fun v19 _ => ?_)
          refine zFi_let (fun s20 es20 => ?_)
          have gs20 : zFi A σ s20 := by rw [es20]; exact fi_X9_addStep gs14 h5 h6 h7
          refine zFi_let (fun v21 _ => ?_)
          exact ih _ _ gs20
set_option maxRecDepth 100000 in
theorem fi_X3_product_o5 {A : Nat → Nat → Prop} {σ σ0 : zS} {a0 : Nat} {p1 : Int32}  (g : zFi A σ σ0) (h0 : ∀ j, A ((σ.2.2 ((σ.2.2 a0 1).getD 0) 6).getD 0) j) (h1 : ∀ j, A ((σ.2.2 ((σ.2.2 a0 1).getD 0) 7).getD 0) j) (h2 : A (((σ.2.2 a0 1).getD 0)) 8) (h3 : A a0 2) (h4 : A a0 3) (h5 : A a0 5) (h6 : A a0 8) (h7 : A a0 9) : zFi A σ (F_X3_product_o5 a0 p1 σ0) := by
  unfold F_X3_product_o5
  refine zFi_let (fun s1 es1 => ?_)
  have gs1 : zFi A σ s1 := by rw [es1]; exact fi_X3_unit_o5 g h0 h1 h2 h3 h4 h5 h6 h7
  refine zFi_let (fun v2 _ => ?_)
  exact fi_X3_product_o5_7  h3 h4 h5 h6 h7 h0 h1 h2 _ _ _ gs1
set_option maxRecDepth 100000 in
theorem fi_X3_sum_o5_7 {A : Nat → Nat → Prop} {σ : zS} {a0 : Nat} {p1 : Int32}  (h0 : A a0 2) (h1 : A a0 3) (h2 : A a0 5) (h3 : A a0 8) (h4 : A a0 9) (h5 : ∀ j, A ((σ.2.2 ((σ.2.2 a0 1).getD 0) 6).getD 0) j) (h6 : ∀ j, A ((σ.2.2 ((σ.2.2 a0 1).getD 0) 7).getD 0) j) (h7 : A (((σ.2.2 a0 1).getD 0)) 8) : ∀ (n : Nat) (x3 : Int32) (τ4 : zS), zFi A σ τ4 → zFi A σ (F_X3_sum_o5_7 a0 p1 n x3 τ4) := by
  intro n
  induction n with
  | zero => intro x3 τ4 g; exact g
  | succ n ih =>
    intro x3 τ4 g
    rw [F_X3_sum_o5_7]
    refine zFi_let (fun v5 _ => ?_)
    refine zFi_if (fun _ => ?_) (fun _ => ?_)
    · skip
      exact g
    · skip
      refine zFi_let (fun v7 _ => ?_)
      refine zFi_let (fun v8 _ => ?_)
      refine zFi_let (fun v9 _ => ?_)
      refine zFi_let (fun v10 _ => ?_)
      refine zFi_if (fun _ => ?_) (fun _ => ?_)
      · skip
        exact g
      · skip
        refine zFi_let (fun v12 _ => ?_)
        refine zFi_let (fun s13 es13 => ?_)
        have gs13 : zFi A σ s13 := by rw [es13]; exact fi_X3_take g h0 h1 h2 h3 h4
        refine zFi_let (fun s14 es14 => ?_)
        have gs14 : zFi A σ s14 := by rw [es14]; exact fi_X3_product_o5 gs13 h5 h6 h7 h0 h1 h2 h3 h4
        refine zFi_let (fun v15 ev15 => ?_)
        rw [gs14.rf] at ev15
        subst ev15
        refine zFi_let (fun v16 _ => ?_)
        refine zFi_if (fun _ => ?_) (fun _ => ?_)
        · skip
          refine zFi_let (fun v22 _ => ?_)
          refine zFi_let (fun v23 _ => ?_)
          refine zFi_let (fun s24 es24 => ?_)
          have gs24 : zFi A σ s24 := by rw [es24]; exact fi_X9_addStep gs14 h5 h6 h7
          refine zFi_let (fun v25 _ => ?_)
          exact ih _ _ gs24
        · skip
          refine zFi_let (fun v18 _ => ?_)
          refine zFi_let (fun v19 _ => ?_)
          refine zFi_let (fun s20 es20 => ?_)
          have gs20 : zFi A σ s20 := by rw [es20]; exact fi_X9_addStep gs14 h5 h6 h7
          refine zFi_let (fun v21 _ => ?_)
          exact ih _ _ gs20
set_option maxRecDepth 100000 in
theorem fi_X3_sum_o5 {A : Nat → Nat → Prop} {σ σ0 : zS} {a0 : Nat} {p1 : Int32}  (g : zFi A σ σ0) (h0 : ∀ j, A ((σ.2.2 ((σ.2.2 a0 1).getD 0) 6).getD 0) j) (h1 : ∀ j, A ((σ.2.2 ((σ.2.2 a0 1).getD 0) 7).getD 0) j) (h2 : A (((σ.2.2 a0 1).getD 0)) 8) (h3 : A a0 2) (h4 : A a0 3) (h5 : A a0 5) (h6 : A a0 8) (h7 : A a0 9) : zFi A σ (F_X3_sum_o5 a0 p1 σ0) := by
  unfold F_X3_sum_o5
  refine zFi_let (fun s1 es1 => ?_)
  have gs1 : zFi A σ s1 := by rw [es1]; exact fi_X3_product_o5 g h0 h1 h2 h3 h4 h5 h6 h7
  refine zFi_let (fun v2 _ => ?_)
  exact fi_X3_sum_o5_7  h3 h4 h5 h6 h7 h0 h1 h2 _ _ _ gs1
set_option maxRecDepth 100000 in
theorem fi_X3_unit_o4 {A : Nat → Nat → Prop} {σ σ0 : zS} {a0 : Nat} {p1 : Int32}  (g : zFi A σ σ0) (h0 : ∀ j, A ((σ.2.2 ((σ.2.2 a0 1).getD 0) 6).getD 0) j) (h1 : ∀ j, A ((σ.2.2 ((σ.2.2 a0 1).getD 0) 7).getD 0) j) (h2 : A (((σ.2.2 a0 1).getD 0)) 8) (h3 : A a0 2) (h4 : A a0 3) (h5 : A a0 5) (h6 : A a0 8) (h7 : A a0 9) : zFi A σ (F_X3_unit_o4 a0 p1 σ0) := by
  unfold F_X3_unit_o4
  refine zFi_let (fun v1 _ => ?_)
  refine zFi_let (fun v2 _ => ?_)
  refine zFi_if (fun _ => ?_) (fun _ => ?_)
  · skip
    refine zFi_let (fun v47 ev47 => ?_)
    rw [g.rf] at ev47
    subst ev47
    refine zFi_let (fun v48 _ => ?_)
    refine zFi_let (fun v49 _ => ?_)
    refine zFi_let (fun v50 _ => ?_)
    refine zFi_let (fun s51 es51 => ?_)
    have gs51 : zFi A σ s51 := by rw [es51]; exact fi_X9_addStep g h0 h1 h2
    refine zFi_let (fun v52 _ => ?_)
    refine zFi_let (fun s53 es53 => ?_)
    have gs53 : zFi A σ s53 := by rw [es53]; exact fi_X3_take gs51 h3 h4 h5 h6 h7
    exact gs53
  · skip
    refine zFi_let (fun v4 _ => ?_)
    refine zFi_let (fun v5 _ => ?_)
    refine zFi_if (fun _ => ?_) (fun _ => ?_)
    · skip
      refine zFi_let (fun v8 _ => ?_)
      refine zFi_let (fun v9 _ => ?_)
      refine zFi_if (fun _ => ?_) (fun _ => ?_)
      · skip
        exact g
      · skip
        refine zFi_let (fun v11 _ => ?_)
        refine zFi_let (fun v12 _ => ?_)
        refine zFi_if (fun _ => ?_) (fun _ => ?_)
        · skip
          exact g
        · skip
          refine zFi_let (fun v14 _ => ?_)
          refine zFi_let (fun s15 es15 => ?_)
          have gs15 : zFi A σ s15 := by rw [es15]; exact fi_X3_fail g h6 h7 h4
          exact gs15
    · skip
      refine zFi_let (fun v16 _ => ?_)
      refine zFi_let (fun v17 _ => ?_)
      refine zFi_if (fun _ => ?_) (fun _ => ?_)
      · skip
        refine zFi_let (fun v39 ev39 => ?_)
        rw [g.rf] at ev39
        subst ev39
        refine zFi_let (fun v40 _ => ?_)
        refine zFi_let (fun v41 _ => ?_)
        refine zFi_let (fun v42 _ => ?_)
        refine zFi_let (fun v43 _ => ?_)
        refine zFi_let (fun s44 es44 => ?_)
        have gs44 : zFi A σ s44 := by rw [es44]; exact fi_X9_addStep g h0 h1 h2
        refine zFi_let (fun v45 _ => ?_)
        refine zFi_let (fun s46 es46 => ?_)
        have gs46 : zFi A σ s46 := by rw [es46]; exact fi_X3_take gs44 h3 h4 h5 h6 h7
        exact gs46
      · skip
        refine zFi_let (fun v20 _ => ?_)
        refine zFi_let (fun v21 _ => ?_)
        refine zFi_if (fun _ => ?_) (fun _ => ?_)
        · skip
          refine zFi_let (fun v30 _ => ?_)
          refine zFi_if (fun _ => ?_) (fun _ => ?_)
          · skip
            refine zFi_let (fun v32 _ => ?_)
            refine zFi_let (fun s33 es33 => ?_)
            have gs33 : zFi A σ s33 := by rw [es33]; exact fi_X3_take g h3 h4 h5 h6 h7
            refine zFi_let (fun v34 _ => ?_)
            refine zFi_let (fun v35 _ => ?_)
            refine zFi_let (fun s36 es36 => ?_)
            have gs36 : zFi A σ s36 := by rw [es36]; exact fi_X3_sum_o5 gs33 h0 h1 h2 h3 h4 h5 h6 h7
            refine zFi_let (fun v37 _ => ?_)
            refine zFi_let (fun s38 es38 => ?_)
            have gs38 : zFi A σ s38 := by rw [es38]; exact fi_X3_take gs36 h3 h4 h5 h6 h7
            exact gs38
          · skip
            exact g
        · skip
          refine zFi_let (fun v23 _ => ?_)
          refine zFi_let (fun v24 _ => ?_)
          refine zFi_if (fun _ => ?_) (fun _ => ?_)
          · skip
            refine zFi_let (fun v28 _ => ?_)
            refine zFi_let (fun s29 es29 => ?_)
            have gs29 : zFi A σ s29 := by rw [es29]; exact fi_X3_fail g h6 h7 h4
            exact gs29
          · skip
            refine zFi_let (fun v26 _ => ?_)
            refine zFi_let (fun s27 es27 => ?_)
            have gs27 : zFi A σ s27 := by rw [es27]; exact fi_X3_fail g h6 h7 h4
            exact gs27
set_option maxRecDepth 100000 in
theorem fi_X3_product_o4_7 {A : Nat → Nat → Prop} {σ : zS} {a0 : Nat} {p1 : Int32}  (h0 : A a0 2) (h1 : A a0 3) (h2 : A a0 5) (h3 : A a0 8) (h4 : A a0 9) (h5 : ∀ j, A ((σ.2.2 ((σ.2.2 a0 1).getD 0) 6).getD 0) j) (h6 : ∀ j, A ((σ.2.2 ((σ.2.2 a0 1).getD 0) 7).getD 0) j) (h7 : A (((σ.2.2 a0 1).getD 0)) 8) : ∀ (n : Nat) (x3 : Int32) (τ4 : zS), zFi A σ τ4 → zFi A σ (F_X3_product_o4_7 a0 p1 n x3 τ4) := by
  intro n
  induction n with
  | zero => intro x3 τ4 g; exact g
  | succ n ih =>
    intro x3 τ4 g
    rw [F_X3_product_o4_7]
    refine zFi_let (fun v5 _ => ?_)
    refine zFi_if (fun _ => ?_) (fun _ => ?_)
    · skip
      exact g
    · skip
      refine zFi_let (fun v7 _ => ?_)
      refine zFi_let (fun v8 _ => ?_)
      refine zFi_let (fun v9 _ => ?_)
      refine zFi_let (fun v10 _ => ?_)
      refine zFi_if (fun _ => ?_) (fun _ => ?_)
      · skip
        exact g
      · skip
        refine zFi_let (fun v12 _ => ?_)
        refine zFi_let (fun s13 es13 => ?_)
        have gs13 : zFi A σ s13 := by rw [es13]; exact fi_X3_take g h0 h1 h2 h3 h4
        refine zFi_let (fun s14 es14 => ?_)
        have gs14 : zFi A σ s14 := by rw [es14]; exact fi_X3_unit_o4 gs13 h5 h6 h7 h0 h1 h2 h3 h4
        refine zFi_let (fun v15 ev15 => ?_)
        rw [gs14.rf] at ev15
        subst ev15
        refine zFi_let (fun v16 _ => ?_)
        refine zFi_if (fun _ => ?_) (fun _ => ?_)
        · skip
          refine zFi_let (fun v22 _ => ?_)
          refine zFi_let (fun v23 _ => ?_)
          refine zFi_let (fun s24 es24 => ?_)
          have gs24 : zFi A σ s24 := by rw [es24]; exact fi_X9_addStep gs14 h5 h6 h7
          refine zFi_let (fun v25 _ => ?_)
          exact ih _ _ gs24
        · skip
          refine zFi_let (fun v18 _ => ?_)
          refine zFi_let (fun v19 _ => ?_)
          refine zFi_let (fun s20 es20 => ?_)
          have gs20 : zFi A σ s20 := by rw [es20]; exact fi_X9_addStep gs14 h5 h6 h7
          refine zFi_let (fun v21 _ => ?_)
          exact ih _ _ gs20
set_option maxRecDepth 100000 in
theorem fi_X3_product_o4 {A : Nat → Nat → Prop} {σ σ0 : zS} {a0 : Nat} {p1 : Int32}  (g : zFi A σ σ0) (h0 : ∀ j, A ((σ.2.2 ((σ.2.2 a0 1).getD 0) 6).getD 0) j) (h1 : ∀ j, A ((σ.2.2 ((σ.2.2 a0 1).getD 0) 7).getD 0) j) (h2 : A (((σ.2.2 a0 1).getD 0)) 8) (h3 : A a0 2) (h4 : A a0 3) (h5 : A a0 5) (h6 : A a0 8) (h7 : A a0 9) : zFi A σ (F_X3_product_o4 a0 p1 σ0) := by
  unfold F_X3_product_o4
  refine zFi_let (fun s1 es1 => ?_)
  have gs1 : zFi A σ s1 := by rw [es1]; exact fi_X3_unit_o4 g h0 h1 h2 h3 h4 h5 h6 h7
  refine zFi_let (fun v2 _ => ?_)
  exact fi_X3_product_o4_7  h3 h4 h5 h6 h7 h0 h1 h2 _ _ _ gs1
set_option maxRecDepth 100000 in
theorem fi_X3_sum_o4_7 {A : Nat → Nat → Prop} {σ : zS} {a0 : Nat} {p1 : Int32}  (h0 : A a0 2) (h1 : A a0 3) (h2 : A a0 5) (h3 : A a0 8) (h4 : A a0 9) (h5 : ∀ j, A ((σ.2.2 ((σ.2.2 a0 1).getD 0) 6).getD 0) j) (h6 : ∀ j, A ((σ.2.2 ((σ.2.2 a0 1).getD 0) 7).getD 0) j) (h7 : A (((σ.2.2 a0 1).getD 0)) 8) : ∀ (n : Nat) (x3 : Int32) (τ4 : zS), zFi A σ τ4 → zFi A σ (F_X3_sum_o4_7 a0 p1 n x3 τ4) := by
  intro n
  induction n with
  | zero => intro x3 τ4 g; exact g
  | succ n ih =>
    intro x3 τ4 g
    rw [F_X3_sum_o4_7]
    refine zFi_let (fun v5 _ => ?_)
    refine zFi_if (fun _ => ?_) (fun _ => ?_)
    · skip
      exact g
    · skip
      refine zFi_let (fun v7 _ => ?_)
      refine zFi_let (fun v8 _ => ?_)
      refine zFi_let (fun v9 _ => ?_)
      refine zFi_let (fun v10 _ => ?_)
      refine zFi_if (fun _ => ?_) (fun _ => ?_)
      · skip
        exact g
      · skip
        refine zFi_let (fun v12 _ => ?_)
        refine zFi_let (fun s13 es13 => ?_)
        have gs13 : zFi A σ s13 := by rw [es13]; exact fi_X3_take g h0 h1 h2 h3 h4
        refine zFi_let (fun s14 es14 => ?_)
        have gs14 : zFi A σ s14 := by rw [es14]; exact fi_X3_product_o4 gs13 h5 h6 h7 h0 h1 h2 h3 h4
        refine zFi_let (fun v15 ev15 => ?_)
        rw [gs14.rf] at ev15
        subst ev15
        refine zFi_let (fun v16 _ => ?_)
        refine zFi_if (fun _ => ?_) (fun _ => ?_)
        · skip
          refine zFi_let (fun v22 _ => ?_)
          refine zFi_let (fun v23 _ => ?_)
          refine zFi_let (fun s24 es24 => ?_)
          have gs24 : zFi A σ s24 := by rw [es24]; exact fi_X9_addStep gs14 h5 h6 h7
          refine zFi_let (fun v25 _ => ?_)
          exact ih _ _ gs24
        · skip
          refine zFi_let (fun v18 _ => ?_)
          refine zFi_let (fun v19 _ => ?_)
          refine zFi_let (fun s20 es20 => ?_)
          have gs20 : zFi A σ s20 := by rw [es20]; exact fi_X9_addStep gs14 h5 h6 h7
          refine zFi_let (fun v21 _ => ?_)
          exact ih _ _ gs20
set_option maxRecDepth 100000 in
theorem fi_X3_sum_o4 {A : Nat → Nat → Prop} {σ σ0 : zS} {a0 : Nat} {p1 : Int32}  (g : zFi A σ σ0) (h0 : ∀ j, A ((σ.2.2 ((σ.2.2 a0 1).getD 0) 6).getD 0) j) (h1 : ∀ j, A ((σ.2.2 ((σ.2.2 a0 1).getD 0) 7).getD 0) j) (h2 : A (((σ.2.2 a0 1).getD 0)) 8) (h3 : A a0 2) (h4 : A a0 3) (h5 : A a0 5) (h6 : A a0 8) (h7 : A a0 9) : zFi A σ (F_X3_sum_o4 a0 p1 σ0) := by
  unfold F_X3_sum_o4
  refine zFi_let (fun s1 es1 => ?_)
  have gs1 : zFi A σ s1 := by rw [es1]; exact fi_X3_product_o4 g h0 h1 h2 h3 h4 h5 h6 h7
  refine zFi_let (fun v2 _ => ?_)
  exact fi_X3_sum_o4_7  h3 h4 h5 h6 h7 h0 h1 h2 _ _ _ gs1
set_option maxRecDepth 100000 in
theorem fi_X3_unit_o3 {A : Nat → Nat → Prop} {σ σ0 : zS} {a0 : Nat} {p1 : Int32}  (g : zFi A σ σ0) (h0 : ∀ j, A ((σ.2.2 ((σ.2.2 a0 1).getD 0) 6).getD 0) j) (h1 : ∀ j, A ((σ.2.2 ((σ.2.2 a0 1).getD 0) 7).getD 0) j) (h2 : A (((σ.2.2 a0 1).getD 0)) 8) (h3 : A a0 2) (h4 : A a0 3) (h5 : A a0 5) (h6 : A a0 8) (h7 : A a0 9) : zFi A σ (F_X3_unit_o3 a0 p1 σ0) := by
  unfold F_X3_unit_o3
  refine zFi_let (fun v1 _ => ?_)
  refine zFi_let (fun v2 _ => ?_)
  refine zFi_if (fun _ => ?_) (fun _ => ?_)
  · skip
    refine zFi_let (fun v47 ev47 => ?_)
    rw [g.rf] at ev47
    subst ev47
    refine zFi_let (fun v48 _ => ?_)
    refine zFi_let (fun v49 _ => ?_)
    refine zFi_let (fun v50 _ => ?_)
    refine zFi_let (fun s51 es51 => ?_)
    have gs51 : zFi A σ s51 := by rw [es51]; exact fi_X9_addStep g h0 h1 h2
    refine zFi_let (fun v52 _ => ?_)
    refine zFi_let (fun s53 es53 => ?_)
    have gs53 : zFi A σ s53 := by rw [es53]; exact fi_X3_take gs51 h3 h4 h5 h6 h7
    exact gs53
  · skip
    refine zFi_let (fun v4 _ => ?_)
    refine zFi_let (fun v5 _ => ?_)
    refine zFi_if (fun _ => ?_) (fun _ => ?_)
    · skip
      refine zFi_let (fun v8 _ => ?_)
      refine zFi_let (fun v9 _ => ?_)
      refine zFi_if (fun _ => ?_) (fun _ => ?_)
      · skip
        exact g
      · skip
        refine zFi_let (fun v11 _ => ?_)
        refine zFi_let (fun v12 _ => ?_)
        refine zFi_if (fun _ => ?_) (fun _ => ?_)
        · skip
          exact g
        · skip
          refine zFi_let (fun v14 _ => ?_)
          refine zFi_let (fun s15 es15 => ?_)
          have gs15 : zFi A σ s15 := by rw [es15]; exact fi_X3_fail g h6 h7 h4
          exact gs15
    · skip
      refine zFi_let (fun v16 _ => ?_)
      refine zFi_let (fun v17 _ => ?_)
      refine zFi_if (fun _ => ?_) (fun _ => ?_)
      · skip
        refine zFi_let (fun v39 ev39 => ?_)
        rw [g.rf] at ev39
        subst ev39
        refine zFi_let (fun v40 _ => ?_)
        refine zFi_let (fun v41 _ => ?_)
        refine zFi_let (fun v42 _ => ?_)
        refine zFi_let (fun v43 _ => ?_)
        refine zFi_let (fun s44 es44 => ?_)
        have gs44 : zFi A σ s44 := by rw [es44]; exact fi_X9_addStep g h0 h1 h2
        refine zFi_let (fun v45 _ => ?_)
        refine zFi_let (fun s46 es46 => ?_)
        have gs46 : zFi A σ s46 := by rw [es46]; exact fi_X3_take gs44 h3 h4 h5 h6 h7
        exact gs46
      · skip
        refine zFi_let (fun v20 _ => ?_)
        refine zFi_let (fun v21 _ => ?_)
        refine zFi_if (fun _ => ?_) (fun _ => ?_)
        · skip
          refine zFi_let (fun v30 _ => ?_)
          refine zFi_if (fun _ => ?_) (fun _ => ?_)
          · skip
            refine zFi_let (fun v32 _ => ?_)
            refine zFi_let (fun s33 es33 => ?_)
            have gs33 : zFi A σ s33 := by rw [es33]; exact fi_X3_take g h3 h4 h5 h6 h7
            refine zFi_let (fun v34 _ => ?_)
            refine zFi_let (fun v35 _ => ?_)
            refine zFi_let (fun s36 es36 => ?_)
            have gs36 : zFi A σ s36 := by rw [es36]; exact fi_X3_sum_o4 gs33 h0 h1 h2 h3 h4 h5 h6 h7
            refine zFi_let (fun v37 _ => ?_)
            refine zFi_let (fun s38 es38 => ?_)
            have gs38 : zFi A σ s38 := by rw [es38]; exact fi_X3_take gs36 h3 h4 h5 h6 h7
            exact gs38
          · skip
            exact g
        · skip
          refine zFi_let (fun v23 _ => ?_)
          refine zFi_let (fun v24 _ => ?_)
          refine zFi_if (fun _ => ?_) (fun _ => ?_)
          · skip
            refine zFi_let (fun v28 _ => ?_)
            refine zFi_let (fun s29 es29 => ?_)
            have gs29 : zFi A σ s29 := by rw [es29]; exact fi_X3_fail g h6 h7 h4
            exact gs29
          · skip
            refine zFi_let (fun v26 _ => ?_)
            refine zFi_let (fun s27 es27 => ?_)
            have gs27 : zFi A σ s27 := by rw [es27]; exact fi_X3_fail g h6 h7 h4
            exact gs27
set_option maxRecDepth 100000 in
theorem fi_X3_product_o3_7 {A : Nat → Nat → Prop} {σ : zS} {a0 : Nat} {p1 : Int32}  (h0 : A a0 2) (h1 : A a0 3) (h2 : A a0 5) (h3 : A a0 8) (h4 : A a0 9) (h5 : ∀ j, A ((σ.2.2 ((σ.2.2 a0 1).getD 0) 6).getD 0) j) (h6 : ∀ j, A ((σ.2.2 ((σ.2.2 a0 1).getD 0) 7).getD 0) j) (h7 : A (((σ.2.2 a0 1).getD 0)) 8) : ∀ (n : Nat) (x3 : Int32) (τ4 : zS), zFi A σ τ4 → zFi A σ (F_X3_product_o3_7 a0 p1 n x3 τ4) := by
  intro n
  induction n with
  | zero => intro x3 τ4 g; exact g
  | succ n ih =>
    intro x3 τ4 g
    rw [F_X3_product_o3_7]
    refine zFi_let (fun v5 _ => ?_)
    refine zFi_if (fun _ => ?_) (fun _ => ?_)
    · skip
      exact g
    · skip
      refine zFi_let (fun v7 _ => ?_)
      refine zFi_let (fun v8 _ => ?_)
      refine zFi_let (fun v9 _ => ?_)
      refine zFi_let (fun v10 _ => ?_)
      refine zFi_if (fun _ => ?_) (fun _ => ?_)
      · skip
        exact g
      · skip
        refine zFi_let (fun v12 _ => ?_)
        refine zFi_let (fun s13 es13 => ?_)
        have gs13 : zFi A σ s13 := by rw [es13]; exact fi_X3_take g h0 h1 h2 h3 h4
        refine zFi_let (fun s14 es14 => ?_)
        have gs14 : zFi A σ s14 := by rw [es14]; exact fi_X3_unit_o3 gs13 h5 h6 h7 h0 h1 h2 h3 h4
        refine zFi_let (fun v15 ev15 => ?_)
        rw [gs14.rf] at ev15
        subst ev15
        refine zFi_let (fun v16 _ => ?_)
        refine zFi_if (fun _ => ?_) (fun _ => ?_)
        · skip
          refine zFi_let (fun v22 _ => ?_)
          refine zFi_let (fun v23 _ => ?_)
          refine zFi_let (fun s24 es24 => ?_)
          have gs24 : zFi A σ s24 := by rw [es24]; exact fi_X9_addStep gs14 h5 h6 h7
          refine zFi_let (fun v25 _ => ?_)
          exact ih _ _ gs24
        · skip
          refine zFi_let (fun v18 _ => ?_)
          refine zFi_let (fun v19 _ => ?_)
          refine zFi_let (fun s20 es20 => ?_)
          have gs20 : zFi A σ s20 := by rw [es20]; exact fi_X9_addStep gs14 h5 h6 h7
          refine zFi_let (fun v21 _ => ?_)
          exact ih _ _ gs20
set_option maxRecDepth 100000 in
theorem fi_X3_product_o3 {A : Nat → Nat → Prop} {σ σ0 : zS} {a0 : Nat} {p1 : Int32}  (g : zFi A σ σ0) (h0 : ∀ j, A ((σ.2.2 ((σ.2.2 a0 1).getD 0) 6).getD 0) j) (h1 : ∀ j, A ((σ.2.2 ((σ.2.2 a0 1).getD 0) 7).getD 0) j) (h2 : A (((σ.2.2 a0 1).getD 0)) 8) (h3 : A a0 2) (h4 : A a0 3) (h5 : A a0 5) (h6 : A a0 8) (h7 : A a0 9) : zFi A σ (F_X3_product_o3 a0 p1 σ0) := by
  unfold F_X3_product_o3
  refine zFi_let (fun s1 es1 => ?_)
  have gs1 : zFi A σ s1 := by rw [es1]; exact fi_X3_unit_o3 g h0 h1 h2 h3 h4 h5 h6 h7
  refine zFi_let (fun v2 _ => ?_)
  exact fi_X3_product_o3_7  h3 h4 h5 h6 h7 h0 h1 h2 _ _ _ gs1
set_option maxRecDepth 100000 in
theorem fi_X3_sum_o3_7 {A : Nat → Nat → Prop} {σ : zS} {a0 : Nat} {p1 : Int32}  (h0 : A a0 2) (h1 : A a0 3) (h2 : A a0 5) (h3 : A a0 8) (h4 : A a0 9) (h5 : ∀ j, A ((σ.2.2 ((σ.2.2 a0 1).getD 0) 6).getD 0) j) (h6 : ∀ j, A ((σ.2.2 ((σ.2.2 a0 1).getD 0) 7).getD 0) j) (h7 : A (((σ.2.2 a0 1).getD 0)) 8) : ∀ (n : Nat) (x3 : Int32) (τ4 : zS), zFi A σ τ4 → zFi A σ (F_X3_sum_o3_7 a0 p1 n x3 τ4) := by
  intro n
  induction n with
  | zero => intro x3 τ4 g; exact g
  | succ n ih =>
    intro x3 τ4 g
    rw [F_X3_sum_o3_7]
    refine zFi_let (fun v5 _ => ?_)
    refine zFi_if (fun _ => ?_) (fun _ => ?_)
    · skip
      exact g
    · skip
      refine zFi_let (fun v7 _ => ?_)
      refine zFi_let (fun v8 _ => ?_)
      refine zFi_let (fun v9 _ => ?_)
      refine zFi_let (fun v10 _ => ?_)
      refine zFi_if (fun _ => ?_) (fun _ => ?_)
      · skip
        exact g
      · skip
        refine zFi_let (fun v12 _ => ?_)
        refine zFi_let (fun s13 es13 => ?_)
        have gs13 : zFi A σ s13 := by rw [es13]; exact fi_X3_take g h0 h1 h2 h3 h4
        refine zFi_let (fun s14 es14 => ?_)
        have gs14 : zFi A σ s14 := by rw [es14]; exact fi_X3_product_o3 gs13 h5 h6 h7 h0 h1 h2 h3 h4
        refine zFi_let (fun v15 ev15 => ?_)
        rw [gs14.rf] at ev15
        subst ev15
        refine zFi_let (fun v16 _ => ?_)
        refine zFi_if (fun _ => ?_) (fun _ => ?_)
        · skip
          refine zFi_let (fun v22 _ => ?_)
          refine zFi_let (fun v23 _ => ?_)
          refine zFi_let (fun s24 es24 => ?_)
          have gs24 : zFi A σ s24 := by rw [es24]; exact fi_X9_addStep gs14 h5 h6 h7
          refine zFi_let (fun v25 _ => ?_)
          exact ih _ _ gs24
        · skip
          refine zFi_let (fun v18 _ => ?_)
          refine zFi_let (fun v19 _ => ?_)
          refine zFi_let (fun s20 es20 => ?_)
          have gs20 : zFi A σ s20 := by rw [es20]; exact fi_X9_addStep gs14 h5 h6 h7
          refine zFi_let (fun v21 _ => ?_)
          exact ih _ _ gs20
set_option maxRecDepth 100000 in
theorem fi_X3_sum_o3 {A : Nat → Nat → Prop} {σ σ0 : zS} {a0 : Nat} {p1 : Int32}  (g : zFi A σ σ0) (h0 : ∀ j, A ((σ.2.2 ((σ.2.2 a0 1).getD 0) 6).getD 0) j) (h1 : ∀ j, A ((σ.2.2 ((σ.2.2 a0 1).getD 0) 7).getD 0) j) (h2 : A (((σ.2.2 a0 1).getD 0)) 8) (h3 : A a0 2) (h4 : A a0 3) (h5 : A a0 5) (h6 : A a0 8) (h7 : A a0 9) : zFi A σ (F_X3_sum_o3 a0 p1 σ0) := by
  unfold F_X3_sum_o3
  refine zFi_let (fun s1 es1 => ?_)
  have gs1 : zFi A σ s1 := by rw [es1]; exact fi_X3_product_o3 g h0 h1 h2 h3 h4 h5 h6 h7
  refine zFi_let (fun v2 _ => ?_)
  exact fi_X3_sum_o3_7  h3 h4 h5 h6 h7 h0 h1 h2 _ _ _ gs1
set_option maxRecDepth 100000 in
theorem fi_X3_unit_o2 {A : Nat → Nat → Prop} {σ σ0 : zS} {a0 : Nat} {p1 : Int32}  (g : zFi A σ σ0) (h0 : ∀ j, A ((σ.2.2 ((σ.2.2 a0 1).getD 0) 6).getD 0) j) (h1 : ∀ j, A ((σ.2.2 ((σ.2.2 a0 1).getD 0) 7).getD 0) j) (h2 : A (((σ.2.2 a0 1).getD 0)) 8) (h3 : A a0 2) (h4 : A a0 3) (h5 : A a0 5) (h6 : A a0 8) (h7 : A a0 9) : zFi A σ (F_X3_unit_o2 a0 p1 σ0) := by
  unfold F_X3_unit_o2
  refine zFi_let (fun v1 _ => ?_)
  refine zFi_let (fun v2 _ => ?_)
  refine zFi_if (fun _ => ?_) (fun _ => ?_)
  · skip
    refine zFi_let (fun v47 ev47 => ?_)
    rw [g.rf] at ev47
    subst ev47
    refine zFi_let (fun v48 _ => ?_)
    refine zFi_let (fun v49 _ => ?_)
    refine zFi_let (fun v50 _ => ?_)
    refine zFi_let (fun s51 es51 => ?_)
    have gs51 : zFi A σ s51 := by rw [es51]; exact fi_X9_addStep g h0 h1 h2
    refine zFi_let (fun v52 _ => ?_)
    refine zFi_let (fun s53 es53 => ?_)
    have gs53 : zFi A σ s53 := by rw [es53]; exact fi_X3_take gs51 h3 h4 h5 h6 h7
    exact gs53
  · skip
    refine zFi_let (fun v4 _ => ?_)
    refine zFi_let (fun v5 _ => ?_)
    refine zFi_if (fun _ => ?_) (fun _ => ?_)
    · skip
      refine zFi_let (fun v8 _ => ?_)
      refine zFi_let (fun v9 _ => ?_)
      refine zFi_if (fun _ => ?_) (fun _ => ?_)
      · skip
        exact g
      · skip
        refine zFi_let (fun v11 _ => ?_)
        refine zFi_let (fun v12 _ => ?_)
        refine zFi_if (fun _ => ?_) (fun _ => ?_)
        · skip
          exact g
        · skip
          refine zFi_let (fun v14 _ => ?_)
          refine zFi_let (fun s15 es15 => ?_)
          have gs15 : zFi A σ s15 := by rw [es15]; exact fi_X3_fail g h6 h7 h4
          exact gs15
    · skip
      refine zFi_let (fun v16 _ => ?_)
      refine zFi_let (fun v17 _ => ?_)
      refine zFi_if (fun _ => ?_) (fun _ => ?_)
      · skip
        refine zFi_let (fun v39 ev39 => ?_)
        rw [g.rf] at ev39
        subst ev39
        refine zFi_let (fun v40 _ => ?_)
        refine zFi_let (fun v41 _ => ?_)
        refine zFi_let (fun v42 _ => ?_)
        refine zFi_let (fun v43 _ => ?_)
        refine zFi_let (fun s44 es44 => ?_)
        have gs44 : zFi A σ s44 := by rw [es44]; exact fi_X9_addStep g h0 h1 h2
        refine zFi_let (fun v45 _ => ?_)
        refine zFi_let (fun s46 es46 => ?_)
        have gs46 : zFi A σ s46 := by rw [es46]; exact fi_X3_take gs44 h3 h4 h5 h6 h7
        exact gs46
      · skip
        refine zFi_let (fun v20 _ => ?_)
        refine zFi_let (fun v21 _ => ?_)
        refine zFi_if (fun _ => ?_) (fun _ => ?_)
        · skip
          refine zFi_let (fun v30 _ => ?_)
          refine zFi_if (fun _ => ?_) (fun _ => ?_)
          · skip
            refine zFi_let (fun v32 _ => ?_)
            refine zFi_let (fun s33 es33 => ?_)
            have gs33 : zFi A σ s33 := by rw [es33]; exact fi_X3_take g h3 h4 h5 h6 h7
            refine zFi_let (fun v34 _ => ?_)
            refine zFi_let (fun v35 _ => ?_)
            refine zFi_let (fun s36 es36 => ?_)
            have gs36 : zFi A σ s36 := by rw [es36]; exact fi_X3_sum_o3 gs33 h0 h1 h2 h3 h4 h5 h6 h7
            refine zFi_let (fun v37 _ => ?_)
            refine zFi_let (fun s38 es38 => ?_)
            have gs38 : zFi A σ s38 := by rw [es38]; exact fi_X3_take gs36 h3 h4 h5 h6 h7
            exact gs38
          · skip
            exact g
        · skip
          refine zFi_let (fun v23 _ => ?_)
          refine zFi_let (fun v24 _ => ?_)
          refine zFi_if (fun _ => ?_) (fun _ => ?_)
          · skip
            refine zFi_let (fun v28 _ => ?_)
            refine zFi_let (fun s29 es29 => ?_)
            have gs29 : zFi A σ s29 := by rw [es29]; exact fi_X3_fail g h6 h7 h4
            exact gs29
          · skip
            refine zFi_let (fun v26 _ => ?_)
            refine zFi_let (fun s27 es27 => ?_)
            have gs27 : zFi A σ s27 := by rw [es27]; exact fi_X3_fail g h6 h7 h4
            exact gs27
set_option maxRecDepth 100000 in
theorem fi_X3_product_o2_7 {A : Nat → Nat → Prop} {σ : zS} {a0 : Nat} {p1 : Int32}  (h0 : A a0 2) (h1 : A a0 3) (h2 : A a0 5) (h3 : A a0 8) (h4 : A a0 9) (h5 : ∀ j, A ((σ.2.2 ((σ.2.2 a0 1).getD 0) 6).getD 0) j) (h6 : ∀ j, A ((σ.2.2 ((σ.2.2 a0 1).getD 0) 7).getD 0) j) (h7 : A (((σ.2.2 a0 1).getD 0)) 8) : ∀ (n : Nat) (x3 : Int32) (τ4 : zS), zFi A σ τ4 → zFi A σ (F_X3_product_o2_7 a0 p1 n x3 τ4) := by
  intro n
  induction n with
  | zero => intro x3 τ4 g; exact g
  | succ n ih =>
    intro x3 τ4 g
    rw [F_X3_product_o2_7]
    refine zFi_let (fun v5 _ => ?_)
    refine zFi_if (fun _ => ?_) (fun _ => ?_)
    · skip
      exact g
    · skip
      refine zFi_let (fun v7 _ => ?_)
      refine zFi_let (fun v8 _ => ?_)
      refine zFi_let (fun v9 _ => ?_)
      refine zFi_let (fun v10 _ => ?_)
      refine zFi_if (fun _ => ?_) (fun _ => ?_)
      · skip
        exact g
      · skip
        refine zFi_let (fun v12 _ => ?_)
        refine zFi_let (fun s13 es13 => ?_)
        have gs13 : zFi A σ s13 := by rw [es13]; exact fi_X3_take g h0 h1 h2 h3 h4
        refine zFi_let (fun s14 es14 => ?_)
        have gs14 : zFi A σ s14 := by rw [es14]; exact fi_X3_unit_o2 gs13 h5 h6 h7 h0 h1 h2 h3 h4
        refine zFi_let (fun v15 ev15 => ?_)
        rw [gs14.rf] at ev15
        subst ev15
        refine zFi_let (fun v16 _ => ?_)
        refine zFi_if (fun _ => ?_) (fun _ => ?_)
        · skip
          refine zFi_let (fun v22 _ => ?_)
          refine zFi_let (fun v23 _ => ?_)
          refine zFi_let (fun s24 es24 => ?_)
          have gs24 : zFi A σ s24 := by rw [es24]; exact fi_X9_addStep gs14 h5 h6 h7
          refine zFi_let (fun v25 _ => ?_)
          exact ih _ _ gs24
        · skip
          refine zFi_let (fun v18 _ => ?_)
          refine zFi_let (fun v19 _ => ?_)
          refine zFi_let (fun s20 es20 => ?_)
          have gs20 : zFi A σ s20 := by rw [es20]; exact fi_X9_addStep gs14 h5 h6 h7
          refine zFi_let (fun v21 _ => ?_)
          exact ih _ _ gs20
set_option maxRecDepth 100000 in
theorem fi_X3_product_o2 {A : Nat → Nat → Prop} {σ σ0 : zS} {a0 : Nat} {p1 : Int32}  (g : zFi A σ σ0) (h0 : ∀ j, A ((σ.2.2 ((σ.2.2 a0 1).getD 0) 6).getD 0) j) (h1 : ∀ j, A ((σ.2.2 ((σ.2.2 a0 1).getD 0) 7).getD 0) j) (h2 : A (((σ.2.2 a0 1).getD 0)) 8) (h3 : A a0 2) (h4 : A a0 3) (h5 : A a0 5) (h6 : A a0 8) (h7 : A a0 9) : zFi A σ (F_X3_product_o2 a0 p1 σ0) := by
  unfold F_X3_product_o2
  refine zFi_let (fun s1 es1 => ?_)
  have gs1 : zFi A σ s1 := by rw [es1]; exact fi_X3_unit_o2 g h0 h1 h2 h3 h4 h5 h6 h7
  refine zFi_let (fun v2 _ => ?_)
  exact fi_X3_product_o2_7  h3 h4 h5 h6 h7 h0 h1 h2 _ _ _ gs1
set_option maxRecDepth 100000 in
theorem fi_X3_sum_o2_7 {A : Nat → Nat → Prop} {σ : zS} {a0 : Nat} {p1 : Int32}  (h0 : A a0 2) (h1 : A a0 3) (h2 : A a0 5) (h3 : A a0 8) (h4 : A a0 9) (h5 : ∀ j, A ((σ.2.2 ((σ.2.2 a0 1).getD 0) 6).getD 0) j) (h6 : ∀ j, A ((σ.2.2 ((σ.2.2 a0 1).getD 0) 7).getD 0) j) (h7 : A (((σ.2.2 a0 1).getD 0)) 8) : ∀ (n : Nat) (x3 : Int32) (τ4 : zS), zFi A σ τ4 → zFi A σ (F_X3_sum_o2_7 a0 p1 n x3 τ4) := by
  intro n
  induction n with
  | zero => intro x3 τ4 g; exact g
  | succ n ih =>
    intro x3 τ4 g
    rw [F_X3_sum_o2_7]
    refine zFi_let (fun v5 _ => ?_)
    refine zFi_if (fun _ => ?_) (fun _ => ?_)
    · skip
      exact g
    · skip
      refine zFi_let (fun v7 _ => ?_)
      refine zFi_let (fun v8 _ => ?_)
      refine zFi_let (fun v9 _ => ?_)
      refine zFi_let (fun v10 _ => ?_)
      refine zFi_if (fun _ => ?_) (fun _ => ?_)
      · skip
        exact g
      · skip
        refine zFi_let (fun v12 _ => ?_)
        refine zFi_let (fun s13 es13 => ?_)
        have gs13 : zFi A σ s13 := by rw [es13]; exact fi_X3_take g h0 h1 h2 h3 h4
        refine zFi_let (fun s14 es14 => ?_)
        have gs14 : zFi A σ s14 := by rw [es14]; exact fi_X3_product_o2 gs13 h5 h6 h7 h0 h1 h2 h3 h4
        refine zFi_let (fun v15 ev15 => ?_)
        rw [gs14.rf] at ev15
        subst ev15
        refine zFi_let (fun v16 _ => ?_)
        refine zFi_if (fun _ => ?_) (fun _ => ?_)
        · skip
          refine zFi_let (fun v22 _ => ?_)
          refine zFi_let (fun v23 _ => ?_)
          refine zFi_let (fun s24 es24 => ?_)
          have gs24 : zFi A σ s24 := by rw [es24]; exact fi_X9_addStep gs14 h5 h6 h7
          refine zFi_let (fun v25 _ => ?_)
          exact ih _ _ gs24
        · skip
          refine zFi_let (fun v18 _ => ?_)
          refine zFi_let (fun v19 _ => ?_)
          refine zFi_let (fun s20 es20 => ?_)
          have gs20 : zFi A σ s20 := by rw [es20]; exact fi_X9_addStep gs14 h5 h6 h7
          refine zFi_let (fun v21 _ => ?_)
          exact ih _ _ gs20
set_option maxRecDepth 100000 in
theorem fi_X3_sum_o2 {A : Nat → Nat → Prop} {σ σ0 : zS} {a0 : Nat} {p1 : Int32}  (g : zFi A σ σ0) (h0 : ∀ j, A ((σ.2.2 ((σ.2.2 a0 1).getD 0) 6).getD 0) j) (h1 : ∀ j, A ((σ.2.2 ((σ.2.2 a0 1).getD 0) 7).getD 0) j) (h2 : A (((σ.2.2 a0 1).getD 0)) 8) (h3 : A a0 2) (h4 : A a0 3) (h5 : A a0 5) (h6 : A a0 8) (h7 : A a0 9) : zFi A σ (F_X3_sum_o2 a0 p1 σ0) := by
  unfold F_X3_sum_o2
  refine zFi_let (fun s1 es1 => ?_)
  have gs1 : zFi A σ s1 := by rw [es1]; exact fi_X3_product_o2 g h0 h1 h2 h3 h4 h5 h6 h7
  refine zFi_let (fun v2 _ => ?_)
  exact fi_X3_sum_o2_7  h3 h4 h5 h6 h7 h0 h1 h2 _ _ _ gs1
set_option maxRecDepth 100000 in
theorem fi_X3_unit_o1 {A : Nat → Nat → Prop} {σ σ0 : zS} {a0 : Nat} {p1 : Int32}  (g : zFi A σ σ0) (h0 : ∀ j, A ((σ.2.2 ((σ.2.2 a0 1).getD 0) 6).getD 0) j) (h1 : ∀ j, A ((σ.2.2 ((σ.2.2 a0 1).getD 0) 7).getD 0) j) (h2 : A (((σ.2.2 a0 1).getD 0)) 8) (h3 : A a0 2) (h4 : A a0 3) (h5 : A a0 5) (h6 : A a0 8) (h7 : A a0 9) : zFi A σ (F_X3_unit_o1 a0 p1 σ0) := by
  unfold F_X3_unit_o1
  refine zFi_let (fun v1 _ => ?_)
  refine zFi_let (fun v2 _ => ?_)
  refine zFi_if (fun _ => ?_) (fun _ => ?_)
  · skip
    refine zFi_let (fun v47 ev47 => ?_)
    rw [g.rf] at ev47
    subst ev47
    refine zFi_let (fun v48 _ => ?_)
    refine zFi_let (fun v49 _ => ?_)
    refine zFi_let (fun v50 _ => ?_)
    refine zFi_let (fun s51 es51 => ?_)
    have gs51 : zFi A σ s51 := by rw [es51]; exact fi_X9_addStep g h0 h1 h2
    refine zFi_let (fun v52 _ => ?_)
    refine zFi_let (fun s53 es53 => ?_)
    have gs53 : zFi A σ s53 := by rw [es53]; exact fi_X3_take gs51 h3 h4 h5 h6 h7
    exact gs53
  · skip
    refine zFi_let (fun v4 _ => ?_)
    refine zFi_let (fun v5 _ => ?_)
    refine zFi_if (fun _ => ?_) (fun _ => ?_)
    · skip
      refine zFi_let (fun v8 _ => ?_)
      refine zFi_let (fun v9 _ => ?_)
      refine zFi_if (fun _ => ?_) (fun _ => ?_)
      · skip
        exact g
      · skip
        refine zFi_let (fun v11 _ => ?_)
        refine zFi_let (fun v12 _ => ?_)
        refine zFi_if (fun _ => ?_) (fun _ => ?_)
        · skip
          exact g
        · skip
          refine zFi_let (fun v14 _ => ?_)
          refine zFi_let (fun s15 es15 => ?_)
          have gs15 : zFi A σ s15 := by rw [es15]; exact fi_X3_fail g h6 h7 h4
          exact gs15
    · skip
      refine zFi_let (fun v16 _ => ?_)
      refine zFi_let (fun v17 _ => ?_)
      refine zFi_if (fun _ => ?_) (fun _ => ?_)
      · skip
        refine zFi_let (fun v39 ev39 => ?_)
        rw [g.rf] at ev39
        subst ev39
        refine zFi_let (fun v40 _ => ?_)
        refine zFi_let (fun v41 _ => ?_)
        refine zFi_let (fun v42 _ => ?_)
        refine zFi_let (fun v43 _ => ?_)
        refine zFi_let (fun s44 es44 => ?_)
        have gs44 : zFi A σ s44 := by rw [es44]; exact fi_X9_addStep g h0 h1 h2
        refine zFi_let (fun v45 _ => ?_)
        refine zFi_let (fun s46 es46 => ?_)
        have gs46 : zFi A σ s46 := by rw [es46]; exact fi_X3_take gs44 h3 h4 h5 h6 h7
        exact gs46
      · skip
        refine zFi_let (fun v20 _ => ?_)
        refine zFi_let (fun v21 _ => ?_)
        refine zFi_if (fun _ => ?_) (fun _ => ?_)
        · skip
          refine zFi_let (fun v30 _ => ?_)
          refine zFi_if (fun _ => ?_) (fun _ => ?_)
          · skip
            refine zFi_let (fun v32 _ => ?_)
            refine zFi_let (fun s33 es33 => ?_)
            have gs33 : zFi A σ s33 := by rw [es33]; exact fi_X3_take g h3 h4 h5 h6 h7
            refine zFi_let (fun v34 _ => ?_)
            refine zFi_let (fun v35 _ => ?_)
            refine zFi_let (fun s36 es36 => ?_)
            have gs36 : zFi A σ s36 := by rw [es36]; exact fi_X3_sum_o2 gs33 h0 h1 h2 h3 h4 h5 h6 h7
            refine zFi_let (fun v37 _ => ?_)
            refine zFi_let (fun s38 es38 => ?_)
            have gs38 : zFi A σ s38 := by rw [es38]; exact fi_X3_take gs36 h3 h4 h5 h6 h7
            exact gs38
          · skip
            exact g
        · skip
          refine zFi_let (fun v23 _ => ?_)
          refine zFi_let (fun v24 _ => ?_)
          refine zFi_if (fun _ => ?_) (fun _ => ?_)
          · skip
            refine zFi_let (fun v28 _ => ?_)
            refine zFi_let (fun s29 es29 => ?_)
            have gs29 : zFi A σ s29 := by rw [es29]; exact fi_X3_fail g h6 h7 h4
            exact gs29
          · skip
            refine zFi_let (fun v26 _ => ?_)
            refine zFi_let (fun s27 es27 => ?_)
            have gs27 : zFi A σ s27 := by rw [es27]; exact fi_X3_fail g h6 h7 h4
            exact gs27
set_option maxRecDepth 100000 in
theorem fi_X3_product_o1_7 {A : Nat → Nat → Prop} {σ : zS} {a0 : Nat} {p1 : Int32}  (h0 : A a0 2) (h1 : A a0 3) (h2 : A a0 5) (h3 : A a0 8) (h4 : A a0 9) (h5 : ∀ j, A ((σ.2.2 ((σ.2.2 a0 1).getD 0) 6).getD 0) j) (h6 : ∀ j, A ((σ.2.2 ((σ.2.2 a0 1).getD 0) 7).getD 0) j) (h7 : A (((σ.2.2 a0 1).getD 0)) 8) : ∀ (n : Nat) (x3 : Int32) (τ4 : zS), zFi A σ τ4 → zFi A σ (F_X3_product_o1_7 a0 p1 n x3 τ4) := by
  intro n
  induction n with
  | zero => intro x3 τ4 g; exact g
  | succ n ih =>
    intro x3 τ4 g
    rw [F_X3_product_o1_7]
    refine zFi_let (fun v5 _ => ?_)
    refine zFi_if (fun _ => ?_) (fun _ => ?_)
    · skip
      exact g
    · skip
      refine zFi_let (fun v7 _ => ?_)
      refine zFi_let (fun v8 _ => ?_)
      refine zFi_let (fun v9 _ => ?_)
      refine zFi_let (fun v10 _ => ?_)
      refine zFi_if (fun _ => ?_) (fun _ => ?_)
      · skip
        exact g
      · skip
        refine zFi_let (fun v12 _ => ?_)
        refine zFi_let (fun s13 es13 => ?_)
        have gs13 : zFi A σ s13 := by rw [es13]; exact fi_X3_take g h0 h1 h2 h3 h4
        refine zFi_let (fun s14 es14 => ?_)
        have gs14 : zFi A σ s14 := by rw [es14]; exact fi_X3_unit_o1 gs13 h5 h6 h7 h0 h1 h2 h3 h4
        refine zFi_let (fun v15 ev15 => ?_)
        rw [gs14.rf] at ev15
        subst ev15
        refine zFi_let (fun v16 _ => ?_)
        refine zFi_if (fun _ => ?_) (fun _ => ?_)
        · skip
          refine zFi_let (fun v22 _ => ?_)
          refine zFi_let (fun v23 _ => ?_)
          refine zFi_let (fun s24 es24 => ?_)
          have gs24 : zFi A σ s24 := by rw [es24]; exact fi_X9_addStep gs14 h5 h6 h7
          refine zFi_let (fun v25 _ => ?_)
          exact ih _ _ gs24
        · skip
          refine zFi_let (fun v18 _ => ?_)
          refine zFi_let (fun v19 _ => ?_)
          refine zFi_let (fun s20 es20 => ?_)
          have gs20 : zFi A σ s20 := by rw [es20]; exact fi_X9_addStep gs14 h5 h6 h7
          refine zFi_let (fun v21 _ => ?_)
          exact ih _ _ gs20
set_option maxRecDepth 100000 in
theorem fi_X3_product_o1 {A : Nat → Nat → Prop} {σ σ0 : zS} {a0 : Nat} {p1 : Int32}  (g : zFi A σ σ0) (h0 : ∀ j, A ((σ.2.2 ((σ.2.2 a0 1).getD 0) 6).getD 0) j) (h1 : ∀ j, A ((σ.2.2 ((σ.2.2 a0 1).getD 0) 7).getD 0) j) (h2 : A (((σ.2.2 a0 1).getD 0)) 8) (h3 : A a0 2) (h4 : A a0 3) (h5 : A a0 5) (h6 : A a0 8) (h7 : A a0 9) : zFi A σ (F_X3_product_o1 a0 p1 σ0) := by
  unfold F_X3_product_o1
  refine zFi_let (fun s1 es1 => ?_)
  have gs1 : zFi A σ s1 := by rw [es1]; exact fi_X3_unit_o1 g h0 h1 h2 h3 h4 h5 h6 h7
  refine zFi_let (fun v2 _ => ?_)
  exact fi_X3_product_o1_7  h3 h4 h5 h6 h7 h0 h1 h2 _ _ _ gs1
set_option maxRecDepth 100000 in
theorem fi_X3_sum_o1_7 {A : Nat → Nat → Prop} {σ : zS} {a0 : Nat} {p1 : Int32}  (h0 : A a0 2) (h1 : A a0 3) (h2 : A a0 5) (h3 : A a0 8) (h4 : A a0 9) (h5 : ∀ j, A ((σ.2.2 ((σ.2.2 a0 1).getD 0) 6).getD 0) j) (h6 : ∀ j, A ((σ.2.2 ((σ.2.2 a0 1).getD 0) 7).getD 0) j) (h7 : A (((σ.2.2 a0 1).getD 0)) 8) : ∀ (n : Nat) (x3 : Int32) (τ4 : zS), zFi A σ τ4 → zFi A σ (F_X3_sum_o1_7 a0 p1 n x3 τ4) := by
  intro n
  induction n with
  | zero => intro x3 τ4 g; exact g
  | succ n ih =>
    intro x3 τ4 g
    rw [F_X3_sum_o1_7]
    refine zFi_let (fun v5 _ => ?_)
    refine zFi_if (fun _ => ?_) (fun _ => ?_)
    · skip
      exact g
    · skip
      refine zFi_let (fun v7 _ => ?_)
      refine zFi_let (fun v8 _ => ?_)
      refine zFi_let (fun v9 _ => ?_)
      refine zFi_let (fun v10 _ => ?_)
      refine zFi_if (fun _ => ?_) (fun _ => ?_)
      · skip
        exact g
      · skip
        refine zFi_let (fun v12 _ => ?_)
        refine zFi_let (fun s13 es13 => ?_)
        have gs13 : zFi A σ s13 := by rw [es13]; exact fi_X3_take g h0 h1 h2 h3 h4
        refine zFi_let (fun s14 es14 => ?_)
        have gs14 : zFi A σ s14 := by rw [es14]; exact fi_X3_product_o1 gs13 h5 h6 h7 h0 h1 h2 h3 h4
        refine zFi_let (fun v15 ev15 => ?_)
        rw [gs14.rf] at ev15
        subst ev15
        refine zFi_let (fun v16 _ => ?_)
        refine zFi_if (fun _ => ?_) (fun _ => ?_)
        · skip
          refine zFi_let (fun v22 _ => ?_)
          refine zFi_let (fun v23 _ => ?_)
          refine zFi_let (fun s24 es24 => ?_)
          have gs24 : zFi A σ s24 := by rw [es24]; exact fi_X9_addStep gs14 h5 h6 h7
          refine zFi_let (fun v25 _ => ?_)
          exact ih _ _ gs24
        · skip
          refine zFi_let (fun v18 _ => ?_)
          refine zFi_let (fun v19 _ => ?_)
          refine zFi_let (fun s20 es20 => ?_)
          have gs20 : zFi A σ s20 := by rw [es20]; exact fi_X9_addStep gs14 h5 h6 h7
          refine zFi_let (fun v21 _ => ?_)
          exact ih _ _ gs20
set_option maxRecDepth 100000 in
theorem fi_X3_sum_o1 {A : Nat → Nat → Prop} {σ σ0 : zS} {a0 : Nat} {p1 : Int32}  (g : zFi A σ σ0) (h0 : ∀ j, A ((σ.2.2 ((σ.2.2 a0 1).getD 0) 6).getD 0) j) (h1 : ∀ j, A ((σ.2.2 ((σ.2.2 a0 1).getD 0) 7).getD 0) j) (h2 : A (((σ.2.2 a0 1).getD 0)) 8) (h3 : A a0 2) (h4 : A a0 3) (h5 : A a0 5) (h6 : A a0 8) (h7 : A a0 9) : zFi A σ (F_X3_sum_o1 a0 p1 σ0) := by
  unfold F_X3_sum_o1
  refine zFi_let (fun s1 es1 => ?_)
  have gs1 : zFi A σ s1 := by rw [es1]; exact fi_X3_product_o1 g h0 h1 h2 h3 h4 h5 h6 h7
  refine zFi_let (fun v2 _ => ?_)
  exact fi_X3_sum_o1_7  h3 h4 h5 h6 h7 h0 h1 h2 _ _ _ gs1
set_option maxRecDepth 100000 in
theorem fi_X3_unit_o0 {A : Nat → Nat → Prop} {σ σ0 : zS} {a0 : Nat} {p1 : Int32}  (g : zFi A σ σ0) (h0 : ∀ j, A ((σ.2.2 ((σ.2.2 a0 1).getD 0) 6).getD 0) j) (h1 : ∀ j, A ((σ.2.2 ((σ.2.2 a0 1).getD 0) 7).getD 0) j) (h2 : A (((σ.2.2 a0 1).getD 0)) 8) (h3 : A a0 2) (h4 : A a0 3) (h5 : A a0 5) (h6 : A a0 8) (h7 : A a0 9) : zFi A σ (F_X3_unit_o0 a0 p1 σ0) := by
  unfold F_X3_unit_o0
  refine zFi_let (fun v1 _ => ?_)
  refine zFi_let (fun v2 _ => ?_)
  refine zFi_if (fun _ => ?_) (fun _ => ?_)
  · skip
    refine zFi_let (fun v47 ev47 => ?_)
    rw [g.rf] at ev47
    subst ev47
    refine zFi_let (fun v48 _ => ?_)
    refine zFi_let (fun v49 _ => ?_)
    refine zFi_let (fun v50 _ => ?_)
    refine zFi_let (fun s51 es51 => ?_)
    have gs51 : zFi A σ s51 := by rw [es51]; exact fi_X9_addStep g h0 h1 h2
    refine zFi_let (fun v52 _ => ?_)
    refine zFi_let (fun s53 es53 => ?_)
    have gs53 : zFi A σ s53 := by rw [es53]; exact fi_X3_take gs51 h3 h4 h5 h6 h7
    exact gs53
  · skip
    refine zFi_let (fun v4 _ => ?_)
    refine zFi_let (fun v5 _ => ?_)
    refine zFi_if (fun _ => ?_) (fun _ => ?_)
    · skip
      refine zFi_let (fun v8 _ => ?_)
      refine zFi_let (fun v9 _ => ?_)
      refine zFi_if (fun _ => ?_) (fun _ => ?_)
      · skip
        exact g
      · skip
        refine zFi_let (fun v11 _ => ?_)
        refine zFi_let (fun v12 _ => ?_)
        refine zFi_if (fun _ => ?_) (fun _ => ?_)
        · skip
          exact g
        · skip
          refine zFi_let (fun v14 _ => ?_)
          refine zFi_let (fun s15 es15 => ?_)
          have gs15 : zFi A σ s15 := by rw [es15]; exact fi_X3_fail g h6 h7 h4
          exact gs15
    · skip
      refine zFi_let (fun v16 _ => ?_)
      refine zFi_let (fun v17 _ => ?_)
      refine zFi_if (fun _ => ?_) (fun _ => ?_)
      · skip
        refine zFi_let (fun v39 ev39 => ?_)
        rw [g.rf] at ev39
        subst ev39
        refine zFi_let (fun v40 _ => ?_)
        refine zFi_let (fun v41 _ => ?_)
        refine zFi_let (fun v42 _ => ?_)
        refine zFi_let (fun v43 _ => ?_)
        refine zFi_let (fun s44 es44 => ?_)
        have gs44 : zFi A σ s44 := by rw [es44]; exact fi_X9_addStep g h0 h1 h2
        refine zFi_let (fun v45 _ => ?_)
        refine zFi_let (fun s46 es46 => ?_)
        have gs46 : zFi A σ s46 := by rw [es46]; exact fi_X3_take gs44 h3 h4 h5 h6 h7
        exact gs46
      · skip
        refine zFi_let (fun v20 _ => ?_)
        refine zFi_let (fun v21 _ => ?_)
        refine zFi_if (fun _ => ?_) (fun _ => ?_)
        · skip
          refine zFi_let (fun v30 _ => ?_)
          refine zFi_if (fun _ => ?_) (fun _ => ?_)
          · skip
            refine zFi_let (fun v32 _ => ?_)
            refine zFi_let (fun s33 es33 => ?_)
            have gs33 : zFi A σ s33 := by rw [es33]; exact fi_X3_take g h3 h4 h5 h6 h7
            refine zFi_let (fun v34 _ => ?_)
            refine zFi_let (fun v35 _ => ?_)
            refine zFi_let (fun s36 es36 => ?_)
            have gs36 : zFi A σ s36 := by rw [es36]; exact fi_X3_sum_o1 gs33 h0 h1 h2 h3 h4 h5 h6 h7
            refine zFi_let (fun v37 _ => ?_)
            refine zFi_let (fun s38 es38 => ?_)
            have gs38 : zFi A σ s38 := by rw [es38]; exact fi_X3_take gs36 h3 h4 h5 h6 h7
            exact gs38
          · skip
            exact g
        · skip
          refine zFi_let (fun v23 _ => ?_)
          refine zFi_let (fun v24 _ => ?_)
          refine zFi_if (fun _ => ?_) (fun _ => ?_)
          · skip
            refine zFi_let (fun v28 _ => ?_)
            refine zFi_let (fun s29 es29 => ?_)
            have gs29 : zFi A σ s29 := by rw [es29]; exact fi_X3_fail g h6 h7 h4
            exact gs29
          · skip
            refine zFi_let (fun v26 _ => ?_)
            refine zFi_let (fun s27 es27 => ?_)
            have gs27 : zFi A σ s27 := by rw [es27]; exact fi_X3_fail g h6 h7 h4
            exact gs27
set_option maxRecDepth 100000 in
theorem fi_X3_product_o0_7 {A : Nat → Nat → Prop} {σ : zS} {a0 : Nat} {p1 : Int32}  (h0 : A a0 2) (h1 : A a0 3) (h2 : A a0 5) (h3 : A a0 8) (h4 : A a0 9) (h5 : ∀ j, A ((σ.2.2 ((σ.2.2 a0 1).getD 0) 6).getD 0) j) (h6 : ∀ j, A ((σ.2.2 ((σ.2.2 a0 1).getD 0) 7).getD 0) j) (h7 : A (((σ.2.2 a0 1).getD 0)) 8) : ∀ (n : Nat) (x3 : Int32) (τ4 : zS), zFi A σ τ4 → zFi A σ (F_X3_product_o0_7 a0 p1 n x3 τ4) := by
  intro n
  induction n with
  | zero => intro x3 τ4 g; exact g
  | succ n ih =>
    intro x3 τ4 g
    rw [F_X3_product_o0_7]
    refine zFi_let (fun v5 _ => ?_)
    refine zFi_if (fun _ => ?_) (fun _ => ?_)
    · skip
      exact g
    · skip
      refine zFi_let (fun v7 _ => ?_)
      refine zFi_let (fun v8 _ => ?_)
      refine zFi_let (fun v9 _ => ?_)
      refine zFi_let (fun v10 _ => ?_)
      refine zFi_if (fun _ => ?_) (fun _ => ?_)
      · skip
        exact g
      · skip
        refine zFi_let (fun v12 _ => ?_)
        refine zFi_let (fun s13 es13 => ?_)
        have gs13 : zFi A σ s13 := by rw [es13]; exact fi_X3_take g h0 h1 h2 h3 h4
        refine zFi_let (fun s14 es14 => ?_)
        have gs14 : zFi A σ s14 := by rw [es14]; exact fi_X3_unit_o0 gs13 h5 h6 h7 h0 h1 h2 h3 h4
        refine zFi_let (fun v15 ev15 => ?_)
        rw [gs14.rf] at ev15
        subst ev15
        refine zFi_let (fun v16 _ => ?_)
        refine zFi_if (fun _ => ?_) (fun _ => ?_)
        · skip
          refine zFi_let (fun v22 _ => ?_)
          refine zFi_let (fun v23 _ => ?_)
          refine zFi_let (fun s24 es24 => ?_)
          have gs24 : zFi A σ s24 := by rw [es24]; exact fi_X9_addStep gs14 h5 h6 h7
          refine zFi_let (fun v25 _ => ?_)
          exact ih _ _ gs24
        · skip
          refine zFi_let (fun v18 _ => ?_)
          refine zFi_let (fun v19 _ => ?_)
          refine zFi_let (fun s20 es20 => ?_)
          have gs20 : zFi A σ s20 := by rw [es20]; exact fi_X9_addStep gs14 h5 h6 h7
          refine zFi_let (fun v21 _ => ?_)
          exact ih _ _ gs20
set_option maxRecDepth 100000 in
theorem fi_X3_product_o0 {A : Nat → Nat → Prop} {σ σ0 : zS} {a0 : Nat} {p1 : Int32}  (g : zFi A σ σ0) (h0 : ∀ j, A ((σ.2.2 ((σ.2.2 a0 1).getD 0) 6).getD 0) j) (h1 : ∀ j, A ((σ.2.2 ((σ.2.2 a0 1).getD 0) 7).getD 0) j) (h2 : A (((σ.2.2 a0 1).getD 0)) 8) (h3 : A a0 2) (h4 : A a0 3) (h5 : A a0 5) (h6 : A a0 8) (h7 : A a0 9) : zFi A σ (F_X3_product_o0 a0 p1 σ0) := by
  unfold F_X3_product_o0
  refine zFi_let (fun s1 es1 => ?_)
  have gs1 : zFi A σ s1 := by rw [es1]; exact fi_X3_unit_o0 g h0 h1 h2 h3 h4 h5 h6 h7
  refine zFi_let (fun v2 _ => ?_)
  exact fi_X3_product_o0_7  h3 h4 h5 h6 h7 h0 h1 h2 _ _ _ gs1
set_option maxRecDepth 100000 in
theorem fi_X3_sum_o0_7 {A : Nat → Nat → Prop} {σ : zS} {a0 : Nat} {p1 : Int32}  (h0 : A a0 2) (h1 : A a0 3) (h2 : A a0 5) (h3 : A a0 8) (h4 : A a0 9) (h5 : ∀ j, A ((σ.2.2 ((σ.2.2 a0 1).getD 0) 6).getD 0) j) (h6 : ∀ j, A ((σ.2.2 ((σ.2.2 a0 1).getD 0) 7).getD 0) j) (h7 : A (((σ.2.2 a0 1).getD 0)) 8) : ∀ (n : Nat) (x3 : Int32) (τ4 : zS), zFi A σ τ4 → zFi A σ (F_X3_sum_o0_7 a0 p1 n x3 τ4) := by
  intro n
  induction n with
  | zero => intro x3 τ4 g; exact g
  | succ n ih =>
    intro x3 τ4 g
    rw [F_X3_sum_o0_7]
    refine zFi_let (fun v5 _ => ?_)
    refine zFi_if (fun _ => ?_) (fun _ => ?_)
    · skip
      exact g
    · skip
      refine zFi_let (fun v7 _ => ?_)
      refine zFi_let (fun v8 _ => ?_)
      refine zFi_let (fun v9 _ => ?_)
      refine zFi_let (fun v10 _ => ?_)
      refine zFi_if (fun _ => ?_) (fun _ => ?_)
      · skip
        exact g
      · skip
        refine zFi_let (fun v12 _ => ?_)
        refine zFi_let (fun s13 es13 => ?_)
        have gs13 : zFi A σ s13 := by rw [es13]; exact fi_X3_take g h0 h1 h2 h3 h4
        refine zFi_let (fun s14 es14 => ?_)
        have gs14 : zFi A σ s14 := by rw [es14]; exact fi_X3_product_o0 gs13 h5 h6 h7 h0 h1 h2 h3 h4
        refine zFi_let (fun v15 ev15 => ?_)
        rw [gs14.rf] at ev15
        subst ev15
        refine zFi_let (fun v16 _ => ?_)
        refine zFi_if (fun _ => ?_) (fun _ => ?_)
        · skip
          refine zFi_let (fun v22 _ => ?_)
          refine zFi_let (fun v23 _ => ?_)
          refine zFi_let (fun s24 es24 => ?_)
          have gs24 : zFi A σ s24 := by rw [es24]; exact fi_X9_addStep gs14 h5 h6 h7
          refine zFi_let (fun v25 _ => ?_)
          exact ih _ _ gs24
        · skip
          refine zFi_let (fun v18 _ => ?_)
          refine zFi_let (fun v19 _ => ?_)
          refine zFi_let (fun s20 es20 => ?_)
          have gs20 : zFi A σ s20 := by rw [es20]; exact fi_X9_addStep gs14 h5 h6 h7
          refine zFi_let (fun v21 _ => ?_)
          exact ih _ _ gs20
set_option maxRecDepth 100000 in
theorem fi_X3_sum_o0 {A : Nat → Nat → Prop} {σ σ0 : zS} {a0 : Nat} {p1 : Int32}  (g : zFi A σ σ0) (h0 : ∀ j, A ((σ.2.2 ((σ.2.2 a0 1).getD 0) 6).getD 0) j) (h1 : ∀ j, A ((σ.2.2 ((σ.2.2 a0 1).getD 0) 7).getD 0) j) (h2 : A (((σ.2.2 a0 1).getD 0)) 8) (h3 : A a0 2) (h4 : A a0 3) (h5 : A a0 5) (h6 : A a0 8) (h7 : A a0 9) : zFi A σ (F_X3_sum_o0 a0 p1 σ0) := by
  unfold F_X3_sum_o0
  refine zFi_let (fun s1 es1 => ?_)
  have gs1 : zFi A σ s1 := by rw [es1]; exact fi_X3_product_o0 g h0 h1 h2 h3 h4 h5 h6 h7
  refine zFi_let (fun v2 _ => ?_)
  exact fi_X3_sum_o0_7  h3 h4 h5 h6 h7 h0 h1 h2 _ _ _ gs1
set_option maxRecDepth 100000 in
theorem fi_X9_setValue {A : Nat → Nat → Prop} {σ σ0 : zS} {a0 : Nat} {p1 : Int32} {p2 : Int32}  (g : zFi A σ σ0) (h0 : ∀ j, A ((σ.2.2 a0 7).getD 0) j) : zFi A σ (F_X9_setValue a0 p1 p2 σ0) := by
  unfold F_X9_setValue
  refine zFi_if (fun _ => ?_) (fun _ => ?_)
  · skip
    exact g
  · skip
    refine zFi_let (fun v2 _ => ?_)
    refine zFi_if (fun _ => ?_) (fun _ => ?_)
    · skip
      refine zFi_let (fun v5 ev5 => ?_)
      rw [g.rf] at ev5
      subst ev5
      refine zFi_let (fun s6 es6 => ?_)
      have gs6 : zFi A σ s6 := by rw [es6]; exact g.w (h0 _)
      exact gs6
    · skip
      exact g
set_option maxRecDepth 100000 in
theorem fi_X3_law_23 {A : Nat → Nat → Prop} {σ : zS} {v7 : Int32} {a0 : Nat} {p1 : Int32}  (h0 : ∀ j, A ((σ.2.2 ((σ.2.2 a0 1).getD 0) 6).getD 0) j) (h1 : ∀ j, A ((σ.2.2 ((σ.2.2 a0 1).getD 0) 7).getD 0) j) (h2 : A (((σ.2.2 a0 1).getD 0)) 8) (h3 : A a0 2) (h4 : A a0 3) (h5 : A a0 5) (h6 : A a0 8) (h7 : A a0 9) (h8 : ∀ j, A ((σ.2.2 ((σ.2.2 a0 1).getD 0) 9).getD 0) j) : ∀ (n : Nat) (x9 : Int32) (τ10 : zS), zFi A σ τ10 → zFi A σ (F_X3_law_23 v7 a0 p1 n x9 τ10) := by
  intro n
  induction n with
  | zero => intro x9 τ10 g; exact g
  | succ n ih =>
    intro x9 τ10 g
    rw [F_X3_law_23]
    refine zFi_let (fun v11 _ => ?_)
    refine zFi_if (fun _ => ?_) (fun _ => ?_)
    · skip
      refine zFi_let (fun v13 _ => ?_)
      refine zFi_let (fun s14 es14 => ?_)
      have gs14 : zFi A σ s14 := by rw [es14]; exact fi_X3_sum_o0 g h0 h1 h2 h3 h4 h5 h6 h7
      refine zFi_let (fun v15 ev15 => ?_)
      rw [gs14.rf] at ev15
      subst ev15
      refine zFi_let (fun v16 _ => ?_)
      refine zFi_let (fun v17 _ => ?_)
      refine zFi_let (fun s18 es18 => ?_)
      have gs18 : zFi A σ s18 := by rw [es18]; exact fi_X9_addStep gs14 h0 h1 h2
      refine zFi_let (fun v19 ev19 => ?_)
      rw [gs18.rf] at ev19
      subst ev19
      refine zFi_let (fun v20 ev20 => ?_)
      rw [gs18.rf] at ev20
      subst ev20
      refine zFi_let (fun s21 es21 => ?_)
      have gs21 : zFi A σ s21 := by rw [es21]; exact gs18.w (h8 _)
      exact gs21
    · skip
      refine zFi_let (fun v22 _ => ?_)
      refine zFi_let (fun v23 _ => ?_)
      refine zFi_if (fun _ => ?_) (fun _ => ?_)
      · skip
        refine zFi_let (fun v34 _ => ?_)
        refine zFi_if (fun _ => ?_) (fun _ => ?_)
        · skip
          refine zFi_let (fun v65 _ => ?_)
          refine zFi_let (fun s66 es66 => ?_)
          have gs66 : zFi A σ s66 := by rw [es66]; exact fi_X3_fail g h6 h7 h4
          refine zFi_let (fun v67 _ => ?_)
          refine zFi_let (fun s68 es68 => ?_)
          have gs68 : zFi A σ s68 := by rw [es68]; exact fi_X3_take gs66 h3 h4 h5 h6 h7
          refine zFi_let (fun v69 _ => ?_)
          refine zFi_let (fun s70 es70 => ?_)
          have gs70 : zFi A σ s70 := by rw [es70]; exact fi_X3_sum_o0 gs68 h0 h1 h2 h3 h4 h5 h6 h7
          refine zFi_let (fun v71 _ => ?_)
          refine zFi_let (fun s72 es72 => ?_)
          have gs72 : zFi A σ s72 := by rw [es72]; exact fi_X3_take gs70 h3 h4 h5 h6 h7
          refine zFi_let (fun v73 _ => ?_)
          refine zFi_let (fun s74 es74 => ?_)
          have gs74 : zFi A σ s74 := by rw [es74]; exact fi_X3_sum_o0 gs72 h0 h1 h2 h3 h4 h5 h6 h7
          refine zFi_let (fun v75 _ => ?_)
          refine zFi_let (fun s76 es76 => ?_)
          have gs76 : zFi A σ s76 := by rw [es76]; exact fi_X3_take gs74 h3 h4 h5 h6 h7
          refine zFi_let (fun v77 ev77 => ?_)
          rw [gs76.rf] at ev77
          subst ev77
          refine zFi_let (fun v78 _ => ?_)
          refine zFi_let (fun v79 ev79 => ?_)
          rw [gs76.rf] at ev79
          subst ev79
          refine zFi_let (fun v80 _ => ?_)
          refine zFi_let (fun v81 _ => ?_)
          refine zFi_let (fun s82 es82 => ?_)
          have gs82 : zFi A σ s82 := by rw [es82]; exact fi_X9_addStep gs76 h0 h1 h2
          refine zFi_let (fun v83 _ => ?_)
          refine zFi_let (fun s84 es84 => ?_)
          have gs84 : zFi A σ s84 := by rw [es84]; exact fi_X3_sum_o0 gs82 h0 h1 h2 h3 h4 h5 h6 h7
          refine zFi_let (fun v85 _ => ?_)
          refine zFi_let (fun s86 es86 => ?_)
          have gs86 : zFi A σ s86 := by rw [es86]; exact fi_X3_take gs84 h3 h4 h5 h6 h7
          refine zFi_let (fun v87 ev87 => ?_)
          rw [gs86.rf] at ev87
          subst ev87
          refine zFi_let (fun v88 _ => ?_)
          refine zFi_let (fun v89 _ => ?_)
          refine zFi_let (fun s90 es90 => ?_)
          have gs90 : zFi A σ s90 := by rw [es90]; exact fi_X9_addStep gs86 h0 h1 h2
          refine zFi_let (fun v91 ev91 => ?_)
          rw [gs90.rf] at ev91
          subst ev91
          refine zFi_let (fun v92 ev92 => ?_)
          rw [gs90.rf] at ev92
          subst ev92
          refine zFi_let (fun v93 _ => ?_)
          refine zFi_let (fun s94 es94 => ?_)
          have gs94 : zFi A σ s94 := by rw [es94]; exact fi_X9_setValue gs90 h1
          refine zFi_let (fun v95 _ => ?_)
          exact ih _ _ gs94
        · skip
          refine zFi_let (fun v36 _ => ?_)
          refine zFi_let (fun s37 es37 => ?_)
          have gs37 : zFi A σ s37 := by rw [es37]; exact fi_X3_take g h3 h4 h5 h6 h7
          refine zFi_let (fun v38 _ => ?_)
          refine zFi_let (fun s39 es39 => ?_)
          have gs39 : zFi A σ s39 := by rw [es39]; exact fi_X3_sum_o0 gs37 h0 h1 h2 h3 h4 h5 h6 h7
          refine zFi_let (fun v40 _ => ?_)
          refine zFi_let (fun s41 es41 => ?_)
          have gs41 : zFi A σ s41 := by rw [es41]; exact fi_X3_take gs39 h3 h4 h5 h6 h7
          refine zFi_let (fun v42 _ => ?_)
          refine zFi_let (fun s43 es43 => ?_)
          have gs43 : zFi A σ s43 := by rw [es43]; exact fi_X3_sum_o0 gs41 h0 h1 h2 h3 h4 h5 h6 h7
          refine zFi_let (fun v44 _ => ?_)
          refine zFi_let (fun s45 es45 => ?_)
          have gs45 : zFi A σ s45 := by rw [es45]; exact fi_X3_take gs43 h3 h4 h5 h6 h7
          refine zFi_let (fun v46 ev46 => ?_)
          rw [gs45.rf] at ev46
          subst ev46
          refine zFi_let (fun v47 _ => ?_)
          refine zFi_let (fun v48 ev48 => ?_)
          rw [gs45.rf] at ev48
          subst ev48
          refine zFi_let (fun v49 _ => ?_)
          refine zFi_let (fun v50 _ => ?_)
          refine zFi_let (fun s51 es51 => ?_)
          have gs51 : zFi A σ s51 := by rw [es51]; exact fi_X9_addStep gs45 h0 h1 h2
          refine zFi_let (fun v52 _ => ?_)
          refine zFi_let (fun s53 es53 => ?_)
          have gs53 : zFi A σ s53 := by rw [es53]; exact fi_X3_sum_o0 gs51 h0 h1 h2 h3 h4 h5 h6 h7
          refine zFi_let (fun v54 _ => ?_)
          refine zFi_let (fun s55 es55 => ?_)
          have gs55 : zFi A σ s55 := by rw [es55]; exact fi_X3_take gs53 h3 h4 h5 h6 h7
          refine zFi_let (fun v56 ev56 => ?_)
          rw [gs55.rf] at ev56
          subst ev56
          refine zFi_let (fun v57 _ => ?_)
          refine zFi_let (fun v58 _ => ?_)
          refine zFi_let (fun s59 es59 => ?_)
          have gs59 : zFi A σ s59 := by rw [es59]; exact fi_X9_addStep gs55 h0 h1 h2
          refine zFi_let (fun v60 ev60 => ?_)
          rw [gs59.rf] at ev60
          subst ev60
          refine zFi_let (fun v61 ev61 => ?_)
          rw [gs59.rf] at ev61
          subst ev61
          refine zFi_let (fun v62 _ => ?_)
          refine zFi_let (fun s63 es63 => ?_)
          have gs63 : zFi A σ s63 := by rw [es63]; exact fi_X9_setValue gs59 h1
          refine zFi_let (fun v64 _ => ?_)
          exact ih _ _ gs63
      · skip
        refine zFi_let (fun v25 _ => ?_)
        refine zFi_let (fun s26 es26 => ?_)
        have gs26 : zFi A σ s26 := by rw [es26]; exact fi_X3_sum_o0 g h0 h1 h2 h3 h4 h5 h6 h7
        refine zFi_let (fun v27 ev27 => ?_)
        rw [gs26.rf] at ev27
        subst ev27
        refine zFi_let (fun v28 _ => ?_)
        refine zFi_let (fun v29 _ => ?_)
        refine zFi_let (fun s30 es30 => ?_)
        have gs30 : zFi A σ s30 := by rw [es30]; exact fi_X9_addStep gs26 h0 h1 h2
        refine zFi_let (fun v31 ev31 => ?_)
        rw [gs30.rf] at ev31
        subst ev31
        refine zFi_let (fun v32 ev32 => ?_)
        rw [gs30.rf] at ev32
        subst ev32
        refine zFi_let (fun s33 es33 => ?_)
        have gs33 : zFi A σ s33 := by rw [es33]; exact gs30.w (h8 _)
        exact gs33
set_option maxRecDepth 100000 in
theorem fi_X3_law {A : Nat → Nat → Prop} {σ σ0 : zS} {a0 : Nat} {p1 : Int32}  (g : zFi A σ σ0) (h0 : A a0 2) (h1 : A a0 3) (h2 : A a0 5) (h3 : A a0 8) (h4 : A a0 9) (h5 : ∀ j, A ((σ.2.2 ((σ.2.2 a0 1).getD 0) 6).getD 0) j) (h6 : ∀ j, A ((σ.2.2 ((σ.2.2 a0 1).getD 0) 7).getD 0) j) (h7 : A (((σ.2.2 a0 1).getD 0)) 8) (h8 : ∀ j, A ((σ.2.2 ((σ.2.2 a0 1).getD 0) 9).getD 0) j) : zFi A σ (F_X3_law a0 p1 σ0) := by
  unfold F_X3_law
  refine zFi_let (fun v1 _ => ?_)
  refine zFi_let (fun v2 _ => ?_)
  refine zFi_let (fun s3 es3 => ?_)
  have gs3 : zFi A σ s3 := by rw [es3]; exact fi_X3_take g h0 h1 h2 h3 h4
  refine zFi_let (fun v4 _ => ?_)
  refine zFi_let (fun s5 es5 => ?_)
  have gs5 : zFi A σ s5 := by rw [es5]; exact fi_X3_take gs3 h0 h1 h2 h3 h4
  refine zFi_let (fun v6 ev6 => ?_)
  rw [gs5.rf] at ev6
  subst ev6
  refine zFi_let (fun v7 _ => ?_)
  refine zFi_let (fun v8 _ => ?_)
  exact fi_X3_law_23  h5 h6 h7 h0 h1 h2 h3 h4 h8 _ _ _ gs5
end
-- 35x28.fi2
section
set_option maxRecDepth 100000 in
theorem fi_X11_fail {A : Nat → Nat → Prop} {σ σ0 : zS} {a0 : Nat} {p1 : Int32}  (g : zFi A σ σ0) (h0 : A a0 13) (h1 : A a0 14) : zFi A σ (F_X11_fail a0 p1 σ0) := by
  unfold F_X11_fail
  refine zFi_let (fun v1 _ => ?_)
  refine zFi_if (fun _ => ?_) (fun _ => ?_)
  · skip
    exact g
  · skip
    refine zFi_let (fun s4 es4 => ?_)
    have gs4 : zFi A σ s4 := by rw [es4]; exact g.w h0
    refine zFi_let (fun v7 ev7 => ?_)
    rw [gs4.rf] at ev7
    subst ev7
    refine zFi_let (fun v8 _ => ?_)
    refine zFi_let (fun v9 _ => ?_)
    refine zFi_let (fun s10 es10 => ?_)
    have gs10 : zFi A σ s10 := by rw [es10]; exact gs4.w h1
    exact gs10
set_option maxRecDepth 100000 in
theorem fi_X11_goesOn {A : Nat → Nat → Prop} {σ σ0 : zS} {a0 : Nat}  (g : zFi A σ σ0) (h0 : A a0 13) (h1 : A a0 14) (h2 : A a0 11) : zFi A σ (F_X11_goesOn a0 σ0) := by
  unfold F_X11_goesOn
  refine zFi_let (fun v1 _ => ?_)
  refine zFi_let (fun v2 _ => ?_)
  refine zFi_if (fun _ => ?_) (fun _ => ?_)
  · skip
    refine zFi_let (fun v10 _ => ?_)
    refine zFi_let (fun t11 et11 => ?_)
    have gt11 : zFi A σ t11 := by rw [et11]; exact fi_X11_fail g h0 h1
    exact gt11
  · skip
    refine zFi_let (fun v4 _ => ?_)
    refine zFi_let (fun v5 _ => ?_)
    refine zFi_let (fun v6 _ => ?_)
    refine zFi_let (fun s7 es7 => ?_)
    have gs7 : zFi A σ s7 := by rw [es7]; exact g.w h2
    exact gs7
set_option maxRecDepth 100000 in
theorem fi_X11_must {A : Nat → Nat → Prop} {σ σ0 : zS} {a0 : Nat} {p1 : Int32}  (g : zFi A σ σ0) (h0 : A a0 13) (h1 : A a0 14) (h2 : A a0 11) : zFi A σ (F_X11_must a0 p1 σ0) := by
  unfold F_X11_must
  refine zFi_let (fun v2 _ => ?_)
  refine zFi_if (fun _ => ?_) (fun _ => ?_)
  · skip
    refine zFi_let (fun v4 _ => ?_)
    refine zFi_let (fun t5 et5 => ?_)
    have gt5 : zFi A σ t5 := by rw [et5]; exact fi_X11_fail g h0 h1
    exact gt5
  · skip
    refine zFi_let (fun t7 et7 => ?_)
    have gt7 : zFi A σ t7 := by rw [et7]; exact fi_X11_goesOn g h0 h1 h2
    exact gt7
set_option maxRecDepth 100000 in
theorem fi_X11_wrong {A : Nat → Nat → Prop} {σ σ0 : zS} {a0 : Nat} {p1 : Int32} {p2 : Int32}  (g : zFi A σ σ0) (h0 : A a0 15) (h1 : A a0 16) : zFi A σ (F_X11_wrong a0 p1 p2 σ0) := by
  unfold F_X11_wrong
  refine zFi_let (fun v1 ev1 => ?_)
  rw [g.rf] at ev1
  subst ev1
  refine zFi_let (fun v2 _ => ?_)
  refine zFi_let (fun v3 _ => ?_)
  refine zFi_if (fun _ => ?_) (fun _ => ?_)
  · skip
    exact g
  · skip
    refine zFi_let (fun v5 _ => ?_)
    refine zFi_if (fun _ => ?_) (fun _ => ?_)
    · skip
      refine zFi_let (fun s7 es7 => ?_)
      have gs7 : zFi A σ s7 := by rw [es7]; exact g.w h0
      refine zFi_let (fun s11 es11 => ?_)
      have gs11 : zFi A σ s11 := by rw [es11]; exact gs7.w h1
      exact gs11
    · skip
      refine zFi_let (fun v16 _ => ?_)
      refine zFi_if (fun _ => ?_) (fun _ => ?_)
      · skip
        exact g
      · skip
        refine zFi_let (fun v20 _ => ?_)
        refine zFi_if (fun _ => ?_) (fun _ => ?_)
        · skip
          refine zFi_let (fun v32 _ => ?_)
          refine zFi_if (fun _ => ?_) (fun _ => ?_)
          · skip
            refine zFi_let (fun s36 es36 => ?_)
            have gs36 : zFi A σ s36 := by rw [es36]; exact g.w h0
            refine zFi_let (fun s41 es41 => ?_)
            have gs41 : zFi A σ s41 := by rw [es41]; exact gs36.w h1
            exact gs41
          · skip
            exact g
        · skip
          refine zFi_let (fun s22 es22 => ?_)
          have gs22 : zFi A σ s22 := by rw [es22]; exact g.w h0
          refine zFi_let (fun s27 es27 => ?_)
          have gs27 : zFi A σ s27 := by rw [es27]; exact gs22.w h1
          exact gs27
set_option maxRecDepth 100000 in
theorem fi_X11_named {A : Nat → Nat → Prop} {σ σ0 : zS} {a0 : Nat}  (g : zFi A σ σ0) (h0 : A a0 13) (h1 : A a0 14) (h2 : A a0 11) (h3 : A a0 15) (h4 : A a0 16) : zFj A σ (F_X11_named a0 σ0) := by
  unfold F_X11_named
  refine zFj_let (fun v1 _ => ?_)
  refine zFj_let (fun v2 _ => ?_)
  refine zFj_let (fun t3 et3 => ?_)
  have gt3 : zFi A σ t3 := by rw [et3]; exact fi_X11_must g h0 h1 h2
  refine zFj_let (fun v5 _ => ?_)
  refine zFj_if (fun _ => ?_) (fun _ => ?_)
  · skip
    refine zFj_let (fun v8 _ => ?_)
    refine zFj_if (fun _ => ?_) (fun _ => ?_)
    · skip
      exact gt3
    · skip
      refine zFj_let (fun v10 _ => ?_)
      refine zFj_let (fun t11 et11 => ?_)
      have gt11 : zFi A σ t11 := by rw [et11]; exact fi_X11_wrong gt3 h3 h4
      exact gt11
  · skip
    exact gt3
set_option maxRecDepth 100000 in
theorem fi_X11_bounded {A : Nat → Nat → Prop} {σ σ0 : zS} {a0 : Nat} {p1 : Int32} {p2 : Int32}  (g : zFi A σ σ0) (h0 : A a0 13) (h1 : A a0 14) (h2 : A a0 15) (h3 : A a0 16) (h4 : A a0 11) : zFj A σ (F_X11_bounded a0 p1 p2 σ0) := by
  unfold F_X11_bounded
  refine zFj_let (fun v1 _ => ?_)
  refine zFj_if (fun _ => ?_) (fun _ => ?_)
  · skip
    refine zFj_let (fun v3 _ => ?_)
    refine zFj_let (fun t4 et4 => ?_)
    have gt4 : zFi A σ t4 := by rw [et4]; exact fi_X11_fail g h0 h1
    exact gt4
  · skip
    refine zFj_let (fun v6 _ => ?_)
    refine zFj_let (fun v8 _ => ?_)
    refine zFj_if (fun _ => ?_) (fun _ => ?_)
    · skip
      refine zFj_let (fun v37 _ => ?_)
      refine zFj_let (fun t38 et38 => ?_)
      have gt38 : zFi A σ t38 := by rw [et38]; exact fi_X11_fail g h0 h1
      exact gt38
    · skip
      refine zFj_let (fun v10 ev10 => ?_)
      rw [g.rf] at ev10
      subst ev10
      refine zFj_let (fun v11 _ => ?_)
      refine zFj_let (fun v12 _ => ?_)
      refine zFj_if (fun _ => ?_) (fun _ => ?_)
      · skip
        refine zFj_let (fun v16 _ => ?_)
        refine zFj_let (fun v17 _ => ?_)
        refine zFj_let (fun t18 et18 => ?_)
        have gt18 : zFi A σ t18 := by rw [et18]; exact fi_X11_wrong g h2 h3
        refine zFj_let (fun t22 et22 => ?_)
        have gt22 : zFi A σ t22 := by rw [et22]; exact fi_X11_goesOn gt18 h0 h1 h4
        exact gt22
      · skip
        refine zFj_if (fun _ => ?_) (fun _ => ?_)
        · skip
          refine zFj_let (fun v29 _ => ?_)
          refine zFj_let (fun v30 _ => ?_)
          refine zFj_let (fun t31 et31 => ?_)
          have gt31 : zFi A σ t31 := by rw [et31]; exact fi_X11_wrong g h2 h3
          refine zFj_let (fun t35 et35 => ?_)
          have gt35 : zFi A σ t35 := by rw [et35]; exact fi_X11_goesOn gt31 h0 h1 h4
          exact gt35
        · skip
          refine zFj_let (fun t27 et27 => ?_)
          have gt27 : zFi A σ t27 := by rw [et27]; exact fi_X11_goesOn g h0 h1 h4
          exact gt27
set_option maxRecDepth 100000 in
theorem fi_X11_emit {A : Nat → Nat → Prop} {σ σ0 : zS} {a0 : Nat} {p1 : Int32} {p2 : Int32}  (g : zFi A σ σ0) (h0 : ∀ j, A ((σ.2.2 a0 39).getD 0) j) (h1 : ∀ j, A ((σ.2.2 a0 40).getD 0) j) (h2 : A a0 38) : zFi A σ (F_X11_emit a0 p1 p2 σ0) := by
  unfold F_X11_emit
  refine zFi_let (fun v1 ev1 => ?_)
  rw [g.rf] at ev1
  subst ev1
  refine zFi_let (fun v2 _ => ?_)
  refine zFi_let (fun s3 es3 => ?_)
  have gs3 : zFi A σ s3 := by rw [es3]; exact g.w (h0 _)
  refine zFi_let (fun v6 ev6 => ?_)
  rw [gs3.rf] at ev6
  subst ev6
  refine zFi_let (fun v7 _ => ?_)
  refine zFi_let (fun s8 es8 => ?_)
  have gs8 : zFi A σ s8 := by rw [es8]; exact gs3.w (h1 _)
  refine zFi_let (fun v11 _ => ?_)
  refine zFi_let (fun v12 _ => ?_)
  refine zFi_let (fun v13 _ => ?_)
  refine zFi_let (fun s14 es14 => ?_)
  have gs14 : zFi A σ s14 := by rw [es14]; exact gs8.w h2
  exact gs14
set_option maxRecDepth 100000 in
theorem fi_X11_unit {A : Nat → Nat → Prop} {σ σ0 : zS} {a0 : Nat}  (g : zFi A σ σ0) (h0 : A a0 13) (h1 : A a0 14) (h2 : ∀ j, A ((σ.2.2 a0 39).getD 0) j) (h3 : ∀ j, A ((σ.2.2 a0 40).getD 0) j) (h4 : A a0 38) (h5 : A a0 11) : zFi A σ (F_X11_unit a0 σ0) := by
  unfold F_X11_unit
  refine zFi_let (fun v1 _ => ?_)
  refine zFi_let (fun v3 _ => ?_)
  refine zFi_if (fun _ => ?_) (fun _ => ?_)
  · skip
    refine zFi_let (fun v5 _ => ?_)
    refine zFi_if (fun _ => ?_) (fun _ => ?_)
    · skip
      refine zFi_let (fun v10 ev10 => ?_)
      rw [g.rf] at ev10
      subst ev10
      refine zFi_let (fun v11 _ => ?_)
      refine zFi_let (fun v12 _ => ?_)
      refine zFi_let (fun v13 _ => ?_)
      refine zFi_if (fun _ => ?_) (fun _ => ?_)
      · skip
        refine zFi_let (fun v16 _ => ?_)
        refine zFi_let (fun t17 et17 => ?_)
        have gt17 : zFi A σ t17 := by rw [et17]; exact fi_X11_fail g h0 h1
        exact gt17
      · skip
        refine zFi_let (fun v20 ev20 => ?_)
        rw [g.rf] at ev20
        subst ev20
        refine zFi_let (fun v21 _ => ?_)
        refine zFi_let (fun v22 _ => ?_)
        refine zFi_let (fun v23 _ => ?_)
        refine zFi_if (fun _ => ?_) (fun _ => ?_)
        · skip
          refine zFi_let (fun v26 _ => ?_)
          refine zFi_let (fun t27 et27 => ?_)
          have gt27 : zFi A σ t27 := by rw [et27]; exact fi_X11_fail g h0 h1
          exact gt27
        · skip
          refine zFi_let (fun v30 _ => ?_)
          refine zFi_let (fun v31 ev31 => ?_)
          rw [g.rf] at ev31
          subst ev31
          refine zFi_let (fun v32 _ => ?_)
          refine zFi_let (fun v33 _ => ?_)
          refine zFi_let (fun v34 _ => ?_)
          refine zFi_let (fun v35 _ => ?_)
          refine zFi_let (fun t36 et36 => ?_)
          have gt36 : zFi A σ t36 := by rw [et36]; exact fi_X11_emit g h2 h3 h4
          refine zFi_let (fun t40 et40 => ?_)
          have gt40 : zFi A σ t40 := by rw [et40]; exact fi_X11_goesOn gt36 h0 h1 h5
          exact gt40
    · skip
      refine zFi_let (fun v7 _ => ?_)
      refine zFi_let (fun t8 et8 => ?_)
      have gt8 : zFi A σ t8 := by rw [et8]; exact fi_X11_fail g h0 h1
      exact gt8
  · skip
    refine zFi_let (fun v42 _ => ?_)
    refine zFi_let (fun v43 ev43 => ?_)
    rw [g.rf] at ev43
    subst ev43
    refine zFi_let (fun v44 _ => ?_)
    refine zFi_let (fun v45 _ => ?_)
    refine zFi_let (fun t46 et46 => ?_)
    have gt46 : zFi A σ t46 := by rw [et46]; exact fi_X11_emit g h2 h3 h4
    refine zFi_let (fun t49 et49 => ?_)
    have gt49 : zFi A σ t49 := by rw [et49]; exact fi_X11_goesOn gt46 h0 h1 h5
    exact gt49
set_option maxRecDepth 100000 in
theorem fi_X11_comesOut_0 {A : Nat → Nat → Prop} {σ : zS} {a0 : Nat} {p1 : Int32}  (h0 : A a0 44) (h1 : ∀ j, A ((σ.2.2 a0 39).getD 0) j) (h2 : ∀ j, A ((σ.2.2 a0 40).getD 0) j) (h3 : A a0 38) : ∀ (n : Nat) (τ1 : zS), zFi A σ τ1 → zFi A σ (F_X11_comesOut_0 a0 p1 n  τ1) := by
  intro n
  induction n with
  | zero => intro  τ1 g; exact g
  | succ n ih =>
    intro  τ1 g
    rw [F_X11_comesOut_0]
    refine zFi_let (fun v2 _ => ?_)
    refine zFi_if (fun _ => ?_) (fun _ => ?_)
    · skip
      refine zFi_let (fun v4 ev4 => ?_)
      rw [g.rf] at ev4
      subst ev4
      refine zFi_let (fun v5 _ => ?_)
      refine zFi_let (fun v6 _ => ?_)
      refine zFi_let (fun v7 _ => ?_)
      refine zFi_let (fun v8 _ => ?_)
      refine zFi_let (fun v9 _ => ?_)
      refine zFi_if (fun _ => ?_) (fun _ => ?_)
      · skip
        exact g
      · skip
        refine zFi_if (fun _ => ?_) (fun _ => ?_)
        · skip
          refine zFi_let (fun v12 _ => ?_)
          refine zFi_let (fun v13 _ => ?_)
          refine zFi_let (fun v14 _ => ?_)
          refine zFi_let (fun s15 es15 => ?_)
          have gs15 : zFi A σ s15 := by rw [es15]; exact g.w h0
          refine zFi_let (fun v18 _ => ?_)
          refine zFi_if (fun _ => ?_) (fun _ => ?_)
          · skip
            refine zFi_let (fun v39 _ => ?_)
            refine zFi_let (fun v40 _ => ?_)
            refine zFi_let (fun t41 et41 => ?_)
            have gt41 : zFi A σ t41 := by rw [et41]; exact fi_X11_emit gs15 h1 h2 h3
            exact ih _ gt41
          · skip
            refine zFi_let (fun v20 _ => ?_)
            refine zFi_if (fun _ => ?_) (fun _ => ?_)
            · skip
              refine zFi_let (fun v34 _ => ?_)
              refine zFi_let (fun v35 _ => ?_)
              refine zFi_let (fun t36 et36 => ?_)
              have gt36 : zFi A σ t36 := by rw [et36]; exact fi_X11_emit gs15 h1 h2 h3
              exact ih _ gt36
            · skip
              refine zFi_let (fun v22 _ => ?_)
              refine zFi_if (fun _ => ?_) (fun _ => ?_)
              · skip
                refine zFi_let (fun v29 _ => ?_)
                refine zFi_let (fun v30 _ => ?_)
                refine zFi_let (fun t31 et31 => ?_)
                have gt31 : zFi A σ t31 := by rw [et31]; exact fi_X11_emit gs15 h1 h2 h3
                exact ih _ gt31
              · skip
                refine zFi_let (fun v24 _ => ?_)
                refine zFi_let (fun v25 _ => ?_)
                refine zFi_let (fun t26 et26 => ?_)
                have gt26 : zFi A σ t26 := by rw [et26]; exact fi_X11_emit gs15 h1 h2 h3
                exact ih _ gt26
        · skip
          refine zFi_let (fun v44 _ => ?_)
          refine zFi_if (fun _ => ?_) (fun _ => ?_)
          · skip
            exact g
          · skip
            refine zFi_let (fun v46 _ => ?_)
            refine zFi_if (fun _ => ?_) (fun _ => ?_)
            · skip
              exact g
            · skip
              refine zFi_let (fun v48 _ => ?_)
              refine zFi_let (fun v49 _ => ?_)
              refine zFi_let (fun v50 _ => ?_)
              refine zFi_let (fun s51 es51 => ?_)
              have gs51 : zFi A σ s51 := by rw [es51]; exact g.w h0
              refine zFi_let (fun v54 _ => ?_)
              refine zFi_if (fun _ => ?_) (fun _ => ?_)
              · skip
                refine zFi_let (fun v75 _ => ?_)
                refine zFi_let (fun v76 _ => ?_)
                refine zFi_let (fun t77 et77 => ?_)
                have gt77 : zFi A σ t77 := by rw [et77]; exact fi_X11_emit gs51 h1 h2 h3
                exact ih _ gt77
              · skip
                refine zFi_let (fun v56 _ => ?_)
                refine zFi_if (fun _ => ?_) (fun _ => ?_)
                · skip
                  refine zFi_let (fun v70 _ => ?_)
                  refine zFi_let (fun v71 _ => ?_)
                  refine zFi_let (fun t72 et72 => ?_)
                  have gt72 : zFi A σ t72 := by rw [et72]; exact fi_X11_emit gs51 h1 h2 h3
                  exact ih _ gt72
                · skip
                  refine zFi_let (fun v58 _ => ?_)
                  refine zFi_if (fun _ => ?_) (fun _ => ?_)
                  · skip
                    refine zFi_let (fun v65 _ => ?_)
                    refine zFi_let (fun v66 _ => ?_)
                    refine zFi_let (fun t67 et67 => ?_)
                    have gt67 : zFi A σ t67 := by rw [et67]; exact fi_X11_emit gs51 h1 h2 h3
                    exact ih _ gt67
                  · skip
                    refine zFi_let (fun v60 _ => ?_)
                    refine zFi_let (fun v61 _ => ?_)
                    refine zFi_let (fun t62 et62 => ?_)
                    have gt62 : zFi A σ t62 := by rw [et62]; exact fi_X11_emit gs51 h1 h2 h3
                    exact ih _ gt62
    · skip
      exact g
set_option maxRecDepth 100000 in
theorem fi_X11_comesOut {A : Nat → Nat → Prop} {σ σ0 : zS} {a0 : Nat} {p1 : Int32}  (g : zFi A σ σ0) (h0 : A a0 44) (h1 : ∀ j, A ((σ.2.2 a0 39).getD 0) j) (h2 : ∀ j, A ((σ.2.2 a0 40).getD 0) j) (h3 : A a0 38) : zFi A σ (F_X11_comesOut a0 p1 σ0) := by
  unfold F_X11_comesOut
  exact fi_X11_comesOut_0  h0 h1 h2 h3 _ _ g
set_option maxRecDepth 100000 in
theorem fi_X11_expression_96 {A : Nat → Nat → Prop} {σ : zS} {x7 : Int32} {v5 : Int32} {a0 : Nat} {kLp8 : Int32 → zS → zS} {kLp12 : zS → zS} (ckLp8 : ∀ (y0 : Int32) (s : zS), zFi A σ s → zFi A σ (kLp8 y0 s)) (ckLp12 : ∀ (s : zS), zFi A σ s → zFi A σ (kLp12  s)) (h0 : A a0 13) (h1 : A a0 14) (h2 : A a0 44) (h3 : ∀ j, A ((σ.2.2 a0 39).getD 0) j) (h4 : ∀ j, A ((σ.2.2 a0 40).getD 0) j) (h5 : A a0 38) (h6 : ∀ j, A ((σ.2.2 a0 43).getD 0) j) (h7 : A a0 11) (h8 : A a0 12) : ∀ (n : Nat) (τ21 : zS), zFi A σ τ21 → zFi A σ (F_X11_expression_96 x7 v5 a0 kLp8 kLp12 n  τ21) := by
  intro n
  induction n with
  | zero => intro  τ21 g; exact g
  | succ n ih =>
    intro  τ21 g
    rw [F_X11_expression_96]
    refine zFi_let (fun v22 _ => ?_)
    refine zFi_let (fun v24 _ => ?_)
    refine zFi_if (fun _ => ?_) (fun _ => ?_)
    · skip
      refine zFi_let (fun v26 _ => ?_)
      refine zFi_let (fun v28 _ => ?_)
      refine zFi_if (fun _ => ?_) (fun _ => ?_)
      · skip
        refine zFi_let (fun v106 _ => ?_)
        refine zFi_let (fun v108 _ => ?_)
        refine zFi_if (fun _ => ?_) (fun _ => ?_)
        · skip
          refine zFi_let (fun v186 _ => ?_)
          refine zFi_let (fun v188 _ => ?_)
          refine zFi_if (fun _ => ?_) (fun _ => ?_)
          · skip
            refine zFi_let (fun v266 _ => ?_)
            refine zFi_let (fun v268 _ => ?_)
            refine zFi_if (fun _ => ?_) (fun _ => ?_)
            · skip
              refine zFi_let (fun v270 _ => ?_)
              refine zFi_if (fun _ => ?_) (fun _ => ?_)
              · skip
                refine zFi_let (fun v272 _ => ?_)
                refine zFi_if (fun _ => ?_) (fun _ => ?_)
                · skip
                  refine zFi_let (fun v278 _ => ?_)
                  refine zFi_let (fun t279 et279 => ?_)
                  have gt279 : zFi A σ t279 := by rw [et279]; exact fi_X11_fail g h0 h1
                  refine zFi_let (fun v282 _ => ?_)
                  refine zFi_let (fun t283 et283 => ?_)
                  have gt283 : zFi A σ t283 := by rw [et283]; exact fi_X11_comesOut gt279 h2 h3 h4 h5
                  exact gt283
                · skip
                  refine zFi_let (fun v274 _ => ?_)
                  refine zFi_let (fun t275 et275 => ?_)
                  have gt275 : zFi A σ t275 := by rw [et275]; exact fi_X11_comesOut g h2 h3 h4 h5
                  exact gt275
              · skip
                exact g
            · skip
              refine zFi_let (fun v286 _ => ?_)
              refine zFi_if (fun _ => ?_) (fun _ => ?_)
              · skip
                exact g
              · skip
                refine zFi_let (fun v288 _ => ?_)
                refine zFi_let (fun v290 _ => ?_)
                refine zFi_if (fun _ => ?_) (fun _ => ?_)
                · skip
                  refine zFi_let (fun v314 _ => ?_)
                  refine zFi_let (fun v316 _ => ?_)
                  refine zFi_if (fun _ => ?_) (fun _ => ?_)
                  · skip
                    refine zFi_let (fun v318 _ => ?_)
                    refine zFi_let (fun t319 et319 => ?_)
                    have gt319 : zFi A σ t319 := by rw [et319]; exact fi_X11_comesOut g h2 h3 h4 h5
                    refine zFi_let (fun v321 ev321 => ?_)
                    rw [gt319.rf] at ev321
                    subst ev321
                    refine zFi_let (fun v322 _ => ?_)
                    refine zFi_let (fun v323 ev323 => ?_)
                    rw [gt319.rf] at ev323
                    subst ev323
                    refine zFi_let (fun v324 _ => ?_)
                    refine zFi_let (fun v325 _ => ?_)
                    refine zFi_let (fun s326 es326 => ?_)
                    have gs326 : zFi A σ s326 := by rw [es326]; exact gt319.w (h6 _)
                    refine zFi_let (fun v330 _ => ?_)
                    refine zFi_let (fun v331 _ => ?_)
                    refine zFi_let (fun v332 _ => ?_)
                    refine zFi_let (fun s333 es333 => ?_)
                    have gs333 : zFi A σ s333 := by rw [es333]; exact gs326.w h2
                    refine zFi_let (fun t337 et337 => ?_)
                    have gt337 : zFi A σ t337 := by rw [et337]; exact fi_X11_goesOn gs333 h0 h1 h7
                    exact ckLp8 _ _ gt337
                  · skip
                    refine zFi_let (fun v340 _ => ?_)
                    refine zFi_let (fun t341 et341 => ?_)
                    have gt341 : zFi A σ t341 := by rw [et341]; exact fi_X11_comesOut g h2 h3 h4 h5
                    refine zFi_let (fun v343 ev343 => ?_)
                    rw [gt341.rf] at ev343
                    subst ev343
                    refine zFi_let (fun v344 _ => ?_)
                    refine zFi_let (fun v345 ev345 => ?_)
                    rw [gt341.rf] at ev345
                    subst ev345
                    refine zFi_let (fun v346 _ => ?_)
                    refine zFi_let (fun v347 _ => ?_)
                    refine zFi_let (fun s348 es348 => ?_)
                    have gs348 : zFi A σ s348 := by rw [es348]; exact gt341.w (h6 _)
                    refine zFi_let (fun v352 _ => ?_)
                    refine zFi_let (fun v353 _ => ?_)
                    refine zFi_let (fun v354 _ => ?_)
                    refine zFi_let (fun s355 es355 => ?_)
                    have gs355 : zFi A σ s355 := by rw [es355]; exact gs348.w h2
                    refine zFi_let (fun t359 et359 => ?_)
                    have gt359 : zFi A σ t359 := by rw [et359]; exact fi_X11_goesOn gs355 h0 h1 h7
                    exact ckLp8 _ _ gt359
                · skip
                  refine zFi_let (fun v292 _ => ?_)
                  refine zFi_let (fun t293 et293 => ?_)
                  have gt293 : zFi A σ t293 := by rw [et293]; exact fi_X11_comesOut g h2 h3 h4 h5
                  refine zFi_let (fun v295 ev295 => ?_)
                  rw [gt293.rf] at ev295
                  subst ev295
                  refine zFi_let (fun v296 _ => ?_)
                  refine zFi_let (fun v297 ev297 => ?_)
                  rw [gt293.rf] at ev297
                  subst ev297
                  refine zFi_let (fun v298 _ => ?_)
                  refine zFi_let (fun v299 _ => ?_)
                  refine zFi_let (fun s300 es300 => ?_)
                  have gs300 : zFi A σ s300 := by rw [es300]; exact gt293.w (h6 _)
                  refine zFi_let (fun v304 _ => ?_)
                  refine zFi_let (fun v305 _ => ?_)
                  refine zFi_let (fun v306 _ => ?_)
                  refine zFi_let (fun s307 es307 => ?_)
                  have gs307 : zFi A σ s307 := by rw [es307]; exact gs300.w h2
                  refine zFi_let (fun t311 et311 => ?_)
                  have gt311 : zFi A σ t311 := by rw [et311]; exact fi_X11_goesOn gs307 h0 h1 h7
                  exact ckLp8 _ _ gt311
          · skip
            refine zFi_let (fun v190 _ => ?_)
            refine zFi_if (fun _ => ?_) (fun _ => ?_)
            · skip
              exact g
            · skip
              refine zFi_let (fun v192 _ => ?_)
              refine zFi_let (fun v194 _ => ?_)
              refine zFi_if (fun _ => ?_) (fun _ => ?_)
              · skip
                refine zFi_let (fun v218 _ => ?_)
                refine zFi_let (fun v220 _ => ?_)
                refine zFi_if (fun _ => ?_) (fun _ => ?_)
                · skip
                  refine zFi_let (fun v222 _ => ?_)
                  refine zFi_let (fun t223 et223 => ?_)
                  have gt223 : zFi A σ t223 := by rw [et223]; exact fi_X11_comesOut g h2 h3 h4 h5
                  refine zFi_let (fun v225 ev225 => ?_)
                  rw [gt223.rf] at ev225
                  subst ev225
                  refine zFi_let (fun v226 _ => ?_)
                  refine zFi_let (fun v227 ev227 => ?_)
                  rw [gt223.rf] at ev227
                  subst ev227
                  refine zFi_let (fun v228 _ => ?_)
                  refine zFi_let (fun v229 _ => ?_)
                  refine zFi_let (fun s230 es230 => ?_)
                  have gs230 : zFi A σ s230 := by rw [es230]; exact gt223.w (h6 _)
                  refine zFi_let (fun v234 _ => ?_)
                  refine zFi_let (fun v235 _ => ?_)
                  refine zFi_let (fun v236 _ => ?_)
                  refine zFi_let (fun s237 es237 => ?_)
                  have gs237 : zFi A σ s237 := by rw [es237]; exact gs230.w h2
                  refine zFi_let (fun t241 et241 => ?_)
                  have gt241 : zFi A σ t241 := by rw [et241]; exact fi_X11_goesOn gs237 h0 h1 h7
                  exact ckLp8 _ _ gt241
                · skip
                  refine zFi_let (fun v244 _ => ?_)
                  refine zFi_let (fun t245 et245 => ?_)
                  have gt245 : zFi A σ t245 := by rw [et245]; exact fi_X11_comesOut g h2 h3 h4 h5
                  refine zFi_let (fun v247 ev247 => ?_)
                  rw [gt245.rf] at ev247
                  subst ev247
                  refine zFi_let (fun v248 _ => ?_)
                  refine zFi_let (fun v249 ev249 => ?_)
                  rw [gt245.rf] at ev249
                  subst ev249
                  refine zFi_let (fun v250 _ => ?_)
                  refine zFi_let (fun v251 _ => ?_)
                  refine zFi_let (fun s252 es252 => ?_)
                  have gs252 : zFi A σ s252 := by rw [es252]; exact gt245.w (h6 _)
                  refine zFi_let (fun v256 _ => ?_)
                  refine zFi_let (fun v257 _ => ?_)
                  refine zFi_let (fun v258 _ => ?_)
                  refine zFi_let (fun s259 es259 => ?_)
                  have gs259 : zFi A σ s259 := by rw [es259]; exact gs252.w h2
                  refine zFi_let (fun t263 et263 => ?_)
                  have gt263 : zFi A σ t263 := by rw [et263]; exact fi_X11_goesOn gs259 h0 h1 h7
                  exact ckLp8 _ _ gt263
              · skip
                refine zFi_let (fun v196 _ => ?_)
                refine zFi_let (fun t197 et197 => ?_)
                have gt197 : zFi A σ t197 := by rw [et197]; exact fi_X11_comesOut g h2 h3 h4 h5
                refine zFi_let (fun v199 ev199 => ?_)
                rw [gt197.rf] at ev199
                subst ev199
                refine zFi_let (fun v200 _ => ?_)
                refine zFi_let (fun v201 ev201 => ?_)
                rw [gt197.rf] at ev201
                subst ev201
                refine zFi_let (fun v202 _ => ?_)
                refine zFi_let (fun v203 _ => ?_)
                refine zFi_let (fun s204 es204 => ?_)
                have gs204 : zFi A σ s204 := by rw [es204]; exact gt197.w (h6 _)
                refine zFi_let (fun v208 _ => ?_)
                refine zFi_let (fun v209 _ => ?_)
                refine zFi_let (fun v210 _ => ?_)
                refine zFi_let (fun s211 es211 => ?_)
                have gs211 : zFi A σ s211 := by rw [es211]; exact gs204.w h2
                refine zFi_let (fun t215 et215 => ?_)
                have gt215 : zFi A σ t215 := by rw [et215]; exact fi_X11_goesOn gs211 h0 h1 h7
                exact ckLp8 _ _ gt215
        · skip
          refine zFi_let (fun v110 _ => ?_)
          refine zFi_if (fun _ => ?_) (fun _ => ?_)
          · skip
            exact g
          · skip
            refine zFi_let (fun v112 _ => ?_)
            refine zFi_let (fun v114 _ => ?_)
            refine zFi_if (fun _ => ?_) (fun _ => ?_)
            · skip
              refine zFi_let (fun v138 _ => ?_)
              refine zFi_let (fun v140 _ => ?_)
              refine zFi_if (fun _ => ?_) (fun _ => ?_)
              · skip
                refine zFi_let (fun v142 _ => ?_)
                refine zFi_let (fun t143 et143 => ?_)
                have gt143 : zFi A σ t143 := by rw [et143]; exact fi_X11_comesOut g h2 h3 h4 h5
                refine zFi_let (fun v145 ev145 => ?_)
                rw [gt143.rf] at ev145
                subst ev145
                refine zFi_let (fun v146 _ => ?_)
                refine zFi_let (fun v147 ev147 => ?_)
                rw [gt143.rf] at ev147
                subst ev147
                refine zFi_let (fun v148 _ => ?_)
                refine zFi_let (fun v149 _ => ?_)
                refine zFi_let (fun s150 es150 => ?_)
                have gs150 : zFi A σ s150 := by rw [es150]; exact gt143.w (h6 _)
                refine zFi_let (fun v154 _ => ?_)
                refine zFi_let (fun v155 _ => ?_)
                refine zFi_let (fun v156 _ => ?_)
                refine zFi_let (fun s157 es157 => ?_)
                have gs157 : zFi A σ s157 := by rw [es157]; exact gs150.w h2
                refine zFi_let (fun t161 et161 => ?_)
                have gt161 : zFi A σ t161 := by rw [et161]; exact fi_X11_goesOn gs157 h0 h1 h7
                exact ckLp8 _ _ gt161
              · skip
                refine zFi_let (fun v164 _ => ?_)
                refine zFi_let (fun t165 et165 => ?_)
                have gt165 : zFi A σ t165 := by rw [et165]; exact fi_X11_comesOut g h2 h3 h4 h5
                refine zFi_let (fun v167 ev167 => ?_)
                rw [gt165.rf] at ev167
                subst ev167
                refine zFi_let (fun v168 _ => ?_)
                refine zFi_let (fun v169 ev169 => ?_)
                rw [gt165.rf] at ev169
                subst ev169
                refine zFi_let (fun v170 _ => ?_)
                refine zFi_let (fun v171 _ => ?_)
                refine zFi_let (fun s172 es172 => ?_)
                have gs172 : zFi A σ s172 := by rw [es172]; exact gt165.w (h6 _)
                refine zFi_let (fun v176 _ => ?_)
                refine zFi_let (fun v177 _ => ?_)
                refine zFi_let (fun v178 _ => ?_)
                refine zFi_let (fun s179 es179 => ?_)
                have gs179 : zFi A σ s179 := by rw [es179]; exact gs172.w h2
                refine zFi_let (fun t183 et183 => ?_)
                have gt183 : zFi A σ t183 := by rw [et183]; exact fi_X11_goesOn gs179 h0 h1 h7
                exact ckLp8 _ _ gt183
            · skip
              refine zFi_let (fun v116 _ => ?_)
              refine zFi_let (fun t117 et117 => ?_)
              have gt117 : zFi A σ t117 := by rw [et117]; exact fi_X11_comesOut g h2 h3 h4 h5
              refine zFi_let (fun v119 ev119 => ?_)
              rw [gt117.rf] at ev119
              subst ev119
              refine zFi_let (fun v120 _ => ?_)
              refine zFi_let (fun v121 ev121 => ?_)
              rw [gt117.rf] at ev121
              subst ev121
              refine zFi_let (fun v122 _ => ?_)
              refine zFi_let (fun v123 _ => ?_)
              refine zFi_let (fun s124 es124 => ?_)
              have gs124 : zFi A σ s124 := by rw [es124]; exact gt117.w (h6 _)
              refine zFi_let (fun v128 _ => ?_)
              refine zFi_let (fun v129 _ => ?_)
              refine zFi_let (fun v130 _ => ?_)
              refine zFi_let (fun s131 es131 => ?_)
              have gs131 : zFi A σ s131 := by rw [es131]; exact gs124.w h2
              refine zFi_let (fun t135 et135 => ?_)
              have gt135 : zFi A σ t135 := by rw [et135]; exact fi_X11_goesOn gs131 h0 h1 h7
              exact ckLp8 _ _ gt135
      · skip
        refine zFi_let (fun v30 _ => ?_)
        refine zFi_if (fun _ => ?_) (fun _ => ?_)
        · skip
          exact g
        · skip
          refine zFi_let (fun v32 _ => ?_)
          refine zFi_let (fun v34 _ => ?_)
          refine zFi_if (fun _ => ?_) (fun _ => ?_)
          · skip
            refine zFi_let (fun v58 _ => ?_)
            refine zFi_let (fun v60 _ => ?_)
            refine zFi_if (fun _ => ?_) (fun _ => ?_)
            · skip
              refine zFi_let (fun v62 _ => ?_)
              refine zFi_let (fun t63 et63 => ?_)
              have gt63 : zFi A σ t63 := by rw [et63]; exact fi_X11_comesOut g h2 h3 h4 h5
              refine zFi_let (fun v65 ev65 => ?_)
              rw [gt63.rf] at ev65
              subst ev65
              refine zFi_let (fun v66 _ => ?_)
              refine zFi_let (fun v67 ev67 => ?_)
              rw [gt63.rf] at ev67
              subst ev67
              refine zFi_let (fun v68 _ => ?_)
              refine zFi_let (fun v69 _ => ?_)
              refine zFi_let (fun s70 es70 => ?_)
              have gs70 : zFi A σ s70 := by rw [es70]; exact gt63.w (h6 _)
              refine zFi_let (fun v74 _ => ?_)
              refine zFi_let (fun v75 _ => ?_)
              refine zFi_let (fun v76 _ => ?_)
              refine zFi_let (fun s77 es77 => ?_)
              have gs77 : zFi A σ s77 := by rw [es77]; exact gs70.w h2
              refine zFi_let (fun t81 et81 => ?_)
              have gt81 : zFi A σ t81 := by rw [et81]; exact fi_X11_goesOn gs77 h0 h1 h7
              exact ckLp8 _ _ gt81
            · skip
              refine zFi_let (fun v84 _ => ?_)
              refine zFi_let (fun t85 et85 => ?_)
              have gt85 : zFi A σ t85 := by rw [et85]; exact fi_X11_comesOut g h2 h3 h4 h5
              refine zFi_let (fun v87 ev87 => ?_)
              rw [gt85.rf] at ev87
              subst ev87
              refine zFi_let (fun v88 _ => ?_)
              refine zFi_let (fun v89 ev89 => ?_)
              rw [gt85.rf] at ev89
              subst ev89
              refine zFi_let (fun v90 _ => ?_)
              refine zFi_let (fun v91 _ => ?_)
              refine zFi_let (fun s92 es92 => ?_)
              have gs92 : zFi A σ s92 := by rw [es92]; exact gt85.w (h6 _)
              refine zFi_let (fun v96 _ => ?_)
              refine zFi_let (fun v97 _ => ?_)
              refine zFi_let (fun v98 _ => ?_)
              refine zFi_let (fun s99 es99 => ?_)
              have gs99 : zFi A σ s99 := by rw [es99]; exact gs92.w h2
              refine zFi_let (fun t103 et103 => ?_)
              have gt103 : zFi A σ t103 := by rw [et103]; exact fi_X11_goesOn gs99 h0 h1 h7
              exact ckLp8 _ _ gt103
          · skip
            refine zFi_let (fun v36 _ => ?_)
            refine zFi_let (fun t37 et37 => ?_)
            have gt37 : zFi A σ t37 := by rw [et37]; exact fi_X11_comesOut g h2 h3 h4 h5
            refine zFi_let (fun v39 ev39 => ?_)
            rw [gt37.rf] at ev39
            subst ev39
            refine zFi_let (fun v40 _ => ?_)
            refine zFi_let (fun v41 ev41 => ?_)
            rw [gt37.rf] at ev41
            subst ev41
            refine zFi_let (fun v42 _ => ?_)
            refine zFi_let (fun v43 _ => ?_)
            refine zFi_let (fun s44 es44 => ?_)
            have gs44 : zFi A σ s44 := by rw [es44]; exact gt37.w (h6 _)
            refine zFi_let (fun v48 _ => ?_)
            refine zFi_let (fun v49 _ => ?_)
            refine zFi_let (fun v50 _ => ?_)
            refine zFi_let (fun s51 es51 => ?_)
            have gs51 : zFi A σ s51 := by rw [es51]; exact gs44.w h2
            refine zFi_let (fun t55 et55 => ?_)
            have gt55 : zFi A σ t55 := by rw [et55]; exact fi_X11_goesOn gs51 h0 h1 h7
            exact ckLp8 _ _ gt55
    · skip
      refine zFi_let (fun v362 _ => ?_)
      refine zFi_if (fun _ => ?_) (fun _ => ?_)
      · skip
        refine zFi_let (fun v748 _ => ?_)
        refine zFi_let (fun t749 et749 => ?_)
        have gt749 : zFi A σ t749 := by rw [et749]; exact fi_X11_comesOut g h2 h3 h4 h5
        refine zFi_let (fun v752 _ => ?_)
        refine zFi_let (fun v753 _ => ?_)
        refine zFi_let (fun v754 _ => ?_)
        refine zFi_let (fun s755 es755 => ?_)
        have gs755 : zFi A σ s755 := by rw [es755]; exact gt749.w h2
        refine zFi_let (fun v759 _ => ?_)
        refine zFi_let (fun v760 _ => ?_)
        refine zFi_let (fun v761 _ => ?_)
        refine zFi_let (fun s762 es762 => ?_)
        have gs762 : zFi A σ s762 := by rw [es762]; exact gs755.w h8
        refine zFi_let (fun t766 et766 => ?_)
        have gt766 : zFi A σ t766 := by rw [et766]; exact fi_X11_goesOn gs762 h0 h1 h7
        exact ih _ gt766
      · skip
        refine zFi_let (fun v364 _ => ?_)
        refine zFi_let (fun v366 _ => ?_)
        refine zFi_if (fun _ => ?_) (fun _ => ?_)
        · skip
          refine zFi_let (fun v456 _ => ?_)
          refine zFi_let (fun v458 _ => ?_)
          refine zFi_if (fun _ => ?_) (fun _ => ?_)
          · skip
            refine zFi_let (fun v548 _ => ?_)
            refine zFi_let (fun v550 _ => ?_)
            refine zFi_if (fun _ => ?_) (fun _ => ?_)
            · skip
              refine zFi_let (fun v640 _ => ?_)
              refine zFi_let (fun v642 _ => ?_)
              refine zFi_if (fun _ => ?_) (fun _ => ?_)
              · skip
                refine zFi_let (fun v644 _ => ?_)
                refine zFi_if (fun _ => ?_) (fun _ => ?_)
                · skip
                  refine zFi_let (fun v646 _ => ?_)
                  refine zFi_if (fun _ => ?_) (fun _ => ?_)
                  · skip
                    refine zFi_let (fun v652 _ => ?_)
                    refine zFi_let (fun t653 et653 => ?_)
                    have gt653 : zFi A σ t653 := by rw [et653]; exact fi_X11_fail g h0 h1
                    refine zFi_let (fun v656 _ => ?_)
                    refine zFi_let (fun t657 et657 => ?_)
                    have gt657 : zFi A σ t657 := by rw [et657]; exact fi_X11_comesOut gt653 h2 h3 h4 h5
                    exact gt657
                  · skip
                    refine zFi_let (fun v648 _ => ?_)
                    refine zFi_let (fun t649 et649 => ?_)
                    have gt649 : zFi A σ t649 := by rw [et649]; exact fi_X11_comesOut g h2 h3 h4 h5
                    exact gt649
                · skip
                  exact g
              · skip
                refine zFi_let (fun v660 _ => ?_)
                refine zFi_if (fun _ => ?_) (fun _ => ?_)
                · skip
                  exact g
                · skip
                  refine zFi_let (fun v662 _ => ?_)
                  refine zFi_let (fun v664 _ => ?_)
                  refine zFi_if (fun _ => ?_) (fun _ => ?_)
                  · skip
                    refine zFi_let (fun v692 _ => ?_)
                    refine zFi_let (fun v694 _ => ?_)
                    refine zFi_if (fun _ => ?_) (fun _ => ?_)
                    · skip
                      refine zFi_let (fun v696 _ => ?_)
                      refine zFi_let (fun t697 et697 => ?_)
                      have gt697 : zFi A σ t697 := by rw [et697]; exact fi_X11_comesOut g h2 h3 h4 h5
                      refine zFi_let (fun v700 ev700 => ?_)
                      rw [gt697.rf] at ev700
                      subst ev700
                      refine zFi_let (fun v701 _ => ?_)
                      refine zFi_let (fun v702 ev702 => ?_)
                      rw [gt697.rf] at ev702
                      subst ev702
                      refine zFi_let (fun v703 _ => ?_)
                      refine zFi_let (fun v704 _ => ?_)
                      refine zFi_let (fun s705 es705 => ?_)
                      have gs705 : zFi A σ s705 := by rw [es705]; exact gt697.w (h6 _)
                      refine zFi_let (fun v710 _ => ?_)
                      refine zFi_let (fun v711 _ => ?_)
                      refine zFi_let (fun v712 _ => ?_)
                      refine zFi_let (fun s713 es713 => ?_)
                      have gs713 : zFi A σ s713 := by rw [es713]; exact gs705.w h2
                      refine zFi_let (fun t718 et718 => ?_)
                      have gt718 : zFi A σ t718 := by rw [et718]; exact fi_X11_goesOn gs713 h0 h1 h7
                      exact ckLp8 _ _ gt718
                    · skip
                      refine zFi_let (fun v722 _ => ?_)
                      refine zFi_let (fun t723 et723 => ?_)
                      have gt723 : zFi A σ t723 := by rw [et723]; exact fi_X11_comesOut g h2 h3 h4 h5
                      refine zFi_let (fun v726 ev726 => ?_)
                      rw [gt723.rf] at ev726
                      subst ev726
                      refine zFi_let (fun v727 _ => ?_)
                      refine zFi_let (fun v728 ev728 => ?_)
                      rw [gt723.rf] at ev728
                      subst ev728
                      refine zFi_let (fun v729 _ => ?_)
                      refine zFi_let (fun v730 _ => ?_)
                      refine zFi_let (fun s731 es731 => ?_)
                      have gs731 : zFi A σ s731 := by rw [es731]; exact gt723.w (h6 _)
                      refine zFi_let (fun v736 _ => ?_)
                      refine zFi_let (fun v737 _ => ?_)
                      refine zFi_let (fun v738 _ => ?_)
                      refine zFi_let (fun s739 es739 => ?_)
                      have gs739 : zFi A σ s739 := by rw [es739]; exact gs731.w h2
                      refine zFi_let (fun t744 et744 => ?_)
                      have gt744 : zFi A σ t744 := by rw [et744]; exact fi_X11_goesOn gs739 h0 h1 h7
                      exact ckLp8 _ _ gt744
                  · skip
                    refine zFi_let (fun v666 _ => ?_)
                    refine zFi_let (fun t667 et667 => ?_)
                    have gt667 : zFi A σ t667 := by rw [et667]; exact fi_X11_comesOut g h2 h3 h4 h5
                    refine zFi_let (fun v670 ev670 => ?_)
                    rw [gt667.rf] at ev670
                    subst ev670
                    refine zFi_let (fun v671 _ => ?_)
                    refine zFi_let (fun v672 ev672 => ?_)
                    rw [gt667.rf] at ev672
                    subst ev672
                    refine zFi_let (fun v673 _ => ?_)
                    refine zFi_let (fun v674 _ => ?_)
                    refine zFi_let (fun s675 es675 => ?_)
                    have gs675 : zFi A σ s675 := by rw [es675]; exact gt667.w (h6 _)
                    refine zFi_let (fun v680 _ => ?_)
                    refine zFi_let (fun v681 _ => ?_)
                    refine zFi_let (fun v682 _ => ?_)
                    refine zFi_let (fun s683 es683 => ?_)
                    have gs683 : zFi A σ s683 := by rw [es683]; exact gs675.w h2
                    refine zFi_let (fun t688 et688 => ?_)
                    have gt688 : zFi A σ t688 := by rw [et688]; exact fi_X11_goesOn gs683 h0 h1 h7
                    exact ckLp8 _ _ gt688
            · skip
              refine zFi_let (fun v552 _ => ?_)
              refine zFi_if (fun _ => ?_) (fun _ => ?_)
              · skip
                exact g
              · skip
                refine zFi_let (fun v554 _ => ?_)
                refine zFi_let (fun v556 _ => ?_)
                refine zFi_if (fun _ => ?_) (fun _ => ?_)
                · skip
                  refine zFi_let (fun v584 _ => ?_)
                  refine zFi_let (fun v586 _ => ?_)
                  refine zFi_if (fun _ => ?_) (fun _ => ?_)
                  · skip
                    refine zFi_let (fun v588 _ => ?_)
                    refine zFi_let (fun t589 et589 => ?_)
                    have gt589 : zFi A σ t589 := by rw [et589]; exact fi_X11_comesOut g h2 h3 h4 h5
                    refine zFi_let (fun v592 ev592 => ?_)
                    rw [gt589.rf] at ev592
                    subst ev592
                    refine zFi_let (fun v593 _ => ?_)
                    refine zFi_let (fun v594 ev594 => ?_)
                    rw [gt589.rf] at ev594
                    subst ev594
                    refine zFi_let (fun v595 _ => ?_)
                    refine zFi_let (fun v596 _ => ?_)
                    refine zFi_let (fun s597 es597 => ?_)
                    have gs597 : zFi A σ s597 := by rw [es597]; exact gt589.w (h6 _)
                    refine zFi_let (fun v602 _ => ?_)
                    refine zFi_let (fun v603 _ => ?_)
                    refine zFi_let (fun v604 _ => ?_)
                    refine zFi_let (fun s605 es605 => ?_)
                    have gs605 : zFi A σ s605 := by rw [es605]; exact gs597.w h2
                    refine zFi_let (fun t610 et610 => ?_)
                    have gt610 : zFi A σ t610 := by rw [et610]; exact fi_X11_goesOn gs605 h0 h1 h7
                    exact ckLp8 _ _ gt610
                  · skip
                    refine zFi_let (fun v614 _ => ?_)
                    refine zFi_let (fun t615 et615 => ?_)
                    have gt615 : zFi A σ t615 := by rw [et615]; exact fi_X11_comesOut g h2 h3 h4 h5
                    refine zFi_let (fun v618 ev618 => ?_)
                    rw [gt615.rf] at ev618
                    subst ev618
                    refine zFi_let (fun v619 _ => ?_)
                    refine zFi_let (fun v620 ev620 => ?_)
                    rw [gt615.rf] at ev620
                    subst ev620
                    refine zFi_let (fun v621 _ => ?_)
                    refine zFi_let (fun v622 _ => ?_)
                    refine zFi_let (fun s623 es623 => ?_)
                    have gs623 : zFi A σ s623 := by rw [es623]; exact gt615.w (h6 _)
                    refine zFi_let (fun v628 _ => ?_)
                    refine zFi_let (fun v629 _ => ?_)
                    refine zFi_let (fun v630 _ => ?_)
                    refine zFi_let (fun s631 es631 => ?_)
                    have gs631 : zFi A σ s631 := by rw [es631]; exact gs623.w h2
                    refine zFi_let (fun t636 et636 => ?_)
                    have gt636 : zFi A σ t636 := by rw [et636]; exact fi_X11_goesOn gs631 h0 h1 h7
                    exact ckLp8 _ _ gt636
                · skip
                  refine zFi_let (fun v558 _ => ?_)
                  refine zFi_let (fun t559 et559 => ?_)
                  have gt559 : zFi A σ t559 := by rw [et559]; exact fi_X11_comesOut g h2 h3 h4 h5
                  refine zFi_let (fun v562 ev562 => ?_)
                  rw [gt559.rf] at ev562
                  subst ev562
                  refine zFi_let (fun v563 _ => ?_)
                  refine zFi_let (fun v564 ev564 => ?_)
                  rw [gt559.rf] at ev564
                  subst ev564
                  refine zFi_let (fun v565 _ => ?_)
                  refine zFi_let (fun v566 _ => ?_)
                  refine zFi_let (fun s567 es567 => ?_)
                  have gs567 : zFi A σ s567 := by rw [es567]; exact gt559.w (h6 _)
                  refine zFi_let (fun v572 _ => ?_)
                  refine zFi_let (fun v573 _ => ?_)
                  refine zFi_let (fun v574 _ => ?_)
                  refine zFi_let (fun s575 es575 => ?_)
                  have gs575 : zFi A σ s575 := by rw [es575]; exact gs567.w h2
                  refine zFi_let (fun t580 et580 => ?_)
                  have gt580 : zFi A σ t580 := by rw [et580]; exact fi_X11_goesOn gs575 h0 h1 h7
                  exact ckLp8 _ _ gt580
          · skip
            refine zFi_let (fun v460 _ => ?_)
            refine zFi_if (fun _ => ?_) (fun _ => ?_)
            · skip
              exact g
            · skip
              refine zFi_let (fun v462 _ => ?_)
              refine zFi_let (fun v464 _ => ?_)
              refine zFi_if (fun _ => ?_) (fun _ => ?_)
              · skip
                refine zFi_let (fun v492 _ => ?_)
                refine zFi_let (fun v494 _ => ?_)
                refine zFi_if (fun _ => ?_) (fun _ => ?_)
                · skip
                  refine zFi_let (fun v496 _ => ?_)
                  refine zFi_let (fun t497 et497 => ?_)
                  have gt497 : zFi A σ t497 := by rw [et497]; exact fi_X11_comesOut g h2 h3 h4 h5
                  refine zFi_let (fun v500 ev500 => ?_)
                  rw [gt497.rf] at ev500
                  subst ev500
                  refine zFi_let (fun v501 _ => ?_)
                  refine zFi_let (fun v502 ev502 => ?_)
                  rw [gt497.rf] at ev502
                  subst ev502
                  refine zFi_let (fun v503 _ => ?_)
                  refine zFi_let (fun v504 _ => ?_)
                  refine zFi_let (fun s505 es505 => ?_)
                  have gs505 : zFi A σ s505 := by rw [es505]; exact gt497.w (h6 _)
                  refine zFi_let (fun v510 _ => ?_)
                  refine zFi_let (fun v511 _ => ?_)
                  refine zFi_let (fun v512 _ => ?_)
                  refine zFi_let (fun s513 es513 => ?_)
                  have gs513 : zFi A σ s513 := by rw [es513]; exact gs505.w h2
                  refine zFi_let (fun t518 et518 => ?_)
                  have gt518 : zFi A σ t518 := by rw [et518]; exact fi_X11_goesOn gs513 h0 h1 h7
                  exact ckLp8 _ _ gt518
                · skip
                  refine zFi_let (fun v522 _ => ?_)
                  refine zFi_let (fun t523 et523 => ?_)
                  have gt523 : zFi A σ t523 := by rw [et523]; exact fi_X11_comesOut g h2 h3 h4 h5
                  refine zFi_let (fun v526 ev526 => ?_)
                  rw [gt523.rf] at ev526
                  subst ev526
                  refine zFi_let (fun v527 _ => ?_)
                  refine zFi_let (fun v528 ev528 => ?_)
                  rw [gt523.rf] at ev528
                  subst ev528
                  refine zFi_let (fun v529 _ => ?_)
                  refine zFi_let (fun v530 _ => ?_)
                  refine zFi_let (fun s531 es531 => ?_)
                  have gs531 : zFi A σ s531 := by rw [es531]; exact gt523.w (h6 _)
                  refine zFi_let (fun v536 _ => ?_)
                  refine zFi_let (fun v537 _ => ?_)
                  refine zFi_let (fun v538 _ => ?_)
                  refine zFi_let (fun s539 es539 => ?_)
                  have gs539 : zFi A σ s539 := by rw [es539]; exact gs531.w h2
                  refine zFi_let (fun t544 et544 => ?_)
                  have gt544 : zFi A σ t544 := by rw [et544]; exact fi_X11_goesOn gs539 h0 h1 h7
                  exact ckLp8 _ _ gt544
              · skip
                refine zFi_let (fun v466 _ => ?_)
                refine zFi_let (fun t467 et467 => ?_)
                have gt467 : zFi A σ t467 := by rw [et467]; exact fi_X11_comesOut g h2 h3 h4 h5
                refine zFi_let (fun v470 ev470 => ?_)
                rw [gt467.rf] at ev470
                subst ev470
                refine zFi_let (fun v471 _ => ?_)
                refine zFi_let (fun v472 ev472 => ?_)
                rw [gt467.rf] at ev472
                subst ev472
                refine zFi_let (fun v473 _ => ?_)
                refine zFi_let (fun v474 _ => ?_)
                refine zFi_let (fun s475 es475 => ?_)
                have gs475 : zFi A σ s475 := by rw [es475]; exact gt467.w (h6 _)
                refine zFi_let (fun v480 _ => ?_)
                refine zFi_let (fun v481 _ => ?_)
                refine zFi_let (fun v482 _ => ?_)
                refine zFi_let (fun s483 es483 => ?_)
                have gs483 : zFi A σ s483 := by rw [es483]; exact gs475.w h2
                refine zFi_let (fun t488 et488 => ?_)
                have gt488 : zFi A σ t488 := by rw [et488]; exact fi_X11_goesOn gs483 h0 h1 h7
                exact ckLp8 _ _ gt488
        · skip
          refine zFi_let (fun v368 _ => ?_)
          refine zFi_if (fun _ => ?_) (fun _ => ?_)
          · skip
            exact g
          · skip
            refine zFi_let (fun v370 _ => ?_)
            refine zFi_let (fun v372 _ => ?_)
            refine zFi_if (fun _ => ?_) (fun _ => ?_)
            · skip
              refine zFi_let (fun v400 _ => ?_)
              refine zFi_let (fun v402 _ => ?_)
              refine zFi_if (fun _ => ?_) (fun _ => ?_)
              · skip
                refine zFi_let (fun v404 _ => ?_)
                refine zFi_let (fun t405 et405 => ?_)
                have gt405 : zFi A σ t405 := by rw [et405]; exact fi_X11_comesOut g h2 h3 h4 h5
                refine zFi_let (fun v408 ev408 => ?_)
                rw [gt405.rf] at ev408
                subst ev408
                refine zFi_let (fun v409 _ => ?_)
                refine zFi_let (fun v410 ev410 => ?_)
                rw [gt405.rf] at ev410
                subst ev410
                refine zFi_let (fun v411 _ => ?_)
                refine zFi_let (fun v412 _ => ?_)
                refine zFi_let (fun s413 es413 => ?_)
                have gs413 : zFi A σ s413 := by rw [es413]; exact gt405.w (h6 _)
                refine zFi_let (fun v418 _ => ?_)
                refine zFi_let (fun v419 _ => ?_)
                refine zFi_let (fun v420 _ => ?_)
                refine zFi_let (fun s421 es421 => ?_)
                have gs421 : zFi A σ s421 := by rw [es421]; exact gs413.w h2
                refine zFi_let (fun t426 et426 => ?_)
                have gt426 : zFi A σ t426 := by rw [et426]; exact fi_X11_goesOn gs421 h0 h1 h7
                exact ckLp8 _ _ gt426
              · skip
                refine zFi_let (fun v430 _ => ?_)
                refine zFi_let (fun t431 et431 => ?_)
                have gt431 : zFi A σ t431 := by rw [et431]; exact fi_X11_comesOut g h2 h3 h4 h5
                refine zFi_let (fun v434 ev434 => ?_)
                rw [gt431.rf] at ev434
                subst ev434
                refine zFi_let (fun v435 _ => ?_)
                refine zFi_let (fun v436 ev436 => ?_)
                rw [gt431.rf] at ev436
                subst ev436
                refine zFi_let (fun v437 _ => ?_)
                refine zFi_let (fun v438 _ => ?_)
                refine zFi_let (fun s439 es439 => ?_)
                have gs439 : zFi A σ s439 := by rw [es439]; exact gt431.w (h6 _)
                refine zFi_let (fun v444 _ => ?_)
                refine zFi_let (fun v445 _ => ?_)
                refine zFi_let (fun v446 _ => ?_)
                refine zFi_let (fun s447 es447 => ?_)
                have gs447 : zFi A σ s447 := by rw [es447]; exact gs439.w h2
                refine zFi_let (fun t452 et452 => ?_)
                have gt452 : zFi A σ t452 := by rw [et452]; exact fi_X11_goesOn gs447 h0 h1 h7
                exact ckLp8 _ _ gt452
            · skip
              refine zFi_let (fun v374 _ => ?_)
              refine zFi_let (fun t375 et375 => ?_)
              have gt375 : zFi A σ t375 := by rw [et375]; exact fi_X11_comesOut g h2 h3 h4 h5
              refine zFi_let (fun v378 ev378 => ?_)
              rw [gt375.rf] at ev378
              subst ev378
              refine zFi_let (fun v379 _ => ?_)
              refine zFi_let (fun v380 ev380 => ?_)
              rw [gt375.rf] at ev380
              subst ev380
              refine zFi_let (fun v381 _ => ?_)
              refine zFi_let (fun v382 _ => ?_)
              refine zFi_let (fun s383 es383 => ?_)
              have gs383 : zFi A σ s383 := by rw [es383]; exact gt375.w (h6 _)
              refine zFi_let (fun v388 _ => ?_)
              refine zFi_let (fun v389 _ => ?_)
              refine zFi_let (fun v390 _ => ?_)
              refine zFi_let (fun s391 es391 => ?_)
              have gs391 : zFi A σ s391 := by rw [es391]; exact gs383.w h2
              refine zFi_let (fun t396 et396 => ?_)
              have gt396 : zFi A σ t396 := by rw [et396]; exact fi_X11_goesOn gs391 h0 h1 h7
              exact ckLp8 _ _ gt396
set_option maxRecDepth 100000 in
theorem fi_X11_expression_23 {A : Nat → Nat → Prop} {σ : zS} {x7 : Int32} {v5 : Int32} {a0 : Nat} {kLp8 : Int32 → zS → zS} (ckLp8 : ∀ (y0 : Int32) (s : zS), zFi A σ s → zFi A σ (kLp8 y0 s)) (h0 : A a0 13) (h1 : A a0 14) (h2 : ∀ j, A ((σ.2.2 a0 39).getD 0) j) (h3 : ∀ j, A ((σ.2.2 a0 40).getD 0) j) (h4 : A a0 38) (h5 : A a0 11) (h6 : A a0 44) (h7 : ∀ j, A ((σ.2.2 a0 43).getD 0) j) (h8 : A a0 12) : ∀ (n : Nat) (τ12 : zS), zFi A σ τ12 → zFi A σ (F_X11_expression_23 x7 v5 a0 kLp8 n  τ12) := by
  intro n
  induction n with
  | zero => intro  τ12 g; exact g
  | succ n ih =>
    intro  τ12 g
    rw [F_X11_expression_23]
    refine zFi_let (fun v13 _ => ?_)
    refine zFi_let (fun v15 _ => ?_)
    refine zFi_if (fun _ => ?_) (fun _ => ?_)
    · skip
      refine zFi_let (fun t17 et17 => ?_)
      have gt17 : zFi A σ t17 := by rw [et17]; exact fi_X11_unit g h0 h1 h2 h3 h4 h5
      refine zFi_let (fun v19 _ => ?_)
      refine zFi_if (fun _ => ?_) (fun _ => ?_)
      · skip
        exact gt17
      · skip
        exact fi_X11_expression_96 ckLp8 ih h0 h1 h6 h2 h3 h4 h7 h5 h8 _ _ gt17
    · skip
      refine zFi_let (fun v770 _ => ?_)
      refine zFi_let (fun v771 _ => ?_)
      refine zFi_if (fun _ => ?_) (fun _ => ?_)
      · skip
        refine zFi_let (fun v796 _ => ?_)
        refine zFi_let (fun t797 et797 => ?_)
        have gt797 : zFi A σ t797 := by rw [et797]; exact fi_X11_fail g h0 h1
        refine zFi_let (fun v800 _ => ?_)
        refine zFi_let (fun v801 _ => ?_)
        refine zFi_let (fun v802 _ => ?_)
        refine zFi_let (fun s803 es803 => ?_)
        have gs803 : zFi A σ s803 := by rw [es803]; exact gt797.w h8
        refine zFi_let (fun t806 et806 => ?_)
        have gt806 : zFi A σ t806 := by rw [et806]; exact fi_X11_goesOn gs803 h0 h1 h5
        refine zFi_let (fun v809 ev809 => ?_)
        rw [gt806.rf] at ev809
        subst ev809
        refine zFi_let (fun v810 _ => ?_)
        refine zFi_let (fun v811 _ => ?_)
        refine zFi_let (fun s812 es812 => ?_)
        have gs812 : zFi A σ s812 := by rw [es812]; exact gt806.w (h7 _)
        refine zFi_let (fun v816 _ => ?_)
        refine zFi_let (fun v817 _ => ?_)
        refine zFi_let (fun v818 _ => ?_)
        refine zFi_let (fun s819 es819 => ?_)
        have gs819 : zFi A σ s819 := by rw [es819]; exact gs812.w h6
        exact ih _ gs819
      · skip
        refine zFi_let (fun v773 _ => ?_)
        refine zFi_let (fun v774 _ => ?_)
        refine zFi_let (fun v775 _ => ?_)
        refine zFi_let (fun s776 es776 => ?_)
        have gs776 : zFi A σ s776 := by rw [es776]; exact g.w h8
        refine zFi_let (fun t779 et779 => ?_)
        have gt779 : zFi A σ t779 := by rw [et779]; exact fi_X11_goesOn gs776 h0 h1 h5
        refine zFi_let (fun v782 ev782 => ?_)
        rw [gt779.rf] at ev782
        subst ev782
        refine zFi_let (fun v783 _ => ?_)
        refine zFi_let (fun v784 _ => ?_)
        refine zFi_let (fun s785 es785 => ?_)
        have gs785 : zFi A σ s785 := by rw [es785]; exact gt779.w (h7 _)
        refine zFi_let (fun v789 _ => ?_)
        refine zFi_let (fun v790 _ => ?_)
        refine zFi_let (fun v791 _ => ?_)
        refine zFi_let (fun s792 es792 => ?_)
        have gs792 : zFi A σ s792 := by rw [es792]; exact gs785.w h6
        exact ih _ gs792
set_option maxRecDepth 100000 in
theorem fi_X11_expression_12 {A : Nat → Nat → Prop} {σ : zS} {v5 : Int32} {a0 : Nat}  (h0 : A a0 13) (h1 : A a0 14) (h2 : ∀ j, A ((σ.2.2 a0 39).getD 0) j) (h3 : ∀ j, A ((σ.2.2 a0 40).getD 0) j) (h4 : A a0 38) (h5 : A a0 11) (h6 : A a0 44) (h7 : ∀ j, A ((σ.2.2 a0 43).getD 0) j) (h8 : A a0 12) : ∀ (n : Nat) (x7 : Int32) (τ8 : zS), zFi A σ τ8 → zFi A σ (F_X11_expression_12 v5 a0 n x7 τ8) := by
  intro n
  induction n with
  | zero => intro x7 τ8 g; exact g
  | succ n ih =>
    intro x7 τ8 g
    rw [F_X11_expression_12]
    refine zFi_if (fun _ => ?_) (fun _ => ?_)
    · skip
      exact g
    · skip
      refine zFi_let (fun v10 _ => ?_)
      refine zFi_if (fun _ => ?_) (fun _ => ?_)
      · skip
        exact fi_X11_expression_23 ih h0 h1 h2 h3 h4 h5 h6 h7 h8 _ _ g
      · skip
        exact g
set_option maxRecDepth 100000 in
theorem fi_X11_expression {A : Nat → Nat → Prop} {σ σ0 : zS} {a0 : Nat}  (g : zFi A σ σ0) (h0 : A a0 44) (h1 : A a0 13) (h2 : A a0 14) (h3 : ∀ j, A ((σ.2.2 a0 39).getD 0) j) (h4 : ∀ j, A ((σ.2.2 a0 40).getD 0) j) (h5 : A a0 38) (h6 : A a0 11) (h7 : ∀ j, A ((σ.2.2 a0 43).getD 0) j) (h8 : A a0 12) : zFi A σ (F_X11_expression a0 σ0) := by
  unfold F_X11_expression
  refine zFi_let (fun v1 _ => ?_)
  refine zFi_let (fun s2 es2 => ?_)
  have gs2 : zFi A σ s2 := by rw [es2]; exact g.w h0
  refine zFi_let (fun v5 _ => ?_)
  refine zFi_let (fun v6 _ => ?_)
  exact fi_X11_expression_12  h1 h2 h3 h4 h5 h6 h0 h7 h8 _ _ _ gs2
set_option maxRecDepth 100000 in
theorem fi_X11_term {A : Nat → Nat → Prop} {σ σ0 : zS} {a0 : Nat}  (g : zFi A σ σ0) (h0 : ∀ j, A ((σ.2.2 a0 36).getD 0) j) (h1 : A a0 44) (h2 : A a0 13) (h3 : A a0 14) (h4 : ∀ j, A ((σ.2.2 a0 39).getD 0) j) (h5 : ∀ j, A ((σ.2.2 a0 40).getD 0) j) (h6 : A a0 38) (h7 : A a0 11) (h8 : ∀ j, A ((σ.2.2 a0 43).getD 0) j) (h9 : A a0 12) (h10 : ∀ j, A ((σ.2.2 a0 37).getD 0) j) (h11 : A a0 32) : zFi A σ (F_X11_term a0 σ0) := by
  unfold F_X11_term
  refine zFi_let (fun v1 ev1 => ?_)
  rw [g.rf] at ev1
  subst ev1
  refine zFi_let (fun v2 _ => ?_)
  refine zFi_let (fun v3 _ => ?_)
  refine zFi_let (fun s4 es4 => ?_)
  have gs4 : zFi A σ s4 := by rw [es4]; exact g.w (h0 _)
  refine zFi_let (fun v8 _ => ?_)
  refine zFi_if (fun _ => ?_) (fun _ => ?_)
  · skip
    refine zFi_let (fun t26 et26 => ?_)
    have gt26 : zFi A σ t26 := by rw [et26]; exact fi_X11_expression gs4 h1 h2 h3 h4 h5 h6 h7 h8 h9
    refine zFi_let (fun v29 ev29 => ?_)
    rw [gt26.rf] at ev29
    subst ev29
    refine zFi_let (fun v30 _ => ?_)
    refine zFi_let (fun v31 _ => ?_)
    refine zFi_let (fun s32 es32 => ?_)
    have gs32 : zFi A σ s32 := by rw [es32]; exact gt26.w (h10 _)
    refine zFi_let (fun v36 _ => ?_)
    refine zFi_let (fun v37 _ => ?_)
    refine zFi_let (fun v38 _ => ?_)
    refine zFi_let (fun s39 es39 => ?_)
    have gs39 : zFi A σ s39 := by rw [es39]; exact gs32.w h11
    exact gs39
  · skip
    refine zFi_let (fun v10 ev10 => ?_)
    rw [gs4.rf] at ev10
    subst ev10
    refine zFi_let (fun v11 _ => ?_)
    refine zFi_let (fun v12 _ => ?_)
    refine zFi_let (fun s13 es13 => ?_)
    have gs13 : zFi A σ s13 := by rw [es13]; exact gs4.w (h10 _)
    refine zFi_let (fun v18 _ => ?_)
    refine zFi_let (fun v19 _ => ?_)
    refine zFi_let (fun v20 _ => ?_)
    refine zFi_let (fun s21 es21 => ?_)
    have gs21 : zFi A σ s21 := by rw [es21]; exact gs13.w h11
    exact gs21
set_option maxRecDepth 100000 in
theorem fi_X11_tellLaw_12 {A : Nat → Nat → Prop} {σ : zS} {v4 : Int32} {a0 : Nat} {p1 : Int32}  (h0 : ∀ j, A ((σ.2.2 a0 33).getD 0) j) (h1 : ∀ j, A ((σ.2.2 a0 36).getD 0) j) (h2 : A a0 44) (h3 : A a0 13) (h4 : A a0 14) (h5 : ∀ j, A ((σ.2.2 a0 39).getD 0) j) (h6 : ∀ j, A ((σ.2.2 a0 40).getD 0) j) (h7 : A a0 38) (h8 : A a0 11) (h9 : ∀ j, A ((σ.2.2 a0 43).getD 0) j) (h10 : A a0 12) (h11 : ∀ j, A ((σ.2.2 a0 37).getD 0) j) (h12 : A a0 32) (h13 : ∀ j, A ((σ.2.2 a0 30).getD 0) j) (h14 : ∀ j, A ((σ.2.2 a0 31).getD 0) j) (h15 : ∀ j, A ((σ.2.2 a0 34).getD 0) j) (h16 : ∀ j, A ((σ.2.2 a0 35).getD 0) j) : ∀ (n : Nat) (x6 : Int32) (τ7 : zS), zFi A σ τ7 → zFi A σ (F_X11_tellLaw_12 v4 a0 p1 n x6 τ7) := by
  intro n
  induction n with
  | zero => intro x6 τ7 g; exact g
  | succ n ih =>
    intro x6 τ7 g
    rw [F_X11_tellLaw_12]
    refine zFi_let (fun v8 _ => ?_)
    refine zFi_if (fun _ => ?_) (fun _ => ?_)
    · skip
      refine zFi_let (fun v24 _ => ?_)
      refine zFi_let (fun v26 _ => ?_)
      refine zFi_if (fun _ => ?_) (fun _ => ?_)
      · skip
        refine zFi_let (fun v28 ev28 => ?_)
        rw [g.rf] at ev28
        subst ev28
        refine zFi_let (fun v29 _ => ?_)
        refine zFi_let (fun v30 _ => ?_)
        refine zFi_let (fun s31 es31 => ?_)
        have gs31 : zFi A σ s31 := by rw [es31]; exact g.w (h0 _)
        refine zFi_let (fun t35 et35 => ?_)
        have gt35 : zFi A σ t35 := by rw [et35]; exact fi_X11_term gs31 h1 h2 h3 h4 h5 h6 h7 h8 h9 h10 h11 h12
        refine zFi_let (fun v37 _ => ?_)
        refine zFi_let (fun t38 et38 => ?_)
        have gt38 : zFi A σ t38 := by rw [et38]; exact fi_X11_must gt35 h3 h4 h8
        refine zFi_let (fun v40 _ => ?_)
        refine zFi_if (fun _ => ?_) (fun _ => ?_)
        · skip
          exact gt38
        · skip
          refine zFi_let (fun v42 ev42 => ?_)
          rw [gt38.rf] at ev42
          subst ev42
          refine zFi_let (fun v43 _ => ?_)
          refine zFi_let (fun v44 _ => ?_)
          refine zFi_let (fun v45 _ => ?_)
          refine zFi_let (fun v46 _ => ?_)
          refine zFi_let (fun s47 es47 => ?_)
          have gs47 : zFi A σ s47 := by rw [es47]; exact gt38.w (h13 _)
          refine zFi_let (fun v51 ev51 => ?_)
          rw [gs47.rf] at ev51
          subst ev51
          refine zFi_let (fun v52 _ => ?_)
          refine zFi_let (fun v53 _ => ?_)
          refine zFi_let (fun v54 _ => ?_)
          refine zFi_let (fun v55 _ => ?_)
          refine zFi_let (fun v56 _ => ?_)
          refine zFi_let (fun s57 es57 => ?_)
          have gs57 : zFi A σ s57 := by rw [es57]; exact gs47.w (h14 _)
          exact gs57
      · skip
        refine zFi_let (fun v62 _ => ?_)
        refine zFi_if (fun _ => ?_) (fun _ => ?_)
        · skip
          refine zFi_let (fun v120 _ => ?_)
          refine zFi_let (fun t121 et121 => ?_)
          have gt121 : zFi A σ t121 := by rw [et121]; exact fi_X11_fail g h3 h4
          refine zFi_let (fun v123 _ => ?_)
          refine zFi_if (fun _ => ?_) (fun _ => ?_)
          · skip
            exact gt121
          · skip
            exact gt121
        · skip
          refine zFi_let (fun v64 _ => ?_)
          refine zFi_if (fun _ => ?_) (fun _ => ?_)
          · skip
            exact g
          · skip
            refine zFi_let (fun v66 _ => ?_)
            refine zFi_let (fun t67 et67 => ?_)
            have gt67 : zFi A σ t67 := by rw [et67]; exact fi_X11_goesOn g h3 h4 h8
            refine zFi_let (fun v69 ev69 => ?_)
            rw [gt67.rf] at ev69
            subst ev69
            refine zFi_let (fun v70 _ => ?_)
            refine zFi_let (fun v71 _ => ?_)
            refine zFi_let (fun s72 es72 => ?_)
            have gs72 : zFi A σ s72 := by rw [es72]; exact gt67.w (h0 _)
            refine zFi_let (fun v75 ev75 => ?_)
            rw [gs72.rf] at ev75
            subst ev75
            refine zFi_let (fun v76 _ => ?_)
            refine zFi_let (fun v77 _ => ?_)
            refine zFi_let (fun s78 es78 => ?_)
            have gs78 : zFi A σ s78 := by rw [es78]; exact gs72.w (h15 _)
            refine zFi_let (fun t82 et82 => ?_)
            have gt82 : zFi A σ t82 := by rw [et82]; exact fi_X11_expression gs78 h2 h3 h4 h5 h6 h7 h8 h9 h10
            refine zFi_let (fun v85 _ => ?_)
            refine zFi_let (fun t86 et86 => ?_)
            have gt86 : zFi A σ t86 := by rw [et86]; exact fi_X11_must gt82 h3 h4 h8
            refine zFi_let (fun v89 ev89 => ?_)
            rw [gt86.rf] at ev89
            subst ev89
            refine zFi_let (fun v90 _ => ?_)
            refine zFi_let (fun v91 _ => ?_)
            refine zFi_let (fun s92 es92 => ?_)
            have gs92 : zFi A σ s92 := by rw [es92]; exact gt86.w (h16 _)
            refine zFi_let (fun v96 _ => ?_)
            refine zFi_if (fun _ => ?_) (fun _ => ?_)
            · skip
              refine zFi_let (fun t108 et108 => ?_)
              have gt108 : zFi A σ t108 := by rw [et108]; exact fi_X11_expression gs92 h2 h3 h4 h5 h6 h7 h8 h9 h10
              refine zFi_let (fun v111 _ => ?_)
              refine zFi_let (fun t112 et112 => ?_)
              have gt112 : zFi A σ t112 := by rw [et112]; exact fi_X11_must gt108 h3 h4 h8
              refine zFi_let (fun t115 et115 => ?_)
              have gt115 : zFi A σ t115 := by rw [et115]; exact fi_X11_term gt112 h1 h2 h3 h4 h5 h6 h7 h8 h9 h10 h11 h12
              refine zFi_let (fun v117 _ => ?_)
              refine zFi_let (fun t118 et118 => ?_)
              have gt118 : zFi A σ t118 := by rw [et118]; exact fi_X11_must gt115 h3 h4 h8
              exact ih _ _ gt118
            · skip
              refine zFi_let (fun v98 _ => ?_)
              refine zFi_let (fun t99 et99 => ?_)
              have gt99 : zFi A σ t99 := by rw [et99]; exact fi_X11_must gs92 h3 h4 h8
              refine zFi_let (fun t103 et103 => ?_)
              have gt103 : zFi A σ t103 := by rw [et103]; exact fi_X11_term gt99 h1 h2 h3 h4 h5 h6 h7 h8 h9 h10 h11 h12
              refine zFi_let (fun v105 _ => ?_)
              refine zFi_let (fun t106 et106 => ?_)
              have gt106 : zFi A σ t106 := by rw [et106]; exact fi_X11_must gt103 h3 h4 h8
              exact ih _ _ gt106
    · skip
      refine zFi_let (fun v10 ev10 => ?_)
      rw [g.rf] at ev10
      subst ev10
      refine zFi_let (fun v11 _ => ?_)
      refine zFi_let (fun v12 _ => ?_)
      refine zFi_let (fun s13 es13 => ?_)
      have gs13 : zFi A σ s13 := by rw [es13]; exact g.w (h0 _)
      refine zFi_let (fun t17 et17 => ?_)
      have gt17 : zFi A σ t17 := by rw [et17]; exact fi_X11_term gs13 h1 h2 h3 h4 h5 h6 h7 h8 h9 h10 h11 h12
      refine zFi_let (fun v19 _ => ?_)
      refine zFi_let (fun t20 et20 => ?_)
      have gt20 : zFi A σ t20 := by rw [et20]; exact fi_X11_must gt17 h3 h4 h8
      refine zFi_let (fun v22 _ => ?_)
      refine zFi_if (fun _ => ?_) (fun _ => ?_)
      · skip
        exact gt20
      · skip
        exact gt20
set_option maxRecDepth 100000 in
theorem fi_X11_tellLaw {A : Nat → Nat → Prop} {σ σ0 : zS} {a0 : Nat} {p1 : Int32}  (g : zFi A σ σ0) (h0 : A a0 13) (h1 : A a0 14) (h2 : A a0 11) (h3 : ∀ j, A ((σ.2.2 a0 33).getD 0) j) (h4 : ∀ j, A ((σ.2.2 a0 36).getD 0) j) (h5 : A a0 44) (h6 : ∀ j, A ((σ.2.2 a0 39).getD 0) j) (h7 : ∀ j, A ((σ.2.2 a0 40).getD 0) j) (h8 : A a0 38) (h9 : ∀ j, A ((σ.2.2 a0 43).getD 0) j) (h10 : A a0 12) (h11 : ∀ j, A ((σ.2.2 a0 37).getD 0) j) (h12 : A a0 32) (h13 : ∀ j, A ((σ.2.2 a0 30).getD 0) j) (h14 : ∀ j, A ((σ.2.2 a0 31).getD 0) j) (h15 : ∀ j, A ((σ.2.2 a0 34).getD 0) j) (h16 : ∀ j, A ((σ.2.2 a0 35).getD 0) j) : zFi A σ (F_X11_tellLaw a0 p1 σ0) := by
  unfold F_X11_tellLaw
  refine zFi_let (fun v1 _ => ?_)
  refine zFi_let (fun t2 et2 => ?_)
  have gt2 : zFi A σ t2 := by rw [et2]; exact fi_X11_must g h0 h1 h2
  refine zFi_let (fun v4 _ => ?_)
  refine zFi_let (fun v5 _ => ?_)
  exact fi_X11_tellLaw_12  h3 h4 h5 h0 h1 h6 h7 h8 h2 h9 h10 h11 h12 h13 h14 h15 h16 _ _ _ gt2
end
-- 35x29.rel18
section
/-! WHAT A PLACE IS TOLD: where it goes, three numbers (told beside aTell) -/
abbrev zGa : Type := Nat → Int × Int × Int × Int
def aVals (T : zTn) (s : zA) : Int × Int × Int × Int := (aNum (aNew T s) (T.2.1 (aNew T s).2.2.1).1, T.2.2.1 (aKnown T (aNew T s)).2.2.1, T.2.2.1 (aNumb T 1 99 (aKnown T (aNew T s))).2.2.1, T.2.2.1 (aNumb T 0 99 (aNumb T 1 99 (aKnown T (aNew T s)))).2.2.1)
def aG (T : zTn) (s : zA) (g : zGa) : zGa := if T.1 s.2.2.1 = 1 ∧ (aPlace T s).1 = 0 then (fun p => if (p : Int) = s.2.2.2.2.2.2.1 + 1 then aVals T (aPlace1 T s) else g p) else g
section VALS
variable {P tk kA vA qA tt N m : Nat} {T : zTn} {σ σ' : zS} {s : zA}
theorem vKnownV (h : zV P tk kA vA qA tt N m T σ s) (hs : s.1 = 0) : (F_X3_knownName P σ).1.toInt = if aNum s (T.2.1 s.2.2.1).1 < 0 then 0 else aNum s (T.2.1 s.2.2.1).1 := by
  have e22 : (22 : Int32).toInt = 22 := by decide
  have em : (-1 : Int32).toInt = -1 := by decide
  have e0 : (0 : Int32).toInt = 0 := by decide
  obtain ⟨v, p1, p2⟩ := vPN h hs (σ.2.1 P 4)
  obtain ⟨r1, r2, r3, r4, -⟩ := h.2.2.2 hs
  rw [r4] at p2
  have key : (if (0 : Int) ≤ v.toInt then v else (0 : Int32)).toInt = if aNum s (T.2.1 s.2.2.1).1 < 0 then 0 else aNum s (T.2.1 s.2.2.1).1 := by
    rw [← p2]
    by_cases c : 0 ≤ v.toInt
    · rw [if_pos c, if_neg (by omega)]
    · rw [if_neg c, if_pos (by omega)]
      exact e0
  unfold F_X3_knownName
  simp only [zlt, zlt2, e22, em, e0, p1]
  split
  · split
    · exact key
    · exact key
  · exact key
theorem vNumbV (h : zV P tk kA vA qA tt N m T σ s) (hs : s.1 = 0) (lo hi : Int32) : (F_X3_number P lo hi σ).1.toInt = T.2.2.1 s.2.2.1 := by
  have e23 : (23 : Int32).toInt = 23 := by decide
  obtain ⟨r1, r2, r3, r4, -⟩ := h.2.2.2 hs
  have q := (h.1.2.2.1 s.2.2.1)
  have e : (σ.2.1 P 4).toInt32.toInt = T.2.2.1 s.2.2.1 := by rw [r4, ← q.2.1, q.2.2.1]
  unfold F_X3_number
  simp only [zlt, zlt2, e23]
  split
  · split
    · exact e
    · exact e
  · exact e
/-- a late fault stays -/
theorem aTake_l {w : Int} : (aTake T w s).2.2.2.1 = s.2.2.2.1 := by
  unfold aTake aFail
  split
  · rfl
  · split
    · rfl
    · split
      · rfl
      · rfl
theorem aLate_l {n : Int} (h : (aLate T n s).2.2.2.1 = 0) (hn : n ≠ 0) (hs : s.1 = 0) : False := by
  unfold aLate at h
  rw [if_neg (zne hs)] at h
  by_cases c : s.2.2.2.1 = 0
  · rw [if_neg (zne c)] at h
    exact hn h
  · rw [if_pos c] at h
    exact c h
theorem aKnown_l (hs : s.1 = 0) (h : (aKnown T s).2.2.2.1 = 0) (ht : T.1 s.2.2.1 = 22) : s.2.2.2.1 = 0 ∧ aNum s (T.2.1 s.2.2.1).1 ≠ -1 := by
  unfold aKnown at h
  rw [aTake_l] at h
  by_cases c : aNum s (T.2.1 s.2.2.1).1 = -1
  · rw [if_pos ⟨hs, ht, c⟩] at h
    exact absurd h (fun z => aLate_l z (by decide) hs)
  · rw [if_neg (fun z => c z.2.2)] at h
    exact ⟨h, c⟩
end VALS
end
-- 35x30.rel19
section
section PLG
variable {P tk kA vA qA tt N m : Nat} {T : zTn} {σ σ' τ : zS} {s : zA} {W : Nat → Nat} {g : zGa}
theorem aNumb_l {lo hi : Int} (hs : s.1 = 0) (h : (aNumb T lo hi s).2.2.2.1 = 0) : s.2.2.2.1 = 0 := by
  unfold aNumb at h
  rw [aTake_l] at h
  split at h
  · exact absurd h (fun z => aLate_l z (by decide) hs)
  · exact h
theorem aNew_l (hs : s.1 = 0) (h : (aNew T s).2.2.2.1 = 0) : s.2.2.2.1 = 0 := by
  unfold aNew at h
  rw [aTake_l] at h
  split at h
  · exact absurd h (fun z => aLate_l z (by decide) hs)
  · exact h
theorem aFind_r {nm : Nat → Int64 × Int64} {pt : Int} {x : Int64} : ∀ n p, aFind nm pt x n p = -1 ∨ 0 ≤ aFind nm pt x n p := by
  intro n
  induction n with
  | zero => intro p; exact Or.inl rfl
  | succ n ih =>
    intro p
    rw [aFind]
    split
    · split
      · exact Or.inr (by omega)
      · exact ih _
    · exact Or.inl rfl
/-- the rows told of the places so far -/
def zVg (W : Nat → Nat) (σ : zS) (s : zA) (g : zGa) : Prop := s.1 = 0 → s.2.2.2.1 = 0 → ∀ p : Nat, 1 ≤ p → (p : Int) ≤ s.2.2.2.2.2.2.1 → (σ.1 (W 2) p).toInt = (g p).1 ∧ (σ.1 (W 3) p).toInt = (g p).2.1 ∧ (σ.1 (W 4) p).toInt = (g p).2.2.1 ∧ (σ.1 (W 5) p).toInt = (g p).2.2.2
def zWz (W : Nat → Nat) (P tt : Nat) (R : Nat → Nat → Option Nat) : Prop := (∀ j, 2 ≤ j → j ≤ 5 → (R tt j).getD 0 = W j ∧ W j ≠ P) ∧ ∀ i j, 2 ≤ i → i ≤ 5 → 2 ≤ j → j ≤ 5 → i ≠ j → W i ≠ W j
theorem setPV (hW : zWz W P tt τ.2.2) {i a b c d : Int32} {n : Nat} (hi : i.toInt = n) (hn : n < 12) : (F_X9_setPlace tt i a b c d τ).1 = zu (zu (zu (zu τ.1 (W 2) n a) (W 3) n b) (W 4) n c) (W 5) n d := by
  have e12 : (12 : Int32).toInt = 12 := by decide
  have en : i.toNatClampNeg = n := by rw [ztn, hi]; rfl
  unfold F_X9_setPlace
  simp only [zlt, e12, en]
  rw [if_neg (by omega), if_pos (by omega), (hW.1 2 (by omega) (by omega)).1, (hW.1 3 (by omega) (by omega)).1, (hW.1 4 (by omega) (by omega)).1, (hW.1 5 (by omega) (by omega)).1]
theorem vPlaceG (hd : zVd P tk kA vA qA N) (hT : zTK T m) (h : zV P tk kA vA qA tt N m T σ s) (hs : s.1 = 0) (ht : T.1 s.2.2.1 = 1) (hW : zWz W P tt σ.2.2) (hg : zVg W σ s g) : zVg W (F_X3_newPlace P σ) (aPlace T s) (aG T s g) := by
  intro q l p hp1 hp2
  have r9 := (h.2.2.2 hs).2.2.2.2.2.2.2.2.1
  have e11 : (11 : Int32).toInt = 11 := by decide
  have e1 : (1 : Int32).toInt = 1 := by decide
  have e0 : (0 : Int32).toInt = 0 := by decide
  have e99 : (99 : Int32).toInt = 99 := by decide
  have q2 : (aPlace2 T (aPlace1 T s)).1 = 0 := by
    unfold aPlace at q
    split at q
    · next c => exact c.1
    · exact q
  obtain ⟨s1z, -, i2⟩ := aPlace2_i q2
  have c11 : s.2.2.2.2.2.2.1 < 11 := by
    apply Classical.byContradiction
    intro n
    unfold aPlace1 at s1z
    rw [if_pos (by omega)] at s1z
    have := (aTake_i s1z).1
    unfold aFail at this
    rw [if_neg (zne hs)] at this
    exact absurd this (by decide : ¬ (2 : Int) = 0)
  have es1 : aPlace1 T s = aTake T 1 s := by
    unfold aPlace1
    rw [if_neg (by omega)]
  obtain ⟨-, -, t3, t4⟩ := aTake_i (es1 ▸ s1z)
  have cnt : (aPlace2 T (aPlace1 T s)).2.2.2.2.2.2.1 = s.2.2.2.2.2.2.1 := by
    rw [show (aPlace2 T (aPlace1 T s)).2.2.2.2.2.2.1 = (aPlace1 T s).2.2.2.2.2.2.1 from congrArg (fun z => z.2.1) i2, es1]
    exact congrArg (fun z => z.2.2.2.1) t4
  have ep : aPlace T s = aSetP (aPlace2 T (aPlace1 T s)) (T.2.1 (aPlace1 T s).2.2.1) := by
    unfold aPlace
    rw [if_pos ⟨q2, by omega⟩]
  have l2 : (aPlace2 T (aPlace1 T s)).2.2.2.1 = 0 := by rw [ep] at l; exact l
  have hp3 : (p : Int) ≤ s.2.2.2.2.2.2.1 + 1 := by rw [ep] at hp2; rw [← cnt]; exact hp2
  have eg : aG T s g = fun p : Nat => if (p : Int) = s.2.2.2.2.2.2.1 + 1 then aVals T (aPlace1 T s) else g p := by
    unfold aG
    rw [if_pos ⟨ht, q⟩]
  rw [eg]
  -- the chain
  have h1 : zV P tk kA vA qA tt N m T (F_X3_take P 1 σ) (aPlace1 T s) := by
    rw [es1]
    exact vTake' hd hT h 1 1 (by decide) (by decide)
  obtain ⟨x, s7, a1, a2, -⟩ := vNew hd hT h1
  obtain ⟨v8, s9, b1, b2⟩ := vKnown hd hT a2
  obtain ⟨v12, s13, c1, c2⟩ := vNumb hd hT b2 1 99
  obtain ⟨v16, s17, d1, d2⟩ := vNumb hd hT c2 0 99
  obtain ⟨v20, s21, f1, f2⟩ := vNumb hd hT d2 0 99
  rw [e1, e99] at c2 d2 f2
  rw [e0] at d2 f2
  have f2' : zV P tk kA vA qA tt N m T s21 (aPlace2 T (aPlace1 T s)) := f2
  obtain ⟨z4, -, -⟩ := aNumb_i (lo := 0) (hi := 99) q2
  obtain ⟨z3, -, -⟩ := aNumb_i z4
  obtain ⟨z2, -, -⟩ := aNumb_i z3
  obtain ⟨z1, k22, -⟩ := aKnown_i z2
  have l4 := aNumb_l (lo := 0) (hi := 99) z4 l2
  have l3 := aNumb_l z3 l4
  have l1 := aNumb_l z2 l3
  obtain ⟨l0, kn⟩ := aKnown_l z1 l1 k22
  have lN := aNew_l s1z l0
  have lS : s.2.2.2.1 = 0 := by rw [es1, aTake_l] at lN; exact lN
  have w8 : v8.toInt = aNum (aNew T (aPlace1 T s)) (T.2.1 (aNew T (aPlace1 T s)).2.2.1).1 := by
    have := vKnownV a2 z1
    rw [b1] at this
    rcases aFind_r (nm := (aNew T (aPlace1 T s)).2.2.2.2.2.2.2) (pt := (aNew T (aPlace1 T s)).2.2.2.2.2.2.1) (x := (T.2.1 (aNew T (aPlace1 T s)).2.2.1).1) 20 (if (aNew T (aPlace1 T s)).2.2.2.2.2.1 = 0 then 1 else 0) with z | z
    · exact absurd z kn
    · rw [if_neg (show ¬ aNum _ _ < 0 from by unfold aNum; omega)] at this
      exact this
  have w12 : v12.toInt = T.2.2.1 (aKnown T (aNew T (aPlace1 T s))).2.2.1 := by
    have := vNumbV b2 z2 1 99
    rw [c1] at this
    exact this
  have w16 : v16.toInt = T.2.2.1 (aNumb T 1 99 (aKnown T (aNew T (aPlace1 T s)))).2.2.1 := by
    have := vNumbV c2 z3 0 99
    rw [d1] at this
    exact this
  have w20 : v20.toInt = T.2.2.1 (aNumb T 0 99 (aNumb T 1 99 (aKnown T (aNew T (aPlace1 T s))))).2.2.1 := by
    have := vNumbV d2 z4 0 99
    rw [f1] at this
    exact this
  -- the frames
  have A1 : zFi (fun c _ => c = P) σ (F_X3_take P 1 σ) := fi_X3_take zFi.id rfl rfl rfl rfl rfl
  have A2 : zFi (fun c _ => c = P) σ s7 := (fi_X3_newName A1 rfl rfl rfl rfl rfl rfl rfl).of a1.symm
  have A3 : zFi (fun c _ => c = P) σ s9 := (fi_X3_knownName A2 rfl rfl rfl rfl rfl rfl rfl).of b1.symm
  have A4 : zFi (fun c _ => c = P) σ s13 := (fi_X3_number A3 rfl rfl rfl rfl rfl rfl rfl).of c1.symm
  have A5 : zFi (fun c _ => c = P) σ s17 := (fi_X3_number A4 rfl rfl rfl rfl rfl rfl rfl).of d1.symm
  have A6 : zFi (fun c _ => c = P) σ s21 := (fi_X3_number A5 rfl rfl rfl rfl rfl rfl rfl).of f1.symm
  obtain ⟨r1, r2, r3, r4, r5, r6, r7, r8, r9', r10, r11⟩ := f2'.2.2.2 q2
  have e7 : (s21.1 P 7 + (1 : Int32)).toInt = ((s.2.2.2.2.2.2.1 + 1).toNat : Nat) := by rw [zb_add (by rw [r9', e1, cnt]; omega) (by rw [r9', e1, cnt]; omega), r9', e1, cnt]; have := (h.2.2.2 hs).2.2.2.2.2.2.2.2.2.1.1; omega
  have c0 := (h.2.2.2 hs).2.2.2.2.2.2.2.2.2.1.1
  have t0 := vtt f2'
  have n0 := vnn f2'
  unfold F_X3_newPlace
  simp only [zlt, zlt2, e11, a1, b1, c1, d1, f1]
  rw [if_pos (show (σ.1 P 7).toInt < 11 by omega), if_pos (show (s21.1 P 8).toInt = 0 from f2'.2.1.trans q2), if_pos (show (s21.1 P 7).toInt < 11 by omega)]
  simp only [t0, n0, zu_s]
  have hW21 : zWz W P tt s21.2.2 := by rw [A6.1]; exact hW
  rw [setPV (τ := (zu s21.1 P 7 (s21.1 P 7 + (1 : Int32)), zu s21.2.1 N (s21.1 P 7 + (1 : Int32)).toNatClampNeg x, s21.2.2)) hW21 e7 (by omega)]
  have ne := hW.2
  have nP := fun j h1 h2 => (hW.1 j h1 h2).2
  have base : ∀ j, 2 ≤ j → j ≤ 5 → ∀ i, zu s21.1 P 7 (s21.1 P 7 + (1 : Int32)) (W j) i = σ.1 (W j) i := fun j h1 h2 i => by
    rw [zu_n _ _ _ (nP j h1 h2)]
    exact A6.2 _ _ (nP j h1 h2)
  show (zu (zu (zu (zu (zu s21.1 P 7 _) (W 2) _ v8) (W 3) _ v12) (W 4) _ v16) (W 5) _ v20 (W 2) p).toInt = _ ∧ (zu (zu (zu (zu (zu s21.1 P 7 _) (W 2) _ v8) (W 3) _ v12) (W 4) _ v16) (W 5) _ v20 (W 3) p).toInt = _ ∧ (zu (zu (zu (zu (zu s21.1 P 7 _) (W 2) _ v8) (W 3) _ v12) (W 4) _ v16) (W 5) _ v20 (W 4) p).toInt = _ ∧ (zu (zu (zu (zu (zu s21.1 P 7 _) (W 2) _ v8) (W 3) _ v12) (W 4) _ v16) (W 5) _ v20 (W 5) p).toInt = _
  rw [zu_n _ _ _ (ne 2 5 (by omega) (by omega) (by omega) (by omega) (by omega)), zu_n _ _ _ (ne 2 4 (by omega) (by omega) (by omega) (by omega) (by omega)), zu_n _ _ _ (ne 2 3 (by omega) (by omega) (by omega) (by omega) (by omega)), zu_n _ _ _ (ne 3 5 (by omega) (by omega) (by omega) (by omega) (by omega)), zu_n _ _ _ (ne 3 4 (by omega) (by omega) (by omega) (by omega) (by omega)), zu_n _ _ _ (ne 4 5 (by omega) (by omega) (by omega) (by omega) (by omega))]
  by_cases cp : (p : Int) = s.2.2.2.2.2.2.1 + 1
  · rw [if_pos cp, show (s.2.2.2.2.2.2.1 + 1).toNat = p by omega, zu_s, zu_s, zu_s, zu_s]
    exact ⟨w8, w12, w16, w20⟩
  · rw [if_neg cp]
    have np : ¬ (s.2.2.2.2.2.2.1 + 1).toNat = p := by omega
    rw [zu_j _ _ _ _ _ np, zu_j _ _ _ _ _ np, zu_j _ _ _ _ _ np, zu_j _ _ _ _ _ np, zu_n _ _ _ (ne 3 2 (by omega) (by omega) (by omega) (by omega) (by omega)), zu_n _ _ _ (ne 4 3 (by omega) (by omega) (by omega) (by omega) (by omega)), zu_n _ _ _ (ne 4 2 (by omega) (by omega) (by omega) (by omega) (by omega)), zu_n _ _ _ (ne 5 4 (by omega) (by omega) (by omega) (by omega) (by omega)), zu_n _ _ _ (ne 5 3 (by omega) (by omega) (by omega) (by omega) (by omega)), zu_n _ _ _ (ne 5 2 (by omega) (by omega) (by omega) (by omega) (by omega)), base 2 (by omega) (by omega), base 3 (by omega) (by omega), base 4 (by omega) (by omega), base 5 (by omega) (by omega)]
    exact hg hs lS p hp1 (by omega)
end PLG
end
-- 35x31.rel20
section
section AKK
variable {T : zTn} {s : zA} {l c : Int}
/-- a late fault stays, no place more is told -/
def aK (l c : Int) (s : zA) : Prop := (s.2.2.2.1 = 0 → l = 0) ∧ s.2.2.2.2.2.2.1 = c
theorem aK_fail {n : Int} (h : aK l c s) : aK l c (aFail T n s) := by
  unfold aFail
  split
  · exact h
  · exact h
theorem aK_take {w : Int} (h : aK l c s) : aK l c (aTake T w s) := by
  unfold aTake
  split
  · exact h
  · split
    · exact aK_fail h
    · split
      · exact aK_fail h
      · exact h
theorem aK_late {n : Int} (hn : n ≠ 0) (h : aK l c s) : aK l c (aLate T n s) := by
  unfold aLate
  split
  · exact h
  · split
    · exact h
    · exact ⟨fun z => absurd z hn, h.2⟩
theorem aK_new (h : aK l c s) : aK l c (aNew T s) := by
  unfold aNew
  split
  · exact aK_take (aK_late (by decide) h)
  · exact aK_take h
theorem aK_numb {lo hi : Int} (h : aK l c s) : aK l c (aNumb T lo hi s) := by
  unfold aNumb
  split
  · exact aK_take (aK_late (by decide) h)
  · exact aK_take h
theorem aK_E : ∀ (n : Nat) (b : Bool) (o : Int) (s : zA), aK l c s → aK l c (aE T n b o s) := by
  intro n
  induction n with
  | zero => intro b o s h; rw [aE]; exact h
  | succ n ih =>
    intro b o s h
    cases b with
    | true =>
      rw [aE]
      (repeat' split) <;> first | exact h | exact ih _ _ _ (aK_take h) | exact aK_fail h
    | false =>
      rw [aE]
      (repeat' split) <;> first | exact h | exact ih _ _ _ (aK_take h) | exact aK_fail h
theorem aK_sum (h : aK l c s) : aK l c (aSum T s) := aK_E _ _ _ _ h
theorem aK_if {n : Int} (h : aK l c s) : aK l c (aIf T n s) := by
  unfold aIf
  refine aK_take (aK_sum (aK_take (aK_sum (aK_take (aK_sum (aK_take ?_))))))
  split
  · exact aK_fail h
  · exact h
theorem aK_lw : ∀ (k : Nat) (n : Int) (s : zA), aK l c s → aK l c (aLw T k n s) := by
  intro k
  induction k with
  | zero => intro n s h; exact h
  | succ k ih =>
    intro n s h
    rw [aLw]
    split
    · exact ih _ _ (aK_if h)
    · exact aK_sum h
theorem aK_mouth (h : aK l c s) : aK l c (aMouth T s) := by
  have k : ∀ s0 : zA, aK l c s0 → aK l c (if (aNew T (aTake T 0 s0)).1 = 0 then aSetM (aNew T (aTake T 0 s0)) (T.2.1 (aTake T 0 s0).2.2.1) else aNew T (aTake T 0 s0)) := fun s0 h0 => by
    have h2 : aK l c (aNew T (aTake T 0 s0)) := aK_new (aK_take h0)
    split
    · exact h2
    · exact h2
  unfold aMouth
  refine k _ ?_
  split
  · exact aK_fail h
  · exact h
theorem aK_tell (h : aK l c s) (ht : T.1 s.2.2.1 ≠ 1) : aK l c (aTell T s) := by
  unfold aTell
  refine aK_take ?_
  split
  · exact aK_mouth h
  · split
    · exact aK_lw _ _ _ (aK_take (aK_take h))
    · split
      · exact aK_numb (aK_numb (aK_take h))
      · split
        · exact aK_numb (aK_take h)
        · split
          · exact aK_numb (aK_take h)
          · exact aK_fail h
end AKK
section TLG
variable {P tk kA vA qA tt N m : Nat} {T : zTn} {σ σ' τ : zS} {s s' : zA} {W : Nat → Nat} {g : zGa}
theorem zVg.st (hg : zVg W σ s g) (hs : s'.1 = 0 → s.1 = 0) (hk : aK s.2.2.2.1 s.2.2.2.2.2.2.1 s') (hr : ∀ j, 2 ≤ j → j ≤ 5 → ∀ p, 1 ≤ p → σ'.1 (W j) p = σ.1 (W j) p) : zVg W σ' s' g := by
  intro q l p h1 h2
  rw [hr 2 (by omega) (by omega) p h1, hr 3 (by omega) (by omega) p h1, hr 4 (by omega) (by omega) p h1, hr 5 (by omega) (by omega) p h1]
  exact hg (hs q) (hk.1 l) p h1 (by rw [← hk.2]; exact h2)
theorem zVg.take {w : Int32} {n : Int} (hW : zWz W P tt σ.2.2) (hg : zVg W σ s g) : zVg W (F_X3_take P w σ) (aTake T n s) g := by
  have A1 : zFi (fun c _ => c = P) σ (F_X3_take P w σ) := fi_X3_take zFi.id rfl rfl rfl rfl rfl
  exact hg.st (fun q => (aTake_i q).1) (aK_take ⟨id, rfl⟩) (fun j h1 h2 p _ => A1.2 _ _ (hW.1 j h1 h2).2)
/-- the mouth is told in place 0 alone -/
theorem mouthR (h : zV P tk kA vA qA tt N m T σ s) (hW : zWz W P tt σ.2.2) : ∀ j, 2 ≤ j → j ≤ 5 → ∀ p, 1 ≤ p → (F_X3_mouth P σ).1 (W j) p = σ.1 (W j) p := by
  intro j h1 h2 p hp
  have tP : (σ.2.2 P 1).getD 0 = tt := by rw [h.1.1.2.1]; rfl
  have nP := (hW.1 j h1 h2).2
  have fin : ∀ (s6 : zS) (v : Int64), zFi (fun c _ => c = P) σ s6 → (F_X9_setPlace ((s6.2.2 P 1).getD 0) 0 0 0 0 0 (zu s6.1 P 6 (1 : Int32), zu s6.2.1 ((s6.2.2 ((s6.2.2 P 1).getD 0) 1).getD 0) (0 : Int32).toNatClampNeg v, s6.2.2)).1 (W j) p = σ.1 (W j) p := fun s6 v A => by
    rw [A.1, tP, setPV (W := W) (P := P) (τ := (zu s6.1 P 6 (1 : Int32), zu s6.2.1 ((σ.2.2 tt 1).getD 0) (0 : Int32).toNatClampNeg v, σ.2.2)) (n := 0) hW (by decide) (by decide)]
    have z : ∀ (f : Nat → Nat → Int32) (k : Nat) (v : Int32), zu f (W k) 0 v (W j) p = f (W j) p := fun f k v => by
      unfold zu
      split
      · next e => rw [if_neg (by omega), e]
      · rfl
    rw [z, z, z, z]
    show zu s6.1 P 6 1 (W j) p = _
    rw [zu_n _ _ _ nP]
    exact A.2 _ _ nP
  have A0 : ∀ s4, zFi (fun c _ => c = P) σ s4 → zFi (fun c _ => c = P) σ (F_X3_newName P s4).2 := fun s4 A => fi_X3_newName A rfl rfl rfl rfl rfl rfl rfl
  unfold F_X3_mouth
  simp only [zlt, zlt2]
  split
  · have A1 : zFi (fun c _ => c = P) σ (F_X3_take P 0 σ) := fi_X3_take zFi.id rfl rfl rfl rfl rfl
    split
    · exact fin _ _ (A0 _ A1)
    · exact (A0 _ A1).2 _ _ nP
  · have A1 : zFi (fun c _ => c = P) σ (F_X3_take P 0 (F_X3_fail P 2 σ)) := fi_X3_take (fi_X3_fail zFi.id rfl rfl rfl) rfl rfl rfl rfl rfl
    split
    · exact fin _ _ (A0 _ A1)
    · exact (A0 _ A1).2 _ _ nP
end TLG
end
-- 35x32.rel21
section
section TLG2
variable {P tk kA vA qA tt N m : Nat} {T : zTn} {σ σ' τ : zS} {s s' : zA} {W : Nat → Nat} {g : zGa}
/-- one telling: what the places are told -/
theorem vTellG (hd : zVd P tk kA vA qA N) (hT : zTK T m) (h : zV P tk kA vA qA tt N m T σ s) (hs : s.1 = 0) (hW : zWz W P tt σ.2.2) (hX : ∀ j, 2 ≤ j → j ≤ 5 → W j ≠ tt ∧ W j ≠ (σ.2.2 tt 6).getD 0 ∧ W j ≠ (σ.2.2 tt 7).getD 0 ∧ W j ≠ (σ.2.2 tt 9).getD 0) (hg : zVg W σ s g) : zVg W (F_X3_telling P σ) (aTell T s) (aG T s g) := by
  have r3 := (h.2.2.2 hs).2.2.1
  have tP : (σ.2.2 P 1).getD 0 = tt := by rw [h.1.1.2.1]; rfl
  have e0 : (0 : Int32).toInt = 0 := by decide
  have e1 : (1 : Int32).toInt = 1 := by decide
  by_cases ht : T.1 s.2.2.1 = 1
  · have E : F_X3_telling P σ = F_X3_take P 24 (F_X3_newPlace P σ) := by
      unfold F_X3_telling
      simp only [zlt, e1]
      rw [if_neg (by omega), if_pos (by omega)]
    have Ea : aTell T s = aTake T 24 (aPlace T s) := by
      unfold aTell
      rw [if_neg (by omega), if_pos ht]
    rw [E, Ea]
    have rp : (F_X3_newPlace P σ).2.2 = σ.2.2 := rf_X3_newPlace (R := σ.2.2) rfl
    exact (vPlaceG hd hT h hs ht hW hg).take (tt := tt) (P := P) (by rw [rp]; exact hW)
  · have eg : aG T s g = g := by
      unfold aG
      rw [if_neg (fun z => ht z.1)]
    rw [eg]
    refine hg.st (fun _ => hs) (aK_tell ⟨id, rfl⟩ ht) (fun j h1 h2 p hp => ?_)
    obtain ⟨x1, x2, x3, x4⟩ := hX j h1 h2
    have nP := (hW.1 j h1 h2).2
    obtain ⟨A, hA⟩ : ∃ A : Nat → Nat → Prop, A = fun c _ => c = P ∨ c = tt ∨ c = (σ.2.2 tt 6).getD 0 ∨ c = (σ.2.2 tt 7).getD 0 ∨ c = (σ.2.2 tt 9).getD 0 := ⟨_, rfl⟩
    have aP : ∀ i, A P i := fun i => by rw [hA]; exact Or.inl rfl
    have aT : ∀ i, A tt i := fun i => by rw [hA]; exact Or.inr (Or.inl rfl)
    have done : ∀ σ', zFi A σ σ' → σ'.1 (W j) p = σ.1 (W j) p := fun σ' q => q.2 _ _ (by
      rw [hA]
      rintro (z | z | z | z | z)
      · exact nP z
      · exact x1 z
      · exact x2 z
      · exact x3 z
      · exact x4 z)
    have tk : ∀ w s0, zFi A σ s0 → zFi A σ (F_X3_take P w s0) := fun w s0 q => fi_X3_take q (aP _) (aP _) (aP _) (aP _) (aP _)
    have nu : ∀ lo hi s0, zFi A σ s0 → zFi A σ (F_X3_number P lo hi s0).2 := fun lo hi s0 q => fi_X3_number q (aP _) (aP _) (aP _) (aP _) (aP _) (aP _) (aP _)
    have fa : ∀ w s0, zFi A σ s0 → zFi A σ (F_X3_fail P w s0) := fun w s0 q => fi_X3_fail q (aP _) (aP _) (aP _)
    have lw : ∀ w s0, zFi A σ s0 → zFi A σ (F_X3_law P w s0) := fun w s0 q => fi_X3_law q (aP _) (aP _) (aP _) (aP _) (aP _) (fun i => by rw [tP, hA]; exact Or.inr (Or.inr (Or.inl rfl))) (fun i => by rw [tP, hA]; exact Or.inr (Or.inr (Or.inr (Or.inl rfl)))) (by rw [tP]; exact aT _) (fun i => by rw [tP, hA]; exact Or.inr (Or.inr (Or.inr (Or.inr rfl))))
    have st : ∀ (s0 s1 : zS) i v, zFi A σ s0 → zFi A σ s1 → zFi A σ (zu s1.1 ((s0.2.2 P 1).getD 0) i v, s1.2.1, s1.2.2) := fun s0 s1 i v q0 q1 => q1.w (by rw [q0.1, tP]; exact aT _)
    unfold F_X3_telling
    simp only [zlt, zlt2, e0, e1]
    rw [if_neg (show ¬ (σ.1 P 3).toInt = 1 from fun z => ht (r3.symm.trans z))]
    split
    · have A2 : zFi (fun c _ => c = P) (F_X3_mouth P σ) (F_X3_take P 24 (F_X3_mouth P σ)) := fi_X3_take zFi.id rfl rfl rfl rfl rfl
      rw [A2.2 _ _ nP]
      exact mouthR h hW j h1 h2 p hp
    · split
      · split
        · exact done _ (tk _ _ (st _ _ _ _ (nu _ _ _ (tk _ _ zFi.id)) (nu _ _ _ (st _ _ _ _ (tk _ _ zFi.id) (nu _ _ _ (tk _ _ zFi.id))))))
        · split
          · exact done _ (tk _ _ (st _ _ _ _ (tk _ _ zFi.id) (nu _ _ _ (tk _ _ zFi.id))))
          · split
            · exact done _ (tk _ _ (st _ _ _ _ (tk _ _ zFi.id) (nu _ _ _ (tk _ _ zFi.id))))
            · exact done _ (tk _ _ (fa _ _ zFi.id))
      · exact done _ (tk _ _ (lw _ _ zFi.id))
end TLG2
end
-- 35x33.rel22
section
section TLG3
variable {P tk kA vA qA tt N m : Nat} {T : zTn} {σ σ' τ : zS} {s s' : zA} {W : Nat → Nat} {g : zGa}
def zXz (W : Nat → Nat) (tt : Nat) (R : Nat → Nat → Option Nat) : Prop := ∀ j, 2 ≤ j → j ≤ 5 → W j ≠ tt ∧ W j ≠ (R tt 6).getD 0 ∧ W j ≠ (R tt 7).getD 0 ∧ W j ≠ (R tt 9).getD 0
end TLG3
end
-- 35x34.rel23
section
/-! WHAT A PLACE IS TOLD, the reference's side: values -/
section RTG
variable {a k q v nm nO m : Nat} {T : zTn} {τ τ' : zS} {s s' : zA}
theorem aNumb_k {lo hi : Int} (h : (aNumb T lo hi s).1 = 0) : T.1 s.2.2.1 = 23 := by
  unfold aNumb at h
  have q := (aTake_i h).2.1
  split at q
  · have e : (aLate T 5 s).2.2.1 = s.2.2.1 := by
      unfold aLate
      split
      · rfl
      · split <;> rfl
    rw [e] at q
    exact q
  · exact q
theorem xBoundV (hT : zTm T m) (h : zXo a k q v nm nO m T τ s) (lo hi : Int32) {l u : Int} (hz : (aNumb T l u s).1 = 0) : (F_X11_bounded a lo hi τ).1.toInt = T.2.2.1 s.2.2.1 := by
  have hs := (aNumb_i hz).1
  have c1 := aNumb_k hz
  have e7 : (τ.2.2 a 7).getD 0 = v := by rw [h.1.1.1.2.2.1]; rfl
  obtain ⟨r1, r2, -⟩ := h.1.2.2.2.2 hs
  have ei : (τ.1 a 11).toNatClampNeg = s.2.2.1 := by rw [ztn, r2]; rfl
  have i2 := wIs hT h.1 2 23 (by decide) (by decide)
  have val := (h.1.1.2.1 _ r1).2.2.1 c1
  unfold F_X11_bounded
  simp only [zlt, zlt2, e7]
  rw [if_neg (by rw [h.1.2.1]; omega), ei, if_neg (show ¬ (F_X11_is a 2 τ).toInt = 0 by rw [i2]; exact fun z => z ⟨hs, c1⟩)]
  split
  · exact val
  · split
    · exact val
    · exact val
end RTG
end
-- 35x35.fi3
section
set_option maxRecDepth 100000 in
theorem fi_X9_setPlace {A : Nat → Nat → Prop} {σ σ0 : zS} {a0 : Nat} {p1 : Int32} {p2 : Int32} {p3 : Int32} {p4 : Int32} {p5 : Int32}  (g : zFi A σ σ0) (h0 : ∀ j, A ((σ.2.2 a0 2).getD 0) j) (h1 : ∀ j, A ((σ.2.2 a0 3).getD 0) j) (h2 : ∀ j, A ((σ.2.2 a0 4).getD 0) j) (h3 : ∀ j, A ((σ.2.2 a0 5).getD 0) j) : zFi A σ (F_X9_setPlace a0 p1 p2 p3 p4 p5 σ0) := by
  unfold F_X9_setPlace
  refine zFi_if (fun _ => ?_) (fun _ => ?_)
  · skip
    exact g
  · skip
    refine zFi_let (fun v2 _ => ?_)
    refine zFi_if (fun _ => ?_) (fun _ => ?_)
    · skip
      refine zFi_let (fun v5 ev5 => ?_)
      rw [g.rf] at ev5
      subst ev5
      refine zFi_let (fun s6 es6 => ?_)
      have gs6 : zFi A σ s6 := by rw [es6]; exact g.w (h0 _)
      refine zFi_let (fun v7 ev7 => ?_)
      rw [gs6.rf] at ev7
      subst ev7
      refine zFi_let (fun s8 es8 => ?_)
      have gs8 : zFi A σ s8 := by rw [es8]; exact gs6.w (h1 _)
      refine zFi_let (fun v9 ev9 => ?_)
      rw [gs8.rf] at ev9
      subst ev9
      refine zFi_let (fun s10 es10 => ?_)
      have gs10 : zFi A σ s10 := by rw [es10]; exact gs8.w (h2 _)
      refine zFi_let (fun v11 ev11 => ?_)
      rw [gs10.rf] at ev11
      subst ev11
      refine zFi_let (fun s12 es12 => ?_)
      have gs12 : zFi A σ s12 := by rw [es12]; exact gs10.w (h3 _)
      exact gs12
    · skip
      exact g
set_option maxRecDepth 100000 in
theorem fi_X3_mouth {A : Nat → Nat → Prop} {σ σ0 : zS} {a0 : Nat}  (g : zFi A σ σ0) (h0 : A a0 2) (h1 : A a0 3) (h2 : A a0 5) (h3 : A a0 8) (h4 : A a0 9) (h5 : A a0 10) (h6 : A a0 11) (h7 : A a0 6) (h8 : ∀ j, A ((σ.2.2 ((σ.2.2 a0 1).getD 0) 2).getD 0) j) (h9 : ∀ j, A ((σ.2.2 ((σ.2.2 a0 1).getD 0) 3).getD 0) j) (h10 : ∀ j, A ((σ.2.2 ((σ.2.2 a0 1).getD 0) 4).getD 0) j) (h11 : ∀ j, A ((σ.2.2 ((σ.2.2 a0 1).getD 0) 5).getD 0) j) : zFi A σ (F_X3_mouth a0 σ0) := by
  unfold F_X3_mouth
  refine zFi_let (fun v1 _ => ?_)
  refine zFi_if (fun _ => ?_) (fun _ => ?_)
  · skip
    refine zFi_let (fun v3 _ => ?_)
    refine zFi_let (fun s4 es4 => ?_)
    have gs4 : zFi A σ s4 := by rw [es4]; exact fi_X3_take g h0 h1 h2 h3 h4
    refine zFi_let2 (fun v5 s6 es6 => ?_)
    have gs6 : zFi A σ s6 := (fi_X3_newName gs4 h0 h1 h2 h3 h4 h5 h6).of es6
    refine zFi_let (fun v7 _ => ?_)
    refine zFi_if (fun _ => ?_) (fun _ => ?_)
    · skip
      refine zFi_let (fun v9 _ => ?_)
      refine zFi_let (fun s10 es10 => ?_)
      have gs10 : zFi A σ s10 := by rw [es10]; exact gs6.w h7
      refine zFi_let (fun v11 ev11 => ?_)
      rw [gs10.rf] at ev11
      subst ev11
      refine zFi_let (fun v12 ev12 => ?_)
      rw [gs10.rf] at ev12
      subst ev12
      refine zFi_let (fun v13 _ => ?_)
      refine zFi_let (fun s14 es14 => ?_)
      have gs14 : zFi A σ s14 := by rw [es14]; exact gs10
      refine zFi_let (fun v15 ev15 => ?_)
      rw [gs14.rf] at ev15
      subst ev15
      refine zFi_let (fun v16 _ => ?_)
      refine zFi_let (fun v17 _ => ?_)
      refine zFi_let (fun v18 _ => ?_)
      refine zFi_let (fun v19 _ => ?_)
      refine zFi_let (fun v20 _ => ?_)
      refine zFi_let (fun s21 es21 => ?_)
      have gs21 : zFi A σ s21 := by rw [es21]; exact fi_X9_setPlace gs14 h8 h9 h10 h11
      exact gs21
    · skip
      exact gs6
  · skip
    refine zFi_let (fun v22 _ => ?_)
    refine zFi_let (fun s23 es23 => ?_)
    have gs23 : zFi A σ s23 := by rw [es23]; exact fi_X3_fail g h3 h4 h1
    refine zFi_let (fun v24 _ => ?_)
    refine zFi_let (fun s25 es25 => ?_)
    have gs25 : zFi A σ s25 := by rw [es25]; exact fi_X3_take gs23 h0 h1 h2 h3 h4
    refine zFi_let2 (fun v26 s27 es27 => ?_)
    have gs27 : zFi A σ s27 := (fi_X3_newName gs25 h0 h1 h2 h3 h4 h5 h6).of es27
    refine zFi_let (fun v28 _ => ?_)
    refine zFi_if (fun _ => ?_) (fun _ => ?_)
    · skip
      refine zFi_let (fun v30 _ => ?_)
      refine zFi_let (fun s31 es31 => ?_)
      have gs31 : zFi A σ s31 := by rw [es31]; exact gs27.w h7
      refine zFi_let (fun v32 ev32 => ?_)
      rw [gs31.rf] at ev32
      subst ev32
      refine zFi_let (fun v33 ev33 => ?_)
      rw [gs31.rf] at ev33
      subst ev33
      refine zFi_let (fun v34 _ => ?_)
      refine zFi_let (fun s35 es35 => ?_)
      have gs35 : zFi A σ s35 := by rw [es35]; exact gs31
      refine zFi_let (fun v36 ev36 => ?_)
      rw [gs35.rf] at ev36
      subst ev36
      refine zFi_let (fun v37 _ => ?_)
      refine zFi_let (fun v38 _ => ?_)
      refine zFi_let (fun v39 _ => ?_)
      refine zFi_let (fun v40 _ => ?_)
      refine zFi_let (fun v41 _ => ?_)
      refine zFi_let (fun s42 es42 => ?_)
      have gs42 : zFi A σ s42 := by rw [es42]; exact fi_X9_setPlace gs35 h8 h9 h10 h11
      exact gs42
    · skip
      exact gs27
set_option maxRecDepth 100000 in
theorem fi_X3_newPlace {A : Nat → Nat → Prop} {σ σ0 : zS} {a0 : Nat}  (g : zFi A σ σ0) (h0 : A a0 2) (h1 : A a0 3) (h2 : A a0 5) (h3 : A a0 8) (h4 : A a0 9) (h5 : A a0 10) (h6 : A a0 11) (h7 : A a0 7) (h8 : ∀ j, A ((σ.2.2 ((σ.2.2 a0 1).getD 0) 2).getD 0) j) (h9 : ∀ j, A ((σ.2.2 ((σ.2.2 a0 1).getD 0) 3).getD 0) j) (h10 : ∀ j, A ((σ.2.2 ((σ.2.2 a0 1).getD 0) 4).getD 0) j) (h11 : ∀ j, A ((σ.2.2 ((σ.2.2 a0 1).getD 0) 5).getD 0) j) : zFi A σ (F_X3_newPlace a0 σ0) := by
  unfold F_X3_newPlace
  refine zFi_let (fun v1 _ => ?_)
  refine zFi_let (fun v2 _ => ?_)
  refine zFi_if (fun _ => ?_) (fun _ => ?_)
  · skip
    refine zFi_let (fun v4 _ => ?_)
    refine zFi_let (fun s5 es5 => ?_)
    have gs5 : zFi A σ s5 := by rw [es5]; exact fi_X3_take g h0 h1 h2 h3 h4
    refine zFi_let2 (fun v6 s7 es7 => ?_)
    have gs7 : zFi A σ s7 := (fi_X3_newName gs5 h0 h1 h2 h3 h4 h5 h6).of es7
    refine zFi_let2 (fun v8 s9 es9 => ?_)
    have gs9 : zFi A σ s9 := (fi_X3_knownName gs7 h5 h6 h0 h1 h2 h3 h4).of es9
    refine zFi_let (fun v10 _ => ?_)
    refine zFi_let (fun v11 _ => ?_)
    refine zFi_let2 (fun v12 s13 es13 => ?_)
    have gs13 : zFi A σ s13 := (fi_X3_number gs9 h5 h6 h0 h1 h2 h3 h4).of es13
    refine zFi_let (fun v14 _ => ?_)
    refine zFi_let (fun v15 _ => ?_)
    refine zFi_let2 (fun v16 s17 es17 => ?_)
    have gs17 : zFi A σ s17 := (fi_X3_number gs13 h5 h6 h0 h1 h2 h3 h4).of es17
    refine zFi_let (fun v18 _ => ?_)
    refine zFi_let (fun v19 _ => ?_)
    refine zFi_let2 (fun v20 s21 es21 => ?_)
    have gs21 : zFi A σ s21 := (fi_X3_number gs17 h5 h6 h0 h1 h2 h3 h4).of es21
    refine zFi_let (fun v22 _ => ?_)
    refine zFi_if (fun _ => ?_) (fun _ => ?_)
    · skip
      refine zFi_let (fun v24 _ => ?_)
      refine zFi_let (fun v25 _ => ?_)
      refine zFi_if (fun _ => ?_) (fun _ => ?_)
      · skip
        refine zFi_let (fun v27 _ => ?_)
        refine zFi_let (fun v28 _ => ?_)
        refine zFi_let (fun v29 _ => ?_)
        refine zFi_let (fun s30 es30 => ?_)
        have gs30 : zFi A σ s30 := by rw [es30]; exact gs21.w h7
        refine zFi_let (fun v33 ev33 => ?_)
        rw [gs30.rf] at ev33
        subst ev33
        refine zFi_let (fun v34 ev34 => ?_)
        rw [gs30.rf] at ev34
        subst ev34
        refine zFi_let (fun v35 _ => ?_)
        refine zFi_let (fun s36 es36 => ?_)
        have gs36 : zFi A σ s36 := by rw [es36]; exact gs30
        refine zFi_let (fun v38 ev38 => ?_)
        rw [gs36.rf] at ev38
        subst ev38
        refine zFi_let (fun v39 _ => ?_)
        refine zFi_let (fun s40 es40 => ?_)
        have gs40 : zFi A σ s40 := by rw [es40]; exact fi_X9_setPlace gs36 h8 h9 h10 h11
        exact gs40
      · skip
        exact gs21
    · skip
      exact gs21
  · skip
    refine zFi_let (fun v41 _ => ?_)
    refine zFi_let (fun s42 es42 => ?_)
    have gs42 : zFi A σ s42 := by rw [es42]; exact fi_X3_fail g h3 h4 h1
    refine zFi_let (fun v43 _ => ?_)
    refine zFi_let (fun s44 es44 => ?_)
    have gs44 : zFi A σ s44 := by rw [es44]; exact fi_X3_take gs42 h0 h1 h2 h3 h4
    refine zFi_let2 (fun v45 s46 es46 => ?_)
    have gs46 : zFi A σ s46 := (fi_X3_newName gs44 h0 h1 h2 h3 h4 h5 h6).of es46
    refine zFi_let2 (fun v47 s48 es48 => ?_)
    have gs48 : zFi A σ s48 := (fi_X3_knownName gs46 h5 h6 h0 h1 h2 h3 h4).of es48
    refine zFi_let (fun v49 _ => ?_)
    refine zFi_let (fun v50 _ => ?_)
    refine zFi_let2 (fun v51 s52 es52 => ?_)
    have gs52 : zFi A σ s52 := (fi_X3_number gs48 h5 h6 h0 h1 h2 h3 h4).of es52
    refine zFi_let (fun v53 _ => ?_)
    refine zFi_let (fun v54 _ => ?_)
    refine zFi_let2 (fun v55 s56 es56 => ?_)
    have gs56 : zFi A σ s56 := (fi_X3_number gs52 h5 h6 h0 h1 h2 h3 h4).of es56
    refine zFi_let (fun v57 _ => ?_)
    refine zFi_let (fun v58 _ => ?_)
    refine zFi_let2 (fun v59 s60 es60 => ?_)
    have gs60 : zFi A σ s60 := (fi_X3_number gs56 h5 h6 h0 h1 h2 h3 h4).of es60
    refine zFi_let (fun v61 _ => ?_)
    refine zFi_if (fun _ => ?_) (fun _ => ?_)
    · skip
      refine zFi_let (fun v63 _ => ?_)
      refine zFi_let (fun v64 _ => ?_)
      refine zFi_if (fun _ => ?_) (fun _ => ?_)
      · skip
        refine zFi_let (fun v66 _ => ?_)
        refine zFi_let (fun v67 _ => ?_)
        refine zFi_let (fun v68 _ => ?_)
        refine zFi_let (fun s69 es69 => ?_)
        have gs69 : zFi A σ s69 := by rw [es69]; exact gs60.w h7
        refine zFi_let (fun v72 ev72 => ?_)
        rw [gs69.rf] at ev72
        subst ev72
        refine zFi_let (fun v73 ev73 => ?_)
        rw [gs69.rf] at ev73
        subst ev73
        refine zFi_let (fun v74 _ => ?_)
        refine zFi_let (fun s75 es75 => ?_)
        have gs75 : zFi A σ s75 := by rw [es75]; exact gs69
        refine zFi_let (fun v77 ev77 => ?_)
        rw [gs75.rf] at ev77
        subst ev77
        refine zFi_let (fun v78 _ => ?_)
        refine zFi_let (fun s79 es79 => ?_)
        have gs79 : zFi A σ s79 := by rw [es79]; exact fi_X9_setPlace gs75 h8 h9 h10 h11
        exact gs79
      · skip
        exact gs60
    · skip
      exact gs60
set_option maxRecDepth 100000 in
theorem fi_X3_telling {A : Nat → Nat → Prop} {σ σ0 : zS} {a0 : Nat}  (g : zFi A σ σ0) (h0 : A a0 2) (h1 : A a0 3) (h2 : A a0 5) (h3 : A a0 8) (h4 : A a0 9) (h5 : A a0 10) (h6 : A a0 11) (h7 : A a0 6) (h8 : ∀ j, A ((σ.2.2 ((σ.2.2 a0 1).getD 0) 2).getD 0) j) (h9 : ∀ j, A ((σ.2.2 ((σ.2.2 a0 1).getD 0) 3).getD 0) j) (h10 : ∀ j, A ((σ.2.2 ((σ.2.2 a0 1).getD 0) 4).getD 0) j) (h11 : ∀ j, A ((σ.2.2 ((σ.2.2 a0 1).getD 0) 5).getD 0) j) (h12 : A a0 7) (h13 : A ((σ.2.2 a0 1).getD 0) 10) (h14 : A ((σ.2.2 a0 1).getD 0) 11) (h15 : A ((σ.2.2 a0 1).getD 0) 12) (h16 : A ((σ.2.2 a0 1).getD 0) 13) (h17 : ∀ j, A ((σ.2.2 ((σ.2.2 a0 1).getD 0) 6).getD 0) j) (h18 : ∀ j, A ((σ.2.2 ((σ.2.2 a0 1).getD 0) 7).getD 0) j) (h19 : A (((σ.2.2 a0 1).getD 0)) 8) (h20 : ∀ j, A ((σ.2.2 ((σ.2.2 a0 1).getD 0) 9).getD 0) j) : zFi A σ (F_X3_telling a0 σ0) := by
  unfold F_X3_telling
  refine zFi_let (fun v1 _ => ?_)
  refine zFi_if (fun _ => ?_) (fun _ => ?_)
  · skip
    refine zFi_let (fun s69 es69 => ?_)
    have gs69 : zFi A σ s69 := by rw [es69]; exact fi_X3_mouth g h0 h1 h2 h3 h4 h5 h6 h7 h8 h9 h10 h11
    refine zFi_let (fun v70 _ => ?_)
    refine zFi_let (fun s71 es71 => ?_)
    have gs71 : zFi A σ s71 := by rw [es71]; exact fi_X3_take gs69 h0 h1 h2 h3 h4
    exact gs71
  · skip
    refine zFi_let (fun v3 _ => ?_)
    refine zFi_let (fun v4 _ => ?_)
    refine zFi_if (fun _ => ?_) (fun _ => ?_)
    · skip
      refine zFi_let (fun s66 es66 => ?_)
      have gs66 : zFi A σ s66 := by rw [es66]; exact fi_X3_newPlace g h0 h1 h2 h3 h4 h5 h6 h12 h8 h9 h10 h11
      refine zFi_let (fun v67 _ => ?_)
      refine zFi_let (fun s68 es68 => ?_)
      have gs68 : zFi A σ s68 := by rw [es68]; exact fi_X3_take gs66 h0 h1 h2 h3 h4
      exact gs68
    · skip
      refine zFi_let (fun v6 _ => ?_)
      refine zFi_let (fun v7 _ => ?_)
      refine zFi_let (fun v8 _ => ?_)
      refine zFi_let (fun v9 _ => ?_)
      refine zFi_if (fun _ => ?_) (fun _ => ?_)
      · skip
        refine zFi_let (fun v11 _ => ?_)
        refine zFi_let (fun v12 _ => ?_)
        refine zFi_if (fun _ => ?_) (fun _ => ?_)
        · skip
          refine zFi_let (fun v44 _ => ?_)
          refine zFi_let (fun s45 es45 => ?_)
          have gs45 : zFi A σ s45 := by rw [es45]; exact fi_X3_take g h0 h1 h2 h3 h4
          refine zFi_let (fun v46 ev46 => ?_)
          rw [gs45.rf] at ev46
          subst ev46
          refine zFi_let (fun v47 _ => ?_)
          refine zFi_let (fun v48 _ => ?_)
          refine zFi_let2 (fun v49 s50 es50 => ?_)
          have gs50 : zFi A σ s50 := (fi_X3_number gs45 h5 h6 h0 h1 h2 h3 h4).of es50
          refine zFi_let (fun s51 es51 => ?_)
          have gs51 : zFi A σ s51 := by rw [es51]; exact gs50.w h13
          refine zFi_let (fun v52 ev52 => ?_)
          rw [gs51.rf] at ev52
          subst ev52
          refine zFi_let (fun v53 _ => ?_)
          refine zFi_let (fun v54 _ => ?_)
          refine zFi_let2 (fun v55 s56 es56 => ?_)
          have gs56 : zFi A σ s56 := (fi_X3_number gs51 h5 h6 h0 h1 h2 h3 h4).of es56
          refine zFi_let (fun s57 es57 => ?_)
          have gs57 : zFi A σ s57 := by rw [es57]; exact gs56.w h14
          refine zFi_let (fun v58 _ => ?_)
          refine zFi_let (fun s59 es59 => ?_)
          have gs59 : zFi A σ s59 := by rw [es59]; exact fi_X3_take gs57 h0 h1 h2 h3 h4
          exact gs59
        · skip
          refine zFi_let (fun v14 _ => ?_)
          refine zFi_let (fun v15 _ => ?_)
          refine zFi_if (fun _ => ?_) (fun _ => ?_)
          · skip
            refine zFi_let (fun v34 _ => ?_)
            refine zFi_let (fun s35 es35 => ?_)
            have gs35 : zFi A σ s35 := by rw [es35]; exact fi_X3_take g h0 h1 h2 h3 h4
            refine zFi_let (fun v36 ev36 => ?_)
            rw [gs35.rf] at ev36
            subst ev36
            refine zFi_let (fun v37 _ => ?_)
            refine zFi_let (fun v38 _ => ?_)
            refine zFi_let2 (fun v39 s40 es40 => ?_)
            have gs40 : zFi A σ s40 := (fi_X3_number gs35 h5 h6 h0 h1 h2 h3 h4).of es40
            refine zFi_let (fun s41 es41 => ?_)
            have gs41 : zFi A σ s41 := by rw [es41]; exact gs40.w h15
            refine zFi_let (fun v42 _ => ?_)
            refine zFi_let (fun s43 es43 => ?_)
            have gs43 : zFi A σ s43 := by rw [es43]; exact fi_X3_take gs41 h0 h1 h2 h3 h4
            exact gs43
          · skip
            refine zFi_let (fun v17 _ => ?_)
            refine zFi_let (fun v18 _ => ?_)
            refine zFi_if (fun _ => ?_) (fun _ => ?_)
            · skip
              refine zFi_let (fun v24 _ => ?_)
              refine zFi_let (fun s25 es25 => ?_)
              have gs25 : zFi A σ s25 := by rw [es25]; exact fi_X3_take g h0 h1 h2 h3 h4
              refine zFi_let (fun v26 ev26 => ?_)
              rw [gs25.rf] at ev26
              subst ev26
              refine zFi_let (fun v27 _ => ?_)
              refine zFi_let (fun v28 _ => ?_)
              refine zFi_let2 (fun v29 s30 es30 => ?_)
              have gs30 : zFi A σ s30 := (fi_X3_number gs25 h5 h6 h0 h1 h2 h3 h4).of es30
              refine zFi_let (fun s31 es31 => ?_)
              have gs31 : zFi A σ s31 := by rw [es31]; exact gs30.w h16
              refine zFi_let (fun v32 _ => ?_)
              refine zFi_let (fun s33 es33 => ?_)
              have gs33 : zFi A σ s33 := by rw [es33]; exact fi_X3_take gs31 h0 h1 h2 h3 h4
              exact gs33
            · skip
              refine zFi_let (fun v20 _ => ?_)
              refine zFi_let (fun s21 es21 => ?_)
              have gs21 : zFi A σ s21 := by rw [es21]; exact fi_X3_fail g h3 h4 h1
              refine zFi_let (fun v22 _ => ?_)
              refine zFi_let (fun s23 es23 => ?_)
              have gs23 : zFi A σ s23 := by rw [es23]; exact fi_X3_take gs21 h0 h1 h2 h3 h4
              exact gs23
      · skip
        refine zFi_let (fun v60 _ => ?_)
        refine zFi_let (fun v61 _ => ?_)
        refine zFi_let (fun v62 _ => ?_)
        refine zFi_let (fun s63 es63 => ?_)
        have gs63 : zFi A σ s63 := by rw [es63]; exact fi_X3_law g h0 h1 h2 h3 h4 h17 h18 h19 h20
        refine zFi_let (fun v64 _ => ?_)
        refine zFi_let (fun s65 es65 => ?_)
        have gs65 : zFi A σ s65 := by rw [es65]; exact fi_X3_take gs63 h0 h1 h2 h3 h4
        exact gs65
set_option maxRecDepth 100000 in
theorem fi_X8_pastBlanks_2 {A : Nat → Nat → Prop} {σ : zS} {p1 : Nat} {p2 : Int32} {p3 : Int32}   : ∀ (n : Nat) (x1 : Int32) (τ2 : zS), zFi A σ τ2 → zFj A σ (F_X8_pastBlanks_2 p1 p2 p3 n x1 τ2) := by
  intro n
  induction n with
  | zero => intro x1 τ2 g; exact g
  | succ n ih =>
    intro x1 τ2 g
    rw [F_X8_pastBlanks_2]
    refine zFj_if (fun _ => ?_) (fun _ => ?_)
    · skip
      refine zFj_let (fun v5 _ => ?_)
      refine zFj_let (fun v6 _ => ?_)
      refine zFj_if (fun _ => ?_) (fun _ => ?_)
      · skip
        refine zFj_let (fun v8 _ => ?_)
        exact ih _ _ g
      · skip
        refine zFj_let (fun v9 _ => ?_)
        refine zFj_let (fun v10 _ => ?_)
        refine zFj_if (fun _ => ?_) (fun _ => ?_)
        · skip
          refine zFj_let (fun v12 _ => ?_)
          exact ih _ _ g
        · skip
          refine zFj_let (fun v13 _ => ?_)
          refine zFj_let (fun v14 _ => ?_)
          refine zFj_if (fun _ => ?_) (fun _ => ?_)
          · skip
            refine zFj_let (fun v16 _ => ?_)
            exact ih _ _ g
          · skip
            refine zFj_let (fun v17 _ => ?_)
            refine zFj_let (fun v18 _ => ?_)
            refine zFj_if (fun _ => ?_) (fun _ => ?_)
            · skip
              refine zFj_let (fun v20 _ => ?_)
              exact ih _ _ g
            · skip
              exact g
    · skip
      exact g
set_option maxRecDepth 100000 in
theorem fi_X8_pastBlanks {A : Nat → Nat → Prop} {σ σ0 : zS} {p1 : Nat} {p2 : Int32} {p3 : Int32}  (g : zFi A σ σ0)  : zFj A σ (F_X8_pastBlanks p1 p2 p3 σ0) := by
  unfold F_X8_pastBlanks
  exact fi_X8_pastBlanks_2   _ _ _ g
set_option maxRecDepth 100000 in
theorem fi_X8_add {A : Nat → Nat → Prop} {σ σ0 : zS} {a0 : Nat} {p1 : Int32} {p2 : Int64} {p3 : Int32}  (g : zFi A σ σ0) (h0 : ∀ j, A ((σ.2.2 a0 1).getD 0) j) (h1 : ∀ j, A ((σ.2.2 a0 3).getD 0) j) (h2 : A a0 4) : zFi A σ (F_X8_add a0 p1 p2 p3 σ0) := by
  unfold F_X8_add
  refine zFi_let (fun v1 _ => ?_)
  refine zFi_let (fun v2 ev2 => ?_)
  rw [g.rf] at ev2
  subst ev2
  refine zFi_let (fun v3 _ => ?_)
  refine zFi_if (fun _ => ?_) (fun _ => ?_)
  · skip
    refine zFi_let (fun v5 ev5 => ?_)
    rw [g.rf] at ev5
    subst ev5
    refine zFi_let (fun v6 _ => ?_)
    refine zFi_let (fun s7 es7 => ?_)
    have gs7 : zFi A σ s7 := by rw [es7]; exact g.w (h0 _)
    refine zFi_let (fun v9 ev9 => ?_)
    rw [gs7.rf] at ev9
    subst ev9
    refine zFi_let (fun v10 _ => ?_)
    refine zFi_let (fun s11 es11 => ?_)
    have gs11 : zFi A σ s11 := by rw [es11]; exact gs7
    refine zFi_let (fun v13 ev13 => ?_)
    rw [gs11.rf] at ev13
    subst ev13
    refine zFi_let (fun v14 _ => ?_)
    refine zFi_let (fun s15 es15 => ?_)
    have gs15 : zFi A σ s15 := by rw [es15]; exact gs11.w (h1 _)
    refine zFi_let (fun v17 _ => ?_)
    refine zFi_let (fun v18 _ => ?_)
    refine zFi_let (fun v19 _ => ?_)
    refine zFi_let (fun s20 es20 => ?_)
    have gs20 : zFi A σ s20 := by rw [es20]; exact gs15.w h2
    exact gs20
  · skip
    exact g
set_option maxRecDepth 100000 in
theorem fi_X8_addDigits_6 {A : Nat → Nat → Prop} {σ : zS} {a0 : Nat} {p1 : Nat} {p2 : Int32} {p3 : Int32}  (h0 : ∀ j, A ((σ.2.2 a0 1).getD 0) j) (h1 : ∀ j, A ((σ.2.2 a0 3).getD 0) j) (h2 : A a0 4) : ∀ (n : Nat) (x2 : Int32) (x3 : Int32) (τ4 : zS), zFi A σ τ4 → zFj A σ (F_X8_addDigits_6 a0 p1 p2 p3 n x2 x3 τ4) := by
  intro n
  induction n with
  | zero => intro x2 x3 τ4 g; exact g
  | succ n ih =>
    intro x2 x3 τ4 g
    rw [F_X8_addDigits_6]
    refine zFj_if (fun _ => ?_) (fun _ => ?_)
    · skip
      refine zFj_let (fun v16 _ => ?_)
      refine zFj_let (fun v17 _ => ?_)
      refine zFj_if (fun _ => ?_) (fun _ => ?_)
      · skip
        refine zFj_let (fun v19 _ => ?_)
        refine zFj_let (fun v20 _ => ?_)
        refine zFj_if (fun _ => ?_) (fun _ => ?_)
        · skip
          refine zFj_let (fun v25 _ => ?_)
          refine zFj_let (fun v26 _ => ?_)
          refine zFj_let (fun s27 es27 => ?_)
          have gs27 : zFi A σ s27 := by rw [es27]; exact fi_X8_add g h0 h1 h2
          exact gs27
        · skip
          refine zFj_let (fun v22 _ => ?_)
          refine zFj_let (fun v23 _ => ?_)
          refine zFj_let (fun s24 es24 => ?_)
          have gs24 : zFi A σ s24 := by rw [es24]; exact fi_X8_add g h0 h1 h2
          exact gs24
      · skip
        refine zFj_let (fun v28 _ => ?_)
        refine zFj_let (fun v29 _ => ?_)
        refine zFj_if (fun _ => ?_) (fun _ => ?_)
        · skip
          refine zFj_let (fun v33 _ => ?_)
          refine zFj_let (fun v34 _ => ?_)
          refine zFj_let (fun v35 _ => ?_)
          refine zFj_let (fun v36 _ => ?_)
          refine zFj_let (fun v37 _ => ?_)
          refine zFj_let (fun v38 _ => ?_)
          refine zFj_let (fun v39 _ => ?_)
          exact ih _ _ _ g
        · skip
          refine zFj_let (fun v31 _ => ?_)
          refine zFj_let (fun v32 _ => ?_)
          exact ih _ _ _ g
    · skip
      refine zFj_let (fun v7 _ => ?_)
      refine zFj_let (fun v8 _ => ?_)
      refine zFj_if (fun _ => ?_) (fun _ => ?_)
      · skip
        refine zFj_let (fun v13 _ => ?_)
        refine zFj_let (fun v14 _ => ?_)
        refine zFj_let (fun s15 es15 => ?_)
        have gs15 : zFi A σ s15 := by rw [es15]; exact fi_X8_add g h0 h1 h2
        exact gs15
      · skip
        refine zFj_let (fun v10 _ => ?_)
        refine zFj_let (fun v11 _ => ?_)
        refine zFj_let (fun s12 es12 => ?_)
        have gs12 : zFi A σ s12 := by rw [es12]; exact fi_X8_add g h0 h1 h2
        exact gs12
set_option maxRecDepth 100000 in
theorem fi_X8_addDigits {A : Nat → Nat → Prop} {σ σ0 : zS} {a0 : Nat} {p1 : Nat} {p2 : Int32} {p3 : Int32}  (g : zFi A σ σ0) (h0 : ∀ j, A ((σ.2.2 a0 1).getD 0) j) (h1 : ∀ j, A ((σ.2.2 a0 3).getD 0) j) (h2 : A a0 4) : zFj A σ (F_X8_addDigits a0 p1 p2 p3 σ0) := by
  unfold F_X8_addDigits
  refine zFj_let (fun v1 _ => ?_)
  exact fi_X8_addDigits_6  h0 h1 h2 _ _ _ _ g
set_option maxRecDepth 100000 in
theorem fi_X8_kindOf_6 {A : Nat → Nat → Prop} {σ : zS} {a0 : Nat} {p1 : Int64}   : ∀ (n : Nat) (x3 : Int32) (x4 : Int32) (τ5 : zS), zFi A σ τ5 → zFj A σ (F_X8_kindOf_6 a0 p1 n x3 x4 τ5) := by
  intro n
  induction n with
  | zero => intro x3 x4 τ5 g; exact g
  | succ n ih =>
    intro x3 x4 τ5 g
    rw [F_X8_kindOf_6]
    refine zFj_let (fun v6 _ => ?_)
    refine zFj_if (fun _ => ?_) (fun _ => ?_)
    · skip
      refine zFj_let (fun v8 ev8 => ?_)
      rw [g.rf] at ev8
      subst ev8
      refine zFj_let (fun v9 _ => ?_)
      refine zFj_let (fun v10 _ => ?_)
      refine zFj_if (fun _ => ?_) (fun _ => ?_)
      · skip
        refine zFj_let (fun v13 _ => ?_)
        exact ih _ _ _ g
      · skip
        refine zFj_let (fun v12 _ => ?_)
        exact ih _ _ _ g
    · skip
      exact g
set_option maxRecDepth 100000 in
theorem fi_X8_kindOf {A : Nat → Nat → Prop} {σ σ0 : zS} {a0 : Nat} {p1 : Int64}  (g : zFi A σ σ0)  : zFj A σ (F_X8_kindOf a0 p1 σ0) := by
  unfold F_X8_kindOf
  refine zFj_let (fun v1 _ => ?_)
  refine zFj_let (fun v2 _ => ?_)
  exact fi_X8_kindOf_6   _ _ _ _ g
set_option maxRecDepth 100000 in
theorem fi_X8_addLetters_6 {A : Nat → Nat → Prop} {σ : zS} {a0 : Nat} {p1 : Nat} {p2 : Int32} {p3 : Int32}  (h0 : ∀ j, A ((σ.2.2 a0 1).getD 0) j) (h1 : ∀ j, A ((σ.2.2 a0 3).getD 0) j) (h2 : A a0 4) : ∀ (n : Nat) (x2 : Int32) (x3 : Int64) (τ4 : zS), zFi A σ τ4 → zFj A σ (F_X8_addLetters_6 a0 p1 p2 p3 n x2 x3 τ4) := by
  intro n
  induction n with
  | zero => intro x2 x3 τ4 g; exact g
  | succ n ih =>
    intro x2 x3 τ4 g
    rw [F_X8_addLetters_6]
    refine zFj_if (fun _ => ?_) (fun _ => ?_)
    · skip
      refine zFj_let (fun v15 _ => ?_)
      refine zFj_let (fun v16 _ => ?_)
      refine zFj_if (fun _ => ?_) (fun _ => ?_)
      · skip
        refine zFj_let (fun v18 _ => ?_)
        refine zFj_let (fun v19 _ => ?_)
        refine zFj_if (fun _ => ?_) (fun _ => ?_)
        · skip
          refine zFj_let (fun v24 _ => ?_)
          refine zFj_let (fun s25 es25 => ?_)
          have gs25 : zFi A σ s25 := by rw [es25]; exact fi_X8_add g h0 h1 h2
          exact gs25
        · skip
          refine zFj_let2 (fun v21 s22 es22 => ?_)
          have gs22 : zFi A σ s22 := (fi_X8_kindOf g ).of es22
          refine zFj_let (fun s23 es23 => ?_)
          have gs23 : zFi A σ s23 := by rw [es23]; exact fi_X8_add gs22 h0 h1 h2
          exact gs23
      · skip
        refine zFj_let (fun v26 _ => ?_)
        refine zFj_let (fun v27 _ => ?_)
        refine zFj_if (fun _ => ?_) (fun _ => ?_)
        · skip
          refine zFj_let (fun v31 _ => ?_)
          refine zFj_let (fun v32 _ => ?_)
          refine zFj_let (fun v33 _ => ?_)
          exact ih _ _ _ g
        · skip
          refine zFj_let (fun v29 _ => ?_)
          refine zFj_let (fun v30 _ => ?_)
          exact ih _ _ _ g
    · skip
      refine zFj_let (fun v7 _ => ?_)
      refine zFj_let (fun v8 _ => ?_)
      refine zFj_if (fun _ => ?_) (fun _ => ?_)
      · skip
        refine zFj_let (fun v13 _ => ?_)
        refine zFj_let (fun s14 es14 => ?_)
        have gs14 : zFi A σ s14 := by rw [es14]; exact fi_X8_add g h0 h1 h2
        exact gs14
      · skip
        refine zFj_let2 (fun v10 s11 es11 => ?_)
        have gs11 : zFi A σ s11 := (fi_X8_kindOf g ).of es11
        refine zFj_let (fun s12 es12 => ?_)
        have gs12 : zFi A σ s12 := by rw [es12]; exact fi_X8_add gs11 h0 h1 h2
        exact gs12
set_option maxRecDepth 100000 in
theorem fi_X8_addLetters {A : Nat → Nat → Prop} {σ σ0 : zS} {a0 : Nat} {p1 : Nat} {p2 : Int32} {p3 : Int32}  (g : zFi A σ σ0) (h0 : ∀ j, A ((σ.2.2 a0 1).getD 0) j) (h1 : ∀ j, A ((σ.2.2 a0 3).getD 0) j) (h2 : A a0 4) : zFj A σ (F_X8_addLetters a0 p1 p2 p3 σ0) := by
  unfold F_X8_addLetters
  refine zFj_let (fun v1 _ => ?_)
  exact fi_X8_addLetters_6  h0 h1 h2 _ _ _ _ g
set_option maxRecDepth 100000 in
theorem fi_X8_scan_13 {A : Nat → Nat → Prop} {σ : zS} {a0 : Nat} {p1 : Nat} {p2 : Int32}  (h0 : ∀ j, A ((σ.2.2 a0 1).getD 0) j) (h1 : ∀ j, A ((σ.2.2 a0 3).getD 0) j) (h2 : A a0 4) : ∀ (n : Nat) (x7 : Int32) (x8 : Int32) (x9 : Int32) (τ10 : zS), zFi A σ τ10 → zFi A σ (F_X8_scan_13 a0 p1 p2 n x7 x8 x9 τ10) := by
  intro n
  induction n with
  | zero => intro x7 x8 x9 τ10 g; exact g
  | succ n ih =>
    intro x7 x8 x9 τ10 g
    rw [F_X8_scan_13]
    refine zFi_let (fun v11 _ => ?_)
    refine zFi_if (fun _ => ?_) (fun _ => ?_)
    · skip
      exact g
    · skip
      refine zFi_if (fun _ => ?_) (fun _ => ?_)
      · skip
        exact g
      · skip
        refine zFi_let2 (fun v14 s15 es15 => ?_)
        have gs15 : zFi A σ s15 := (fi_X8_pastBlanks g ).of es15
        refine zFi_if (fun _ => ?_) (fun _ => ?_)
        · skip
          refine zFi_let (fun v103 _ => ?_)
          refine zFi_if (fun _ => ?_) (fun _ => ?_)
          · skip
            refine zFi_let (fun v105 _ => ?_)
            refine zFi_if (fun _ => ?_) (fun _ => ?_)
            · skip
              refine zFi_let (fun v107 _ => ?_)
              refine zFi_if (fun _ => ?_) (fun _ => ?_)
              · skip
                refine zFi_if (fun _ => ?_) (fun _ => ?_)
                · skip
                  refine zFi_let (fun v132 _ => ?_)
                  refine zFi_let (fun v133 _ => ?_)
                  refine zFi_if (fun _ => ?_) (fun _ => ?_)
                  · skip
                    refine zFi_let (fun v156 _ => ?_)
                    refine zFi_let (fun v157 _ => ?_)
                    refine zFi_let (fun s158 es158 => ?_)
                    have gs158 : zFi A σ s158 := by rw [es158]; exact fi_X8_add gs15 h0 h1 h2
                    refine zFi_let (fun v159 _ => ?_)
                    refine zFi_let (fun v160 _ => ?_)
                    refine zFi_if (fun _ => ?_) (fun _ => ?_)
                    · skip
                      refine zFi_let (fun v164 ev164 => ?_)
                      rw [gs158.rf] at ev164
                      subst ev164
                      refine zFi_let (fun v165 _ => ?_)
                      refine zFi_let (fun v166 _ => ?_)
                      refine zFi_let (fun v167 _ => ?_)
                      refine zFi_let (fun v168 _ => ?_)
                      refine zFi_let (fun v169 _ => ?_)
                      refine zFi_if (fun _ => ?_) (fun _ => ?_)
                      · skip
                        refine zFi_let (fun v174 _ => ?_)
                        refine zFi_let (fun v175 _ => ?_)
                        exact ih _ _ _ _ gs158
                      · skip
                        refine zFi_let (fun v172 _ => ?_)
                        refine zFi_let (fun v173 _ => ?_)
                        exact ih _ _ _ _ gs158
                    · skip
                      refine zFi_let (fun v162 _ => ?_)
                      refine zFi_let (fun v163 _ => ?_)
                      exact ih _ _ _ _ gs158
                  · skip
                    refine zFi_let (fun v135 _ => ?_)
                    refine zFi_let (fun v136 _ => ?_)
                    refine zFi_let (fun v137 _ => ?_)
                    refine zFi_let (fun s138 es138 => ?_)
                    have gs138 : zFi A σ s138 := by rw [es138]; exact fi_X8_add gs15 h0 h1 h2
                    refine zFi_let (fun v139 _ => ?_)
                    refine zFi_let (fun v140 _ => ?_)
                    refine zFi_if (fun _ => ?_) (fun _ => ?_)
                    · skip
                      refine zFi_let (fun v144 ev144 => ?_)
                      rw [gs138.rf] at ev144
                      subst ev144
                      refine zFi_let (fun v145 _ => ?_)
                      refine zFi_let (fun v146 _ => ?_)
                      refine zFi_let (fun v147 _ => ?_)
                      refine zFi_let (fun v148 _ => ?_)
                      refine zFi_let (fun v149 _ => ?_)
                      refine zFi_if (fun _ => ?_) (fun _ => ?_)
                      · skip
                        refine zFi_let (fun v154 _ => ?_)
                        refine zFi_let (fun v155 _ => ?_)
                        exact ih _ _ _ _ gs138
                      · skip
                        refine zFi_let (fun v152 _ => ?_)
                        refine zFi_let (fun v153 _ => ?_)
                        exact ih _ _ _ _ gs138
                    · skip
                      refine zFi_let (fun v142 _ => ?_)
                      refine zFi_let (fun v143 _ => ?_)
                      exact ih _ _ _ _ gs138
                · skip
                  refine zFi_let (fun v110 _ => ?_)
                  refine zFi_if (fun _ => ?_) (fun _ => ?_)
                  · skip
                    refine zFi_let (fun v112 _ => ?_)
                    refine zFi_let (fun v113 _ => ?_)
                    refine zFi_let (fun s114 es114 => ?_)
                    have gs114 : zFi A σ s114 := by rw [es114]; exact fi_X8_add gs15 h0 h1 h2
                    refine zFi_let (fun v115 _ => ?_)
                    refine zFi_let (fun v116 _ => ?_)
                    refine zFi_if (fun _ => ?_) (fun _ => ?_)
                    · skip
                      refine zFi_let (fun v120 ev120 => ?_)
                      rw [gs114.rf] at ev120
                      subst ev120
                      refine zFi_let (fun v121 _ => ?_)
                      refine zFi_let (fun v122 _ => ?_)
                      refine zFi_let (fun v123 _ => ?_)
                      refine zFi_let (fun v124 _ => ?_)
                      refine zFi_let (fun v125 _ => ?_)
                      refine zFi_if (fun _ => ?_) (fun _ => ?_)
                      · skip
                        refine zFi_let (fun v130 _ => ?_)
                        refine zFi_let (fun v131 _ => ?_)
                        exact ih _ _ _ _ gs114
                      · skip
                        refine zFi_let (fun v128 _ => ?_)
                        refine zFi_let (fun v129 _ => ?_)
                        exact ih _ _ _ _ gs114
                    · skip
                      refine zFi_let (fun v118 _ => ?_)
                      refine zFi_let (fun v119 _ => ?_)
                      exact ih _ _ _ _ gs114
                  · skip
                    exact gs15
              · skip
                refine zFi_let2 (fun v176 s177 es177 => ?_)
                have gs177 : zFi A σ s177 := (fi_X8_addDigits gs15 h0 h1 h2).of es177
                refine zFi_let (fun v178 _ => ?_)
                refine zFi_if (fun _ => ?_) (fun _ => ?_)
                · skip
                  refine zFi_let (fun v182 ev182 => ?_)
                  rw [gs177.rf] at ev182
                  subst ev182
                  refine zFi_let (fun v183 _ => ?_)
                  refine zFi_let (fun v184 _ => ?_)
                  refine zFi_let (fun v185 _ => ?_)
                  refine zFi_let (fun v186 _ => ?_)
                  refine zFi_let (fun v187 _ => ?_)
                  refine zFi_if (fun _ => ?_) (fun _ => ?_)
                  · skip
                    refine zFi_let (fun v192 _ => ?_)
                    refine zFi_let (fun v193 _ => ?_)
                    exact ih _ _ _ _ gs177
                  · skip
                    refine zFi_let (fun v190 _ => ?_)
                    refine zFi_let (fun v191 _ => ?_)
                    exact ih _ _ _ _ gs177
                · skip
                  refine zFi_let (fun v180 _ => ?_)
                  refine zFi_let (fun v181 _ => ?_)
                  exact ih _ _ _ _ gs177
            · skip
              refine zFi_let2 (fun v194 s195 es195 => ?_)
              have gs195 : zFi A σ s195 := (fi_X8_addLetters gs15 h0 h1 h2).of es195
              refine zFi_let (fun v196 _ => ?_)
              refine zFi_if (fun _ => ?_) (fun _ => ?_)
              · skip
                refine zFi_let (fun v200 ev200 => ?_)
                rw [gs195.rf] at ev200
                subst ev200
                refine zFi_let (fun v201 _ => ?_)
                refine zFi_let (fun v202 _ => ?_)
                refine zFi_let (fun v203 _ => ?_)
                refine zFi_let (fun v204 _ => ?_)
                refine zFi_let (fun v205 _ => ?_)
                refine zFi_if (fun _ => ?_) (fun _ => ?_)
                · skip
                  refine zFi_let (fun v210 _ => ?_)
                  refine zFi_let (fun v211 _ => ?_)
                  exact ih _ _ _ _ gs195
                · skip
                  refine zFi_let (fun v208 _ => ?_)
                  refine zFi_let (fun v209 _ => ?_)
                  exact ih _ _ _ _ gs195
              · skip
                refine zFi_let (fun v198 _ => ?_)
                refine zFi_let (fun v199 _ => ?_)
                exact ih _ _ _ _ gs195
          · skip
            refine zFi_let (fun v212 _ => ?_)
            refine zFi_let (fun v213 _ => ?_)
            refine zFi_let (fun s214 es214 => ?_)
            have gs214 : zFi A σ s214 := by rw [es214]; exact fi_X8_add gs15 h0 h1 h2
            refine zFi_let (fun v215 _ => ?_)
            refine zFi_if (fun _ => ?_) (fun _ => ?_)
            · skip
              refine zFi_let (fun v219 ev219 => ?_)
              rw [gs214.rf] at ev219
              subst ev219
              refine zFi_let (fun v220 _ => ?_)
              refine zFi_let (fun v221 _ => ?_)
              refine zFi_let (fun v222 _ => ?_)
              refine zFi_let (fun v223 _ => ?_)
              refine zFi_let (fun v224 _ => ?_)
              refine zFi_if (fun _ => ?_) (fun _ => ?_)
              · skip
                refine zFi_let (fun v229 _ => ?_)
                refine zFi_let (fun v230 _ => ?_)
                exact ih _ _ _ _ gs214
              · skip
                refine zFi_let (fun v227 _ => ?_)
                refine zFi_let (fun v228 _ => ?_)
                exact ih _ _ _ _ gs214
            · skip
              refine zFi_let (fun v217 _ => ?_)
              refine zFi_let (fun v218 _ => ?_)
              exact ih _ _ _ _ gs214
        · skip
          refine zFi_let (fun v18 _ => ?_)
          refine zFi_if (fun _ => ?_) (fun _ => ?_)
          · skip
            refine zFi_let (fun v21 _ => ?_)
            refine zFi_if (fun _ => ?_) (fun _ => ?_)
            · skip
              refine zFi_let (fun v23 _ => ?_)
              refine zFi_if (fun _ => ?_) (fun _ => ?_)
              · skip
                refine zFi_if (fun _ => ?_) (fun _ => ?_)
                · skip
                  exact gs15
                · skip
                  refine zFi_let (fun v26 _ => ?_)
                  refine zFi_if (fun _ => ?_) (fun _ => ?_)
                  · skip
                    refine zFi_let (fun v28 _ => ?_)
                    refine zFi_let (fun v29 _ => ?_)
                    refine zFi_let (fun s30 es30 => ?_)
                    have gs30 : zFi A σ s30 := by rw [es30]; exact fi_X8_add gs15 h0 h1 h2
                    refine zFi_let (fun v31 _ => ?_)
                    refine zFi_let (fun v32 _ => ?_)
                    refine zFi_if (fun _ => ?_) (fun _ => ?_)
                    · skip
                      refine zFi_let (fun v36 ev36 => ?_)
                      rw [gs30.rf] at ev36
                      subst ev36
                      refine zFi_let (fun v37 _ => ?_)
                      refine zFi_let (fun v38 _ => ?_)
                      refine zFi_let (fun v39 _ => ?_)
                      refine zFi_let (fun v40 _ => ?_)
                      refine zFi_let (fun v41 _ => ?_)
                      refine zFi_if (fun _ => ?_) (fun _ => ?_)
                      · skip
                        refine zFi_let (fun v46 _ => ?_)
                        refine zFi_let (fun v47 _ => ?_)
                        exact ih _ _ _ _ gs30
                      · skip
                        refine zFi_let (fun v44 _ => ?_)
                        refine zFi_let (fun v45 _ => ?_)
                        exact ih _ _ _ _ gs30
                    · skip
                      refine zFi_let (fun v34 _ => ?_)
                      refine zFi_let (fun v35 _ => ?_)
                      exact ih _ _ _ _ gs30
                  · skip
                    exact gs15
              · skip
                refine zFi_let2 (fun v48 s49 es49 => ?_)
                have gs49 : zFi A σ s49 := (fi_X8_addDigits gs15 h0 h1 h2).of es49
                refine zFi_let (fun v50 _ => ?_)
                refine zFi_if (fun _ => ?_) (fun _ => ?_)
                · skip
                  refine zFi_let (fun v54 ev54 => ?_)
                  rw [gs49.rf] at ev54
                  subst ev54
                  refine zFi_let (fun v55 _ => ?_)
                  refine zFi_let (fun v56 _ => ?_)
                  refine zFi_let (fun v57 _ => ?_)
                  refine zFi_let (fun v58 _ => ?_)
                  refine zFi_let (fun v59 _ => ?_)
                  refine zFi_if (fun _ => ?_) (fun _ => ?_)
                  · skip
                    refine zFi_let (fun v64 _ => ?_)
                    refine zFi_let (fun v65 _ => ?_)
                    exact ih _ _ _ _ gs49
                  · skip
                    refine zFi_let (fun v62 _ => ?_)
                    refine zFi_let (fun v63 _ => ?_)
                    exact ih _ _ _ _ gs49
                · skip
                  refine zFi_let (fun v52 _ => ?_)
                  refine zFi_let (fun v53 _ => ?_)
                  exact ih _ _ _ _ gs49
            · skip
              refine zFi_let2 (fun v66 s67 es67 => ?_)
              have gs67 : zFi A σ s67 := (fi_X8_addLetters gs15 h0 h1 h2).of es67
              refine zFi_let (fun v68 _ => ?_)
              refine zFi_if (fun _ => ?_) (fun _ => ?_)
              · skip
                refine zFi_let (fun v72 ev72 => ?_)
                rw [gs67.rf] at ev72
                subst ev72
                refine zFi_let (fun v73 _ => ?_)
                refine zFi_let (fun v74 _ => ?_)
                refine zFi_let (fun v75 _ => ?_)
                refine zFi_let (fun v76 _ => ?_)
                refine zFi_let (fun v77 _ => ?_)
                refine zFi_if (fun _ => ?_) (fun _ => ?_)
                · skip
                  refine zFi_let (fun v82 _ => ?_)
                  refine zFi_let (fun v83 _ => ?_)
                  exact ih _ _ _ _ gs67
                · skip
                  refine zFi_let (fun v80 _ => ?_)
                  refine zFi_let (fun v81 _ => ?_)
                  exact ih _ _ _ _ gs67
              · skip
                refine zFi_let (fun v70 _ => ?_)
                refine zFi_let (fun v71 _ => ?_)
                exact ih _ _ _ _ gs67
          · skip
            refine zFi_let (fun v84 _ => ?_)
            refine zFi_let (fun v85 _ => ?_)
            refine zFi_let (fun s86 es86 => ?_)
            have gs86 : zFi A σ s86 := by rw [es86]; exact fi_X8_add gs15 h0 h1 h2
            refine zFi_let (fun v87 _ => ?_)
            refine zFi_if (fun _ => ?_) (fun _ => ?_)
            · skip
              refine zFi_let (fun v91 ev91 => ?_)
              rw [gs86.rf] at ev91
              subst ev91
              refine zFi_let (fun v92 _ => ?_)
              refine zFi_let (fun v93 _ => ?_)
              refine zFi_let (fun v94 _ => ?_)
              refine zFi_let (fun v95 _ => ?_)
              refine zFi_let (fun v96 _ => ?_)
              refine zFi_if (fun _ => ?_) (fun _ => ?_)
              · skip
                refine zFi_let (fun v101 _ => ?_)
                refine zFi_let (fun v102 _ => ?_)
                exact ih _ _ _ _ gs86
              · skip
                refine zFi_let (fun v99 _ => ?_)
                refine zFi_let (fun v100 _ => ?_)
                exact ih _ _ _ _ gs86
            · skip
              refine zFi_let (fun v89 _ => ?_)
              refine zFi_let (fun v90 _ => ?_)
              exact ih _ _ _ _ gs86
set_option maxRecDepth 100000 in
theorem fi_X8_scan {A : Nat → Nat → Prop} {σ σ0 : zS} {a0 : Nat} {p1 : Nat} {p2 : Int32}  (g : zFi A σ σ0) (h0 : A a0 4) (h1 : ∀ j, A ((σ.2.2 a0 1).getD 0) j) (h2 : ∀ j, A ((σ.2.2 a0 3).getD 0) j) : zFi A σ (F_X8_scan a0 p1 p2 σ0) := by
  unfold F_X8_scan
  refine zFi_let (fun v1 _ => ?_)
  refine zFi_let (fun s2 es2 => ?_)
  have gs2 : zFi A σ s2 := by rw [es2]; exact g.w h0
  refine zFi_let (fun v4 _ => ?_)
  refine zFi_let (fun v5 _ => ?_)
  refine zFi_let (fun v6 _ => ?_)
  exact fi_X8_scan_13  h1 h2 h0 _ _ _ _ _ gs2
set_option maxRecDepth 100000 in
theorem fi_X9_clear_12 {A : Nat → Nat → Prop} {σ : zS} {a0 : Nat}  (h0 : ∀ j, A ((σ.2.2 a0 9).getD 0) j) (h1 : ∀ j, A ((σ.2.2 a0 6).getD 0) j) (h2 : ∀ j, A ((σ.2.2 a0 7).getD 0) j) (h3 : A a0 8) (h4 : A a0 10) (h5 : A a0 11) (h6 : A a0 12) (h7 : A a0 13) : ∀ (n : Nat) (x6 : Int32) (τ7 : zS), zFi A σ τ7 → zFi A σ (F_X9_clear_12 a0 n x6 τ7) := by
  intro n
  induction n with
  | zero => intro x6 τ7 g; exact g
  | succ n ih =>
    intro x6 τ7 g
    rw [F_X9_clear_12]
    refine zFi_let (fun v8 _ => ?_)
    refine zFi_if (fun _ => ?_) (fun _ => ?_)
    · skip
      refine zFi_let (fun v19 _ => ?_)
      refine zFi_let (fun v20 ev20 => ?_)
      rw [g.rf] at ev20
      subst ev20
      refine zFi_let (fun v21 _ => ?_)
      refine zFi_let (fun s22 es22 => ?_)
      have gs22 : zFi A σ s22 := by rw [es22]; exact g.w (h0 _)
      refine zFi_let (fun v23 _ => ?_)
      refine zFi_if (fun _ => ?_) (fun _ => ?_)
      · skip
        refine zFi_let (fun v39 _ => ?_)
        refine zFi_let (fun v40 _ => ?_)
        refine zFi_if (fun _ => ?_) (fun _ => ?_)
        · skip
          refine zFi_let (fun v42 _ => ?_)
          refine zFi_let (fun s43 es43 => ?_)
          have gs43 : zFi A σ s43 := by rw [es43]; exact fi_X9_addStep gs22 h1 h2 h3
          refine zFi_let (fun v44 _ => ?_)
          refine zFi_let (fun v45 _ => ?_)
          refine zFi_let (fun s46 es46 => ?_)
          have gs46 : zFi A σ s46 := by rw [es46]; exact fi_X9_addStep gs43 h1 h2 h3
          refine zFi_let (fun v47 _ => ?_)
          exact ih _ _ gs46
        · skip
          exact gs22
      · skip
        refine zFi_let (fun v25 _ => ?_)
        refine zFi_let (fun v26 _ => ?_)
        refine zFi_if (fun _ => ?_) (fun _ => ?_)
        · skip
          refine zFi_let (fun v33 _ => ?_)
          refine zFi_let (fun s34 es34 => ?_)
          have gs34 : zFi A σ s34 := by rw [es34]; exact fi_X9_addStep gs22 h1 h2 h3
          refine zFi_let (fun v35 _ => ?_)
          refine zFi_let (fun v36 _ => ?_)
          refine zFi_let (fun s37 es37 => ?_)
          have gs37 : zFi A σ s37 := by rw [es37]; exact fi_X9_addStep gs34 h1 h2 h3
          refine zFi_let (fun v38 _ => ?_)
          exact ih _ _ gs37
        · skip
          refine zFi_let (fun s28 es28 => ?_)
          have gs28 : zFi A σ s28 := by rw [es28]; exact fi_X9_addStep gs22 h1 h2 h3
          refine zFi_let (fun v29 _ => ?_)
          refine zFi_let (fun v30 _ => ?_)
          refine zFi_let (fun s31 es31 => ?_)
          have gs31 : zFi A σ s31 := by rw [es31]; exact fi_X9_addStep gs28 h1 h2 h3
          refine zFi_let (fun v32 _ => ?_)
          exact ih _ _ gs31
    · skip
      refine zFi_let (fun v10 _ => ?_)
      refine zFi_let (fun s11 es11 => ?_)
      have gs11 : zFi A σ s11 := by rw [es11]; exact g.w h4
      refine zFi_let (fun v12 _ => ?_)
      refine zFi_let (fun s13 es13 => ?_)
      have gs13 : zFi A σ s13 := by rw [es13]; exact gs11.w h5
      refine zFi_let (fun v14 _ => ?_)
      refine zFi_let (fun s15 es15 => ?_)
      have gs15 : zFi A σ s15 := by rw [es15]; exact gs13.w h6
      refine zFi_let (fun v16 _ => ?_)
      refine zFi_let (fun s17 es17 => ?_)
      have gs17 : zFi A σ s17 := by rw [es17]; exact gs15.w h7
      exact gs17
set_option maxRecDepth 100000 in
theorem fi_X9_clear {A : Nat → Nat → Prop} {σ σ0 : zS} {a0 : Nat}  (g : zFi A σ σ0) (h0 : A a0 0) (h1 : A a0 8) (h2 : ∀ j, A ((σ.2.2 a0 9).getD 0) j) (h3 : ∀ j, A ((σ.2.2 a0 6).getD 0) j) (h4 : ∀ j, A ((σ.2.2 a0 7).getD 0) j) (h5 : A a0 10) (h6 : A a0 11) (h7 : A a0 12) (h8 : A a0 13) : zFi A σ (F_X9_clear a0 σ0) := by
  unfold F_X9_clear
  refine zFi_let (fun v1 _ => ?_)
  refine zFi_let (fun s2 es2 => ?_)
  have gs2 : zFi A σ s2 := by rw [es2]; exact g.w h0
  refine zFi_let (fun v3 _ => ?_)
  refine zFi_let (fun s4 es4 => ?_)
  have gs4 : zFi A σ s4 := by rw [es4]; exact gs2.w h1
  refine zFi_let (fun v5 _ => ?_)
  exact fi_X9_clear_12  h2 h3 h4 h1 h5 h6 h7 h8 _ _ _ gs4
end
-- 35x36.fi4
section
set_option maxRecDepth 100000 in
theorem fi_X11_tellMouth {A : Nat → Nat → Prop} {σ σ0 : zS} {a0 : Nat}  (g : zFi A σ σ0) (h0 : A a0 13) (h1 : A a0 14) (h2 : A a0 11) (h3 : A a0 15) (h4 : A a0 16) (h5 : A a0 41) (h6 : ∀ j, A ((σ.2.2 a0 22).getD 0) j) (h7 : ∀ j, A ((σ.2.2 a0 23).getD 0) j) (h8 : ∀ j, A ((σ.2.2 a0 24).getD 0) j) (h9 : ∀ j, A ((σ.2.2 a0 25).getD 0) j) (h10 : ∀ j, A ((σ.2.2 a0 21).getD 0) j) : zFi A σ (F_X11_tellMouth a0 σ0) := by
  unfold F_X11_tellMouth
  refine zFi_let2 (fun v2 t1 et1 => ?_)
  have gt1 : zFi A σ t1 := (fi_X11_named g h0 h1 h2 h3 h4).of et1
  refine zFi_let (fun v4 _ => ?_)
  refine zFi_let (fun t5 et5 => ?_)
  have gt5 : zFi A σ t5 := by rw [et5]; exact fi_X11_must gt1 h0 h1 h2
  refine zFi_let (fun v7 _ => ?_)
  refine zFi_if (fun _ => ?_) (fun _ => ?_)
  · skip
    exact gt5
  · skip
    refine zFi_let (fun v9 _ => ?_)
    refine zFi_let (fun s10 es10 => ?_)
    have gs10 : zFi A σ s10 := by rw [es10]; exact gt5.w h5
    refine zFi_let (fun v14 ev14 => ?_)
    rw [gs10.rf] at ev14
    subst ev14
    refine zFi_let (fun v15 _ => ?_)
    refine zFi_let (fun v16 ev16 => ?_)
    rw [gs10.rf] at ev16
    subst ev16
    refine zFi_let (fun v17 _ => ?_)
    refine zFi_let (fun s18 es18 => ?_)
    have gs18 : zFi A σ s18 := by rw [es18]; exact gs10
    refine zFi_let (fun v22 _ => ?_)
    refine zFi_let (fun v23 _ => ?_)
    refine zFi_let (fun v24 _ => ?_)
    refine zFi_let (fun v25 ev25 => ?_)
    rw [gs18.rf] at ev25
    subst ev25
    refine zFi_let (fun v26 _ => ?_)
    refine zFi_let (fun s27 es27 => ?_)
    have gs27 : zFi A σ s27 := by rw [es27]; exact gs18.w (h6 _)
    refine zFi_let (fun v32 ev32 => ?_)
    rw [gs27.rf] at ev32
    subst ev32
    refine zFi_let (fun v33 _ => ?_)
    refine zFi_let (fun s34 es34 => ?_)
    have gs34 : zFi A σ s34 := by rw [es34]; exact gs27.w (h7 _)
    refine zFi_let (fun v39 ev39 => ?_)
    rw [gs34.rf] at ev39
    subst ev39
    refine zFi_let (fun v40 _ => ?_)
    refine zFi_let (fun s41 es41 => ?_)
    have gs41 : zFi A σ s41 := by rw [es41]; exact gs34.w (h8 _)
    refine zFi_let (fun v46 ev46 => ?_)
    rw [gs41.rf] at ev46
    subst ev46
    refine zFi_let (fun v47 _ => ?_)
    refine zFi_let (fun s48 es48 => ?_)
    have gs48 : zFi A σ s48 := by rw [es48]; exact gs41.w (h9 _)
    refine zFi_let (fun v53 ev53 => ?_)
    rw [gs48.rf] at ev53
    subst ev53
    refine zFi_let (fun v54 _ => ?_)
    refine zFi_let (fun v55 _ => ?_)
    refine zFi_let (fun v56 _ => ?_)
    refine zFi_let (fun v57 _ => ?_)
    refine zFi_let (fun s58 es58 => ?_)
    have gs58 : zFi A σ s58 := by rw [es58]; exact gs48.w (h10 _)
    exact gs58
set_option maxRecDepth 100000 in
theorem fi_X11_tellPlace {A : Nat → Nat → Prop} {σ σ0 : zS} {a0 : Nat}  (g : zFi A σ σ0) (h0 : A a0 13) (h1 : A a0 14) (h2 : A a0 11) (h3 : A a0 15) (h4 : A a0 16) (h5 : ∀ j, A ((σ.2.2 a0 22).getD 0) j) (h6 : ∀ j, A ((σ.2.2 a0 23).getD 0) j) (h7 : ∀ j, A ((σ.2.2 a0 24).getD 0) j) (h8 : ∀ j, A ((σ.2.2 a0 25).getD 0) j) (h9 : A a0 42) (h10 : ∀ j, A ((σ.2.2 a0 21).getD 0) j) : zFi A σ (F_X11_tellPlace a0 σ0) := by
  unfold F_X11_tellPlace
  refine zFi_let (fun v1 _ => ?_)
  refine zFi_let (fun v2 _ => ?_)
  refine zFi_let (fun v3 _ => ?_)
  refine zFi_let (fun v4 _ => ?_)
  refine zFi_let (fun v5 _ => ?_)
  refine zFi_let (fun v6 _ => ?_)
  refine zFi_let (fun v7 _ => ?_)
  refine zFi_let2 (fun v9 t8 et8 => ?_)
  have gt8 : zFi A σ t8 := (fi_X11_named g h0 h1 h2 h3 h4).of et8
  refine zFi_let (fun v13 _ => ?_)
  refine zFi_let (fun v14 _ => ?_)
  refine zFi_let (fun t15 et15 => ?_)
  have gt15 : zFi A σ t15 := by rw [et15]; exact fi_X11_must gt8 h0 h1 h2
  refine zFi_let (fun v19 _ => ?_)
  refine zFi_if (fun _ => ?_) (fun _ => ?_)
  · skip
    exact gt15
  · skip
    refine zFi_let (fun v21 ev21 => ?_)
    rw [gt15.rf] at ev21
    subst ev21
    refine zFi_let (fun v23 _ => ?_)
    refine zFi_let (fun s24 es24 => ?_)
    have gs24 : zFi A σ s24 := by rw [es24]; exact gt15.w (h5 _)
    refine zFi_let (fun v29 ev29 => ?_)
    rw [gs24.rf] at ev29
    subst ev29
    refine zFi_let (fun v30 _ => ?_)
    refine zFi_if (fun _ => ?_) (fun _ => ?_)
    · skip
      refine zFi_let (fun v108 _ => ?_)
      refine zFi_let (fun t109 et109 => ?_)
      have gt109 : zFi A σ t109 := by rw [et109]; exact fi_X11_wrong gs24 h3 h4
      refine zFi_let (fun v114 ev114 => ?_)
      rw [gt109.rf] at ev114
      subst ev114
      refine zFi_let (fun v115 _ => ?_)
      refine zFi_let (fun v116 _ => ?_)
      refine zFi_let2 (fun v118 t117 et117 => ?_)
      have gt117 : zFi A σ t117 := (fi_X11_bounded gt109 h0 h1 h3 h4 h2).of et117
      refine zFi_let (fun s123 es123 => ?_)
      have gs123 : zFi A σ s123 := by rw [es123]; exact gt117.w (h6 _)
      refine zFi_let (fun v127 ev127 => ?_)
      rw [gs123.rf] at ev127
      subst ev127
      refine zFi_let (fun v128 _ => ?_)
      refine zFi_let (fun v129 _ => ?_)
      refine zFi_let2 (fun v131 t130 et130 => ?_)
      have gt130 : zFi A σ t130 := (fi_X11_bounded gs123 h0 h1 h3 h4 h2).of et130
      refine zFi_let (fun s136 es136 => ?_)
      have gs136 : zFi A σ s136 := by rw [es136]; exact gt130.w (h7 _)
      refine zFi_let (fun v140 ev140 => ?_)
      rw [gs136.rf] at ev140
      subst ev140
      refine zFi_let (fun v141 _ => ?_)
      refine zFi_let (fun v142 _ => ?_)
      refine zFi_let2 (fun v144 t143 et143 => ?_)
      have gt143 : zFi A σ t143 := (fi_X11_bounded gs136 h0 h1 h3 h4 h2).of et143
      refine zFi_let (fun s149 es149 => ?_)
      have gs149 : zFi A σ s149 := by rw [es149]; exact gt143.w (h8 _)
      refine zFi_let (fun v153 _ => ?_)
      refine zFi_let (fun t154 et154 => ?_)
      have gt154 : zFi A σ t154 := by rw [et154]; exact fi_X11_must gs149 h0 h1 h2
      refine zFi_let (fun v158 _ => ?_)
      refine zFi_if (fun _ => ?_) (fun _ => ?_)
      · skip
        exact gt154
      · skip
        refine zFi_let (fun v160 _ => ?_)
        refine zFi_let (fun v161 _ => ?_)
        refine zFi_let (fun v162 _ => ?_)
        refine zFi_let (fun s163 es163 => ?_)
        have gs163 : zFi A σ s163 := by rw [es163]; exact gt154.w h9
        refine zFi_let (fun v168 ev168 => ?_)
        rw [gs163.rf] at ev168
        subst ev168
        refine zFi_let (fun v169 _ => ?_)
        refine zFi_let (fun v170 ev170 => ?_)
        rw [gs163.rf] at ev170
        subst ev170
        refine zFi_let (fun v171 _ => ?_)
        refine zFi_let (fun s172 es172 => ?_)
        have gs172 : zFi A σ s172 := by rw [es172]; exact gs163
        refine zFi_let (fun v177 _ => ?_)
        refine zFi_if (fun _ => ?_) (fun _ => ?_)
        · skip
          exact gs172
        · skip
          refine zFi_let (fun v179 ev179 => ?_)
          rw [gs172.rf] at ev179
          subst ev179
          refine zFi_let (fun v180 _ => ?_)
          refine zFi_let (fun v181 _ => ?_)
          refine zFi_let (fun v182 _ => ?_)
          refine zFi_let (fun v183 _ => ?_)
          refine zFi_let (fun s184 es184 => ?_)
          have gs184 : zFi A σ s184 := by rw [es184]; exact gs172.w (h10 _)
          exact gs184
    · skip
      refine zFi_let (fun v32 ev32 => ?_)
      rw [gs24.rf] at ev32
      subst ev32
      refine zFi_let (fun v33 _ => ?_)
      refine zFi_let (fun v34 _ => ?_)
      refine zFi_let2 (fun v36 t35 et35 => ?_)
      have gt35 : zFi A σ t35 := (fi_X11_bounded gs24 h0 h1 h3 h4 h2).of et35
      refine zFi_let (fun s41 es41 => ?_)
      have gs41 : zFi A σ s41 := by rw [es41]; exact gt35.w (h6 _)
      refine zFi_let (fun v45 ev45 => ?_)
      rw [gs41.rf] at ev45
      subst ev45
      refine zFi_let (fun v46 _ => ?_)
      refine zFi_let (fun v47 _ => ?_)
      refine zFi_let2 (fun v49 t48 et48 => ?_)
      have gt48 : zFi A σ t48 := (fi_X11_bounded gs41 h0 h1 h3 h4 h2).of et48
      refine zFi_let (fun s54 es54 => ?_)
      have gs54 : zFi A σ s54 := by rw [es54]; exact gt48.w (h7 _)
      refine zFi_let (fun v58 ev58 => ?_)
      rw [gs54.rf] at ev58
      subst ev58
      refine zFi_let (fun v59 _ => ?_)
      refine zFi_let (fun v60 _ => ?_)
      refine zFi_let2 (fun v62 t61 et61 => ?_)
      have gt61 : zFi A σ t61 := (fi_X11_bounded gs54 h0 h1 h3 h4 h2).of et61
      refine zFi_let (fun s67 es67 => ?_)
      have gs67 : zFi A σ s67 := by rw [es67]; exact gt61.w (h8 _)
      refine zFi_let (fun v71 _ => ?_)
      refine zFi_let (fun t72 et72 => ?_)
      have gt72 : zFi A σ t72 := by rw [et72]; exact fi_X11_must gs67 h0 h1 h2
      refine zFi_let (fun v76 _ => ?_)
      refine zFi_if (fun _ => ?_) (fun _ => ?_)
      · skip
        exact gt72
      · skip
        refine zFi_let (fun v78 _ => ?_)
        refine zFi_let (fun v79 _ => ?_)
        refine zFi_let (fun v80 _ => ?_)
        refine zFi_let (fun s81 es81 => ?_)
        have gs81 : zFi A σ s81 := by rw [es81]; exact gt72.w h9
        refine zFi_let (fun v86 ev86 => ?_)
        rw [gs81.rf] at ev86
        subst ev86
        refine zFi_let (fun v87 _ => ?_)
        refine zFi_let (fun v88 ev88 => ?_)
        rw [gs81.rf] at ev88
        subst ev88
        refine zFi_let (fun v89 _ => ?_)
        refine zFi_let (fun s90 es90 => ?_)
        have gs90 : zFi A σ s90 := by rw [es90]; exact gs81
        refine zFi_let (fun v95 _ => ?_)
        refine zFi_if (fun _ => ?_) (fun _ => ?_)
        · skip
          exact gs90
        · skip
          refine zFi_let (fun v97 ev97 => ?_)
          rw [gs90.rf] at ev97
          subst ev97
          refine zFi_let (fun v98 _ => ?_)
          refine zFi_let (fun v99 _ => ?_)
          refine zFi_let (fun v100 _ => ?_)
          refine zFi_let (fun v101 _ => ?_)
          refine zFi_let (fun s102 es102 => ?_)
          have gs102 : zFi A σ s102 := by rw [es102]; exact gs90.w (h10 _)
          exact gs102
set_option maxRecDepth 100000 in
theorem fi_X11_token {A : Nat → Nat → Prop} {σ σ0 : zS} {a0 : Nat} {p1 : Int32} {p2 : Int32} {p3 : Int32} {p4 : Int64}  (g : zFi A σ σ0) (h0 : ∀ j, A ((σ.2.2 a0 5).getD 0) j) (h1 : ∀ j, A ((σ.2.2 a0 6).getD 0) j) (h2 : ∀ j, A ((σ.2.2 a0 7).getD 0) j) (h3 : A a0 10) : zFi A σ (F_X11_token a0 p1 p2 p3 p4 σ0) := by
  unfold F_X11_token
  refine zFi_let (fun v1 ev1 => ?_)
  rw [g.rf] at ev1
  subst ev1
  refine zFi_let (fun v2 _ => ?_)
  refine zFi_let (fun s3 es3 => ?_)
  have gs3 : zFi A σ s3 := by rw [es3]; exact g.w (h0 _)
  refine zFi_let (fun v6 ev6 => ?_)
  rw [gs3.rf] at ev6
  subst ev6
  refine zFi_let (fun v7 _ => ?_)
  refine zFi_let (fun s8 es8 => ?_)
  have gs8 : zFi A σ s8 := by rw [es8]; exact gs3.w (h1 _)
  refine zFi_let (fun v11 ev11 => ?_)
  rw [gs8.rf] at ev11
  subst ev11
  refine zFi_let (fun v12 _ => ?_)
  refine zFi_let (fun s13 es13 => ?_)
  have gs13 : zFi A σ s13 := by rw [es13]; exact gs8.w (h2 _)
  refine zFi_let (fun v16 ev16 => ?_)
  rw [gs13.rf] at ev16
  subst ev16
  refine zFi_let (fun v17 _ => ?_)
  refine zFi_let (fun s18 es18 => ?_)
  have gs18 : zFi A σ s18 := by rw [es18]; exact gs13
  refine zFi_let (fun v21 _ => ?_)
  refine zFi_let (fun v22 _ => ?_)
  refine zFi_let (fun v23 _ => ?_)
  refine zFi_let (fun s24 es24 => ?_)
  have gs24 : zFi A σ s24 := by rw [es24]; exact gs18.w h3
  exact gs24
set_option maxRecDepth 100000 in
theorem fi_X11_sign {A : Nat → Nat → Prop} {σ σ0 : zS} {a0 : Nat} {p1 : Int32} {p2 : Int32} {p3 : Int32}  (g : zFi A σ σ0) (h0 : ∀ j, A ((σ.2.2 a0 5).getD 0) j) (h1 : ∀ j, A ((σ.2.2 a0 6).getD 0) j) (h2 : ∀ j, A ((σ.2.2 a0 7).getD 0) j) (h3 : A a0 10) : zFj A σ (F_X11_sign a0 p1 p2 p3 σ0) := by
  unfold F_X11_sign
  refine zFj_let (fun v1 _ => ?_)
  refine zFj_if (fun _ => ?_) (fun _ => ?_)
  · skip
    refine zFj_let (fun v123 _ => ?_)
    refine zFj_let (fun v124 _ => ?_)
    refine zFj_if (fun _ => ?_) (fun _ => ?_)
    · skip
      exact g
    · skip
      refine zFj_let (fun v126 _ => ?_)
      refine zFj_if (fun _ => ?_) (fun _ => ?_)
      · skip
        exact g
      · skip
        refine zFj_let (fun v128 _ => ?_)
        refine zFj_if (fun _ => ?_) (fun _ => ?_)
        · skip
          exact g
        · skip
          refine zFj_let (fun v130 _ => ?_)
          refine zFj_if (fun _ => ?_) (fun _ => ?_)
          · skip
            exact g
          · skip
            refine zFj_let (fun v132 _ => ?_)
            refine zFj_if (fun _ => ?_) (fun _ => ?_)
            · skip
              exact g
            · skip
              refine zFj_let (fun v134 _ => ?_)
              refine zFj_let (fun v135 _ => ?_)
              refine zFj_let (fun t136 et136 => ?_)
              have gt136 : zFi A σ t136 := by rw [et136]; exact fi_X11_token g h0 h1 h2 h3
              refine zFj_let (fun v138 _ => ?_)
              exact gt136
  · skip
    refine zFj_let (fun v3 _ => ?_)
    refine zFj_if (fun _ => ?_) (fun _ => ?_)
    · skip
      refine zFj_let (fun v107 _ => ?_)
      refine zFj_let (fun v108 _ => ?_)
      refine zFj_if (fun _ => ?_) (fun _ => ?_)
      · skip
        exact g
      · skip
        refine zFj_let (fun v110 _ => ?_)
        refine zFj_if (fun _ => ?_) (fun _ => ?_)
        · skip
          exact g
        · skip
          refine zFj_let (fun v112 _ => ?_)
          refine zFj_if (fun _ => ?_) (fun _ => ?_)
          · skip
            exact g
          · skip
            refine zFj_let (fun v114 _ => ?_)
            refine zFj_if (fun _ => ?_) (fun _ => ?_)
            · skip
              exact g
            · skip
              refine zFj_let (fun v116 _ => ?_)
              refine zFj_if (fun _ => ?_) (fun _ => ?_)
              · skip
                exact g
              · skip
                refine zFj_let (fun v118 _ => ?_)
                refine zFj_let (fun v119 _ => ?_)
                refine zFj_let (fun t120 et120 => ?_)
                have gt120 : zFi A σ t120 := by rw [et120]; exact fi_X11_token g h0 h1 h2 h3
                refine zFj_let (fun v122 _ => ?_)
                exact gt120
    · skip
      refine zFj_let (fun v5 _ => ?_)
      refine zFj_if (fun _ => ?_) (fun _ => ?_)
      · skip
        refine zFj_let (fun v91 _ => ?_)
        refine zFj_let (fun v92 _ => ?_)
        refine zFj_if (fun _ => ?_) (fun _ => ?_)
        · skip
          exact g
        · skip
          refine zFj_let (fun v94 _ => ?_)
          refine zFj_if (fun _ => ?_) (fun _ => ?_)
          · skip
            exact g
          · skip
            refine zFj_let (fun v96 _ => ?_)
            refine zFj_if (fun _ => ?_) (fun _ => ?_)
            · skip
              exact g
            · skip
              refine zFj_let (fun v98 _ => ?_)
              refine zFj_if (fun _ => ?_) (fun _ => ?_)
              · skip
                exact g
              · skip
                refine zFj_let (fun v100 _ => ?_)
                refine zFj_if (fun _ => ?_) (fun _ => ?_)
                · skip
                  exact g
                · skip
                  refine zFj_let (fun v102 _ => ?_)
                  refine zFj_let (fun v103 _ => ?_)
                  refine zFj_let (fun t104 et104 => ?_)
                  have gt104 : zFi A σ t104 := by rw [et104]; exact fi_X11_token g h0 h1 h2 h3
                  refine zFj_let (fun v106 _ => ?_)
                  exact gt104
      · skip
        refine zFj_let (fun v7 _ => ?_)
        refine zFj_if (fun _ => ?_) (fun _ => ?_)
        · skip
          refine zFj_let (fun v75 _ => ?_)
          refine zFj_let (fun v76 _ => ?_)
          refine zFj_if (fun _ => ?_) (fun _ => ?_)
          · skip
            exact g
          · skip
            refine zFj_let (fun v78 _ => ?_)
            refine zFj_if (fun _ => ?_) (fun _ => ?_)
            · skip
              exact g
            · skip
              refine zFj_let (fun v80 _ => ?_)
              refine zFj_if (fun _ => ?_) (fun _ => ?_)
              · skip
                exact g
              · skip
                refine zFj_let (fun v82 _ => ?_)
                refine zFj_if (fun _ => ?_) (fun _ => ?_)
                · skip
                  exact g
                · skip
                  refine zFj_let (fun v84 _ => ?_)
                  refine zFj_if (fun _ => ?_) (fun _ => ?_)
                  · skip
                    exact g
                  · skip
                    refine zFj_let (fun v86 _ => ?_)
                    refine zFj_let (fun v87 _ => ?_)
                    refine zFj_let (fun t88 et88 => ?_)
                    have gt88 : zFi A σ t88 := by rw [et88]; exact fi_X11_token g h0 h1 h2 h3
                    refine zFj_let (fun v90 _ => ?_)
                    exact gt88
        · skip
          refine zFj_let (fun v9 _ => ?_)
          refine zFj_let (fun v10 _ => ?_)
          refine zFj_if (fun _ => ?_) (fun _ => ?_)
          · skip
            refine zFj_let (fun v61 _ => ?_)
            refine zFj_let (fun v62 _ => ?_)
            refine zFj_if (fun _ => ?_) (fun _ => ?_)
            · skip
              exact g
            · skip
              refine zFj_let (fun v64 _ => ?_)
              refine zFj_if (fun _ => ?_) (fun _ => ?_)
              · skip
                exact g
              · skip
                refine zFj_let (fun v66 _ => ?_)
                refine zFj_if (fun _ => ?_) (fun _ => ?_)
                · skip
                  exact g
                · skip
                  refine zFj_let (fun v68 _ => ?_)
                  refine zFj_if (fun _ => ?_) (fun _ => ?_)
                  · skip
                    exact g
                  · skip
                    refine zFj_let (fun v70 _ => ?_)
                    refine zFj_let (fun v71 _ => ?_)
                    refine zFj_let (fun t72 et72 => ?_)
                    have gt72 : zFi A σ t72 := by rw [et72]; exact fi_X11_token g h0 h1 h2 h3
                    refine zFj_let (fun v74 _ => ?_)
                    exact gt72
          · skip
            refine zFj_let (fun v12 _ => ?_)
            refine zFj_if (fun _ => ?_) (fun _ => ?_)
            · skip
              refine zFj_let (fun v49 _ => ?_)
              refine zFj_let (fun v50 _ => ?_)
              refine zFj_if (fun _ => ?_) (fun _ => ?_)
              · skip
                exact g
              · skip
                refine zFj_let (fun v52 _ => ?_)
                refine zFj_if (fun _ => ?_) (fun _ => ?_)
                · skip
                  exact g
                · skip
                  refine zFj_let (fun v54 _ => ?_)
                  refine zFj_if (fun _ => ?_) (fun _ => ?_)
                  · skip
                    exact g
                  · skip
                    refine zFj_let (fun v56 _ => ?_)
                    refine zFj_let (fun v57 _ => ?_)
                    refine zFj_let (fun t58 et58 => ?_)
                    have gt58 : zFi A σ t58 := by rw [et58]; exact fi_X11_token g h0 h1 h2 h3
                    refine zFj_let (fun v60 _ => ?_)
                    exact gt58
            · skip
              refine zFj_let (fun v14 _ => ?_)
              refine zFj_if (fun _ => ?_) (fun _ => ?_)
              · skip
                refine zFj_let (fun v39 _ => ?_)
                refine zFj_let (fun v40 _ => ?_)
                refine zFj_if (fun _ => ?_) (fun _ => ?_)
                · skip
                  exact g
                · skip
                  refine zFj_let (fun v42 _ => ?_)
                  refine zFj_if (fun _ => ?_) (fun _ => ?_)
                  · skip
                    exact g
                  · skip
                    refine zFj_let (fun v44 _ => ?_)
                    refine zFj_let (fun v45 _ => ?_)
                    refine zFj_let (fun t46 et46 => ?_)
                    have gt46 : zFi A σ t46 := by rw [et46]; exact fi_X11_token g h0 h1 h2 h3
                    refine zFj_let (fun v48 _ => ?_)
                    exact gt46
              · skip
                refine zFj_let (fun v16 _ => ?_)
                refine zFj_if (fun _ => ?_) (fun _ => ?_)
                · skip
                  refine zFj_let (fun v31 _ => ?_)
                  refine zFj_let (fun v32 _ => ?_)
                  refine zFj_if (fun _ => ?_) (fun _ => ?_)
                  · skip
                    exact g
                  · skip
                    refine zFj_let (fun v34 _ => ?_)
                    refine zFj_let (fun v35 _ => ?_)
                    refine zFj_let (fun t36 et36 => ?_)
                    have gt36 : zFi A σ t36 := by rw [et36]; exact fi_X11_token g h0 h1 h2 h3
                    refine zFj_let (fun v38 _ => ?_)
                    exact gt36
                · skip
                  refine zFj_let (fun v18 _ => ?_)
                  refine zFj_if (fun _ => ?_) (fun _ => ?_)
                  · skip
                    refine zFj_let (fun v25 _ => ?_)
                    refine zFj_let (fun v26 _ => ?_)
                    refine zFj_let (fun v27 _ => ?_)
                    refine zFj_let (fun t28 et28 => ?_)
                    have gt28 : zFi A σ t28 := by rw [et28]; exact fi_X11_token g h0 h1 h2 h3
                    refine zFj_let (fun v30 _ => ?_)
                    exact gt28
                  · skip
                    refine zFj_let (fun v20 _ => ?_)
                    refine zFj_let (fun v21 _ => ?_)
                    refine zFj_let (fun t22 et22 => ?_)
                    have gt22 : zFi A σ t22 := by rw [et22]; exact fi_X11_token g h0 h1 h2 h3
                    refine zFj_let (fun v24 _ => ?_)
                    exact gt22
set_option maxRecDepth 100000 in
theorem fi_X11_cut_208 {A : Nat → Nat → Prop} {σ : zS} {v12 : Int32} {x6 : Int32} {a0 : Nat} {kLp7 : Int32 → zS → zS} (ckLp7 : ∀ (y0 : Int32) (s : zS), zFi A σ s → zFi A σ (kLp7 y0 s)) (h0 : ∀ j, A ((σ.2.2 a0 5).getD 0) j) (h1 : ∀ j, A ((σ.2.2 a0 6).getD 0) j) (h2 : ∀ j, A ((σ.2.2 a0 7).getD 0) j) (h3 : A a0 10) : ∀ (n : Nat) (x41 : Int32) (x42 : Int32) (τ43 : zS), zFi A σ τ43 → zFi A σ (F_X11_cut_208 v12 x6 a0 kLp7 n x41 x42 τ43) := by
  intro n
  induction n with
  | zero => intro x41 x42 τ43 g; exact g
  | succ n ih =>
    intro x41 x42 τ43 g
    rw [F_X11_cut_208]
    refine zFi_let (fun v44 _ => ?_)
    refine zFi_let (fun v46 _ => ?_)
    refine zFi_let (fun v47 _ => ?_)
    refine zFi_if (fun _ => ?_) (fun _ => ?_)
    · skip
      refine zFi_let (fun v49 _ => ?_)
      refine zFi_if (fun _ => ?_) (fun _ => ?_)
      · skip
        refine zFi_let (fun v56 _ => ?_)
        refine zFi_let (fun v57 _ => ?_)
        refine zFi_let (fun t58 et58 => ?_)
        have gt58 : zFi A σ t58 := by rw [et58]; exact fi_X11_token g h0 h1 h2 h3
        refine zFi_let (fun v60 _ => ?_)
        exact ckLp7 _ _ gt58
      · skip
        refine zFi_let (fun v51 _ => ?_)
        refine zFi_let (fun v52 _ => ?_)
        refine zFi_let (fun t53 et53 => ?_)
        have gt53 : zFi A σ t53 := by rw [et53]; exact fi_X11_token g h0 h1 h2 h3
        refine zFi_let (fun v55 _ => ?_)
        exact ckLp7 _ _ gt53
    · skip
      refine zFi_let (fun v61 _ => ?_)
      refine zFi_if (fun _ => ?_) (fun _ => ?_)
      · skip
        refine zFi_let (fun v64 _ => ?_)
        refine zFi_let (fun v65 _ => ?_)
        refine zFi_let (fun v66 _ => ?_)
        refine zFi_let (fun v68 _ => ?_)
        refine zFi_let (fun v69 _ => ?_)
        refine zFi_let (fun v70 _ => ?_)
        refine zFi_let (fun v71 _ => ?_)
        refine zFi_let (fun v72 _ => ?_)
        exact ih _ _ _ g
      · skip
        refine zFi_let (fun v63 _ => ?_)
        exact ih _ _ _ g
set_option maxRecDepth 100000 in
theorem fi_X11_cut_146 {A : Nat → Nat → Prop} {σ : zS} {x75 : Int64} {x76 : Int32} {v12 : Int32} {x6 : Int32} {a0 : Nat} {kLp7 : Int32 → zS → zS} {kLp77 : Int64 → Int32 → zS → zS} (ckLp7 : ∀ (y0 : Int32) (s : zS), zFi A σ s → zFi A σ (kLp7 y0 s)) (ckLp77 : ∀ (y0 : Int64) (y1 : Int32) (s : zS), zFi A σ s → zFi A σ (kLp77 y0 y1 s)) (h0 : ∀ j, A ((σ.2.2 a0 5).getD 0) j) (h1 : ∀ j, A ((σ.2.2 a0 6).getD 0) j) (h2 : ∀ j, A ((σ.2.2 a0 7).getD 0) j) (h3 : A a0 10) : ∀ (n : Nat) (x89 : Int32) (x90 : Int32) (τ91 : zS), zFi A σ τ91 → zFi A σ (F_X11_cut_146 x75 x76 v12 x6 a0 kLp7 kLp77 n x89 x90 τ91) := by
  intro n
  induction n with
  | zero => intro x89 x90 τ91 g; exact g
  | succ n ih =>
    intro x89 x90 τ91 g
    rw [F_X11_cut_146]
    refine zFi_let (fun v92 _ => ?_)
    refine zFi_if (fun _ => ?_) (fun _ => ?_)
    · skip
      refine zFi_let (fun v98 ev98 => ?_)
      rw [g.rf] at ev98
      subst ev98
      refine zFi_let (fun v99 _ => ?_)
      refine zFi_let (fun v100 _ => ?_)
      refine zFi_if (fun _ => ?_) (fun _ => ?_)
      · skip
        refine zFi_let (fun v103 _ => ?_)
        refine zFi_let (fun v104 _ => ?_)
        refine zFi_let (fun v105 _ => ?_)
        exact ih _ _ _ g
      · skip
        refine zFi_let (fun v102 _ => ?_)
        exact ih _ _ _ g
    · skip
      refine zFi_let (fun v94 _ => ?_)
      refine zFi_let (fun t95 et95 => ?_)
      have gt95 : zFi A σ t95 := by rw [et95]; exact fi_X11_token g h0 h1 h2 h3
      refine zFi_let (fun v97 _ => ?_)
      exact ckLp7 _ _ gt95
set_option maxRecDepth 100000 in
theorem fi_X11_cut_85 {A : Nat → Nat → Prop} {σ : zS} {v12 : Int32} {x6 : Int32} {a0 : Nat} {kLp7 : Int32 → zS → zS} (ckLp7 : ∀ (y0 : Int32) (s : zS), zFi A σ s → zFi A σ (kLp7 y0 s)) (h0 : ∀ j, A ((σ.2.2 a0 5).getD 0) j) (h1 : ∀ j, A ((σ.2.2 a0 6).getD 0) j) (h2 : ∀ j, A ((σ.2.2 a0 7).getD 0) j) (h3 : A a0 10) : ∀ (n : Nat) (x75 : Int64) (x76 : Int32) (τ77 : zS), zFi A σ τ77 → zFi A σ (F_X11_cut_85 v12 x6 a0 kLp7 n x75 x76 τ77) := by
  intro n
  induction n with
  | zero => intro x75 x76 τ77 g; exact g
  | succ n ih =>
    intro x75 x76 τ77 g
    rw [F_X11_cut_85]
    refine zFi_let (fun v78 _ => ?_)
    refine zFi_let (fun v80 _ => ?_)
    refine zFi_let (fun v81 _ => ?_)
    refine zFi_if (fun _ => ?_) (fun _ => ?_)
    · skip
      refine zFi_let (fun v83 _ => ?_)
      refine zFi_if (fun _ => ?_) (fun _ => ?_)
      · skip
        refine zFi_let (fun v106 _ => ?_)
        refine zFi_let (fun v107 _ => ?_)
        refine zFi_if (fun _ => ?_) (fun _ => ?_)
        · skip
          refine zFi_let (fun v109 _ => ?_)
          refine zFi_let (fun t110 et110 => ?_)
          have gt110 : zFi A σ t110 := by rw [et110]; exact fi_X11_token g h0 h1 h2 h3
          refine zFi_let (fun v112 _ => ?_)
          exact ckLp7 _ _ gt110
        · skip
          exact g
      · skip
        refine zFi_let (fun v85 _ => ?_)
        refine zFi_let (fun v86 _ => ?_)
        refine zFi_if (fun _ => ?_) (fun _ => ?_)
        · skip
          exact g
        · skip
          refine zFi_let (fun v88 _ => ?_)
          exact fi_X11_cut_146 ckLp7 ih h0 h1 h2 h3 _ _ _ _ g
    · skip
      refine zFi_let (fun v113 _ => ?_)
      refine zFi_if (fun _ => ?_) (fun _ => ?_)
      · skip
        refine zFi_let (fun v116 _ => ?_)
        refine zFi_let (fun v118 _ => ?_)
        refine zFi_let (fun v119 _ => ?_)
        refine zFi_let (fun v120 _ => ?_)
        exact ih _ _ _ g
      · skip
        refine zFi_let (fun v115 _ => ?_)
        exact ih _ _ _ g
set_option maxRecDepth 100000 in
theorem fi_X11_cut_7 {A : Nat → Nat → Prop} {σ : zS} {a0 : Nat}  (h0 : ∀ j, A ((σ.2.2 a0 5).getD 0) j) (h1 : ∀ j, A ((σ.2.2 a0 6).getD 0) j) (h2 : ∀ j, A ((σ.2.2 a0 7).getD 0) j) (h3 : A a0 10) : ∀ (n : Nat) (x6 : Int32) (τ7 : zS), zFi A σ τ7 → zFi A σ (F_X11_cut_7 a0 n x6 τ7) := by
  intro n
  induction n with
  | zero => intro x6 τ7 g; exact g
  | succ n ih =>
    intro x6 τ7 g
    rw [F_X11_cut_7]
    refine zFi_let (fun v8 _ => ?_)
    refine zFi_let (fun v9 _ => ?_)
    refine zFi_if (fun _ => ?_) (fun _ => ?_)
    · skip
      exact g
    · skip
      refine zFi_let (fun v12 _ => ?_)
      refine zFi_let (fun v13 _ => ?_)
      refine zFi_if (fun _ => ?_) (fun _ => ?_)
      · skip
        refine zFi_let (fun v15 _ => ?_)
        refine zFi_if (fun _ => ?_) (fun _ => ?_)
        · skip
          refine zFi_let (fun v17 _ => ?_)
          exact ih _ _ g
        · skip
          refine zFi_let (fun v18 _ => ?_)
          refine zFi_if (fun _ => ?_) (fun _ => ?_)
          · skip
            refine zFi_let (fun v20 _ => ?_)
            exact ih _ _ g
          · skip
            refine zFi_let (fun v21 _ => ?_)
            refine zFi_if (fun _ => ?_) (fun _ => ?_)
            · skip
              refine zFi_let (fun v23 _ => ?_)
              exact ih _ _ g
            · skip
              refine zFi_let (fun v24 _ => ?_)
              refine zFi_if (fun _ => ?_) (fun _ => ?_)
              · skip
                refine zFi_let (fun v121 _ => ?_)
                exact ih _ _ g
              · skip
                refine zFi_let (fun v26 _ => ?_)
                refine zFi_if (fun _ => ?_) (fun _ => ?_)
                · skip
                  refine zFi_let (fun v28 _ => ?_)
                  refine zFi_if (fun _ => ?_) (fun _ => ?_)
                  · skip
                    refine zFi_let (fun v30 _ => ?_)
                    refine zFi_let (fun v31 _ => ?_)
                    refine zFi_let (fun v33 _ => ?_)
                    refine zFi_let2 (fun v35 t34 et34 => ?_)
                    have gt34 : zFi A σ t34 := (fi_X11_sign g h0 h1 h2 h3).of et34
                    refine zFi_let (fun v38 _ => ?_)
                    exact ih _ _ gt34
                  · skip
                    refine zFi_let (fun v39 _ => ?_)
                    refine zFi_let (fun v40 _ => ?_)
                    exact fi_X11_cut_208 ih h0 h1 h2 h3 _ _ _ _ g
                · skip
                  refine zFi_let (fun v73 _ => ?_)
                  refine zFi_let (fun v74 _ => ?_)
                  exact fi_X11_cut_85 ih h0 h1 h2 h3 _ _ _ _ g
      · skip
        refine zFi_let (fun v122 _ => ?_)
        refine zFi_let (fun v123 _ => ?_)
        refine zFi_let (fun v124 _ => ?_)
        refine zFi_let (fun v125 _ => ?_)
        refine zFi_let (fun t126 et126 => ?_)
        have gt126 : zFi A σ t126 := by rw [et126]; exact fi_X11_token g h0 h1 h2 h3
        exact gt126
set_option maxRecDepth 100000 in
theorem fi_X11_plain_37 {A : Nat → Nat → Prop} {σ : zS} {a0 : Nat} {p1 : Int32}  (h0 : ∀ j, A ((σ.2.2 a0 30).getD 0) j) (h1 : ∀ j, A ((σ.2.2 a0 31).getD 0) j) : ∀ (n : Nat) (x22 : Int32) (τ23 : zS), zFi A σ τ23 → zFi A σ (F_X11_plain_37 a0 p1 n x22 τ23) := by
  intro n
  induction n with
  | zero => intro x22 τ23 g; exact g
  | succ n ih =>
    intro x22 τ23 g
    rw [F_X11_plain_37]
    refine zFi_let (fun v24 _ => ?_)
    refine zFi_if (fun _ => ?_) (fun _ => ?_)
    · skip
      refine zFi_let (fun v26 ev26 => ?_)
      rw [g.rf] at ev26
      subst ev26
      refine zFi_let (fun v27 _ => ?_)
      refine zFi_let (fun v28 _ => ?_)
      refine zFi_let (fun v29 _ => ?_)
      refine zFi_let (fun v30 _ => ?_)
      refine zFi_let (fun s31 es31 => ?_)
      have gs31 : zFi A σ s31 := by rw [es31]; exact g.w (h0 _)
      refine zFi_let (fun v33 ev33 => ?_)
      rw [gs31.rf] at ev33
      subst ev33
      refine zFi_let (fun v34 _ => ?_)
      refine zFi_let (fun v35 _ => ?_)
      refine zFi_let (fun v36 _ => ?_)
      refine zFi_let (fun v37 _ => ?_)
      refine zFi_let (fun s38 es38 => ?_)
      have gs38 : zFi A σ s38 := by rw [es38]; exact gs31.w (h1 _)
      refine zFi_let (fun v40 _ => ?_)
      exact ih _ _ gs38
    · skip
      exact g
set_option maxRecDepth 100000 in
theorem fi_X11_plain {A : Nat → Nat → Prop} {σ σ0 : zS} {a0 : Nat} {p1 : Int32}  (g : zFi A σ σ0) (h0 : ∀ j, A ((σ.2.2 a0 21).getD 0) j) (h1 : ∀ j, A ((σ.2.2 a0 26).getD 0) j) (h2 : ∀ j, A ((σ.2.2 a0 27).getD 0) j) (h3 : ∀ j, A ((σ.2.2 a0 28).getD 0) j) (h4 : ∀ j, A ((σ.2.2 a0 29).getD 0) j) (h5 : ∀ j, A ((σ.2.2 a0 30).getD 0) j) (h6 : ∀ j, A ((σ.2.2 a0 31).getD 0) j) : zFi A σ (F_X11_plain a0 p1 σ0) := by
  unfold F_X11_plain
  refine zFi_let (fun v1 ev1 => ?_)
  rw [g.rf] at ev1
  subst ev1
  refine zFi_let (fun v2 _ => ?_)
  refine zFi_let (fun s3 es3 => ?_)
  have gs3 : zFi A σ s3 := by rw [es3]; exact g.w (h0 _)
  refine zFi_let (fun v5 ev5 => ?_)
  rw [gs3.rf] at ev5
  subst ev5
  refine zFi_let (fun v6 _ => ?_)
  refine zFi_let (fun s7 es7 => ?_)
  have gs7 : zFi A σ s7 := by rw [es7]; exact gs3.w (h1 _)
  refine zFi_let (fun v9 ev9 => ?_)
  rw [gs7.rf] at ev9
  subst ev9
  refine zFi_let (fun v10 _ => ?_)
  refine zFi_let (fun s11 es11 => ?_)
  have gs11 : zFi A σ s11 := by rw [es11]; exact gs7.w (h2 _)
  refine zFi_let (fun v13 ev13 => ?_)
  rw [gs11.rf] at ev13
  subst ev13
  refine zFi_let (fun v14 _ => ?_)
  refine zFi_let (fun s15 es15 => ?_)
  have gs15 : zFi A σ s15 := by rw [es15]; exact gs11.w (h3 _)
  refine zFi_let (fun v17 ev17 => ?_)
  rw [gs15.rf] at ev17
  subst ev17
  refine zFi_let (fun v18 _ => ?_)
  refine zFi_let (fun s19 es19 => ?_)
  have gs19 : zFi A σ s19 := by rw [es19]; exact gs15.w (h4 _)
  refine zFi_let (fun v21 _ => ?_)
  exact fi_X11_plain_37  h5 h6 _ _ _ gs19
end
-- 35x37.rd1
section
/-! A TEXT READ, with something told beside (g), telling by telling -/
def gRun {γ : Type} (T : zTn) (st : zA → γ → γ) : Nat → zA → γ → γ
  | 0, _, g => g
  | n + 1, s, g => if s.1 ≠ 0 then g else if T.1 s.2.2.1 = 33 then g else gRun T st n (aTell T s) (st s g)
/-- where the reference's and the class' tellings end -/
noncomputable def xEnd (a : Nat) (T : zTn) : Nat → zA → zS → zS
  | 0, _, τ => τ
  | n + 1, s, τ => if s.1 ≠ 0 then τ else if T.1 s.2.2.1 = 33 then τ else xEnd a T n (aTell T s) (F_X11_tellOne a τ)
noncomputable def vEnd (P : Nat) (T : zTn) : Nat → zA → zS → zS
  | 0, _, τ => τ
  | n + 1, s, τ => if s.1 ≠ 0 then τ else if T.1 s.2.2.1 = 33 then τ else vEnd P T n (aTell T s) (F_X3_telling P τ)
theorem zu_id {f : Nat → Nat → Int32} {a j : Nat} : zu f a j (f a j) = f := by
  funext b i
  unfold zu
  by_cases e : b = a
  · rw [if_pos e]
    by_cases e2 : i = j
    · rw [if_pos e2, e, e2]
    · rw [if_neg e2]
  · rw [if_neg e]
section XRI
variable {a k q v nm nO m : Nat} {T : zTn} {γ : Type}
/-- the reference's loop -/
theorem xRunE (hd : zWd a k q v nm nO) (hT : zTm T m) (hK : zTK T m) {x7 : Int32} (K : Int32 → zS → Int32 × zS) : ∀ (n : Nat) (τ : zS) (s : zA), zXo a k q v nm nO m T τ s → (s.1 = 0 → 401 < n + s.2.2.1) → 0 < n → ∀ l, (s.1 = 0 → 401 < l + s.2.2.1) → 0 < l → (aAns (aRun T l s) ≠ 0 → ∃ x : Int32, (F_X11_read_117 x7 a K n τ).2 = (zu (xEnd a T l s τ).1 a 17 x, (xEnd a T l s τ).2.1, (xEnd a T l s τ).2.2)) ∧ (aAns (aRun T l s) = 0 → ((aRun T l s).1 = 0 ∧ (aRun T l s).2.2.2.1 = 0) ∧ ∃ K2, F_X11_read_117 x7 a K n τ = F_X11_read_224 a K K2 10000 0 (mBg a (zu (xEnd a T l s τ).1 a 17 (-1), (xEnd a T l s τ).2.1, (xEnd a T l s τ).2.2))) := by
  intro n
  induction n with
  | zero => intro τ s _ _ h; exact absurd h (by omega)
  | succ n ih =>
    intro τ s h hn _ l hl _
    obtain ⟨l, rfl⟩ : ∃ q, l = q + 1 := ⟨l - 1, by omega⟩
    have g' : ∀ (x : Int32) (j : Nat), j ≠ 17 → zu τ.1 a 17 x a j = τ.1 a j := fun x j hj => zu_j _ _ _ _ _ (fun z => hj z.symm)
    have g13 := fun x => g' x 13 (by decide)
    have g15 := fun x => g' x 15 (by decide)
    obtain ⟨r, hr⟩ : ∃ r, r = F_X11_read_117 x7 a K (n + 1) τ := ⟨_, rfl⟩
    rw [← hr]
    rw [F_X11_read_117] at hr
    simp only [zlt, wIs hT h.1 0 33 (by decide) (by decide), g13, g15] at hr
    have h13 := h.1.2.1
    have h0 := h.1.2.2.1
    by_cases c : s.1 = 0
    · obtain ⟨r1, r2, r3, r4, r5, r6, r7, r8, r9⟩ := h.1.2.2.2.2 c
      have rk := hK.2.1
      have hn2 := hn c
      have hl2 := hl c
      rw [if_pos (h13.trans c)] at hr
      by_cases c1 : T.1 s.2.2.1 = 33
      · have ea : aRun T (l + 1) s = s := by rw [aRun, if_neg (zne c), if_pos c1]
        have eg : xEnd a T (l + 1) s τ = τ := by rw [xEnd, if_neg (zne c), if_pos c1]
        have ez : aAns s = s.2.2.2.1 := by unfold aAns; rw [if_neg (zne c)]
        rw [if_neg (fun z => z ⟨c, c1⟩), if_neg (by omega)] at hr
        rw [ea, eg]
        refine ⟨fun z => ?_, fun z => ?_⟩
        · rw [ez] at z
          rw [if_pos (by omega), if_neg (by omega), if_pos (by omega)] at hr
          exact ⟨_, congrArg Prod.snd hr⟩
        · rw [ez] at z
          rw [if_neg (by omega), if_neg (by omega), if_neg (by omega)] at hr
          refine ⟨⟨c, z⟩, F_X11_read_117 x7 a K n, hr.trans ?_⟩
          unfold mBg
          simp only [zlt]
      · have ea : aRun T (l + 1) s = aRun T l (aTell T s) := by rw [aRun, if_neg (zne c), if_neg c1]
        have eg : xEnd a T (l + 1) s τ = xEnd a T l (aTell T s) (F_X11_tellOne a τ) := by rw [xEnd, if_neg (zne c), if_neg c1]
        rw [if_pos (fun z => c1 z.2)] at hr
        rw [hr, ea, eg]
        exact ih _ _ (xTell hd hT hK h c) (fun z => by have := aTell_i z; omega) (by omega) l (fun z => by have := aTell_i z; omega) (by omega)
    · have ea : aRun T (l + 1) s = s := by rw [aRun, if_pos c]
      have eg : xEnd a T (l + 1) s τ = τ := by rw [xEnd, if_pos c]
      rw [if_neg (by omega), if_pos (by omega), if_pos (by omega)] at hr
      rw [ea, eg]
      exact ⟨fun _ => ⟨_, congrArg Prod.snd hr⟩, fun z => absurd z (by unfold aAns; rw [if_pos c]; exact c)⟩
/-- what every telling bears, the end bears -/
theorem xEndI (hd : zWd a k q v nm nO) (hT : zTm T m) (hK : zTK T m) (I : zS → zA → γ → Prop) (st : zA → γ → γ) (hI : ∀ (τ : zS) (s : zA) (g : γ), zXo a k q v nm nO m T τ s → s.1 = 0 → I τ s g → I (F_X11_tellOne a τ) (aTell T s) (st s g)) : ∀ (l : Nat) (τ : zS) (s : zA) (g : γ), zXo a k q v nm nO m T τ s → I τ s g → zXo a k q v nm nO m T (xEnd a T l s τ) (aRun T l s) ∧ I (xEnd a T l s τ) (aRun T l s) (gRun T st l s g) := by
  intro l
  induction l with
  | zero => intro τ s g h hi; exact ⟨h, hi⟩
  | succ l ih =>
    intro τ s g h hi
    rw [xEnd, aRun, gRun]
    by_cases c : s.1 = 0
    · rw [if_neg (zne c), if_neg (zne c), if_neg (zne c)]
      by_cases c1 : T.1 s.2.2.1 = 33
      · rw [if_pos c1, if_pos c1, if_pos c1]; exact ⟨h, hi⟩
      · rw [if_neg c1, if_neg c1, if_neg c1]
        exact ih _ _ _ (xTell hd hT hK h c) (hI _ _ _ h c hi)
    · rw [if_pos c, if_pos c, if_pos c]; exact ⟨h, hi⟩
end XRI
section VRI
variable {P tk kA vA qA tt N m : Nat} {T : zTn} {γ : Type}
/-- the class' loop -/
theorem vParseE (hd : zVd P tk kA vA qA N) (hT : zTK T m) {p1 p3 : Nat} {p2 : Int32} : ∀ (n : Nat) (x : Int32) (j : Nat) (τ : zS) (s : zA), x.toInt = j → j ≤ 401 → 401 - j < n → zV P tk kA vA qA tt N m T τ s → (s.1 = 0 → j ≤ s.2.2.1) → ∀ l, 401 - j < l → ∃ b c z : Int32, (F_X3_parse_59 P p1 p2 p3 n x τ).2 = (zu (zu (zu (vEnd P T l s τ).1 P 8 b) P 9 c) tt 0 z, (vEnd P T l s τ).2.1, (vEnd P T l s τ).2.2) ∧ (aAns (aRun T l s) = 0 → ((aRun T l s).1 = 0 ∧ (aRun T l s).2.2.2.1 = 0) ∧ z.toInt = (if (aRun T l s).2.2.2.2.2.1 = 0 then 0 else 1 + (aRun T l s).2.2.2.2.2.2.1)) := by
  intro n
  induction n with
  | zero => intro x j τ s _ _ h; exact absurd h (by omega)
  | succ n ih =>
    intro x j τ s hx hj hm h hz l hl
    obtain ⟨l, rfl⟩ : ∃ q, l = q + 1 := ⟨l - 1, by omega⟩
    have e400 : (400 : Int32).toInt = 400 := by decide
    have e33 : (33 : Int32).toInt = 33 := by decide
    have e1 : (1 : Int32).toInt = 1 := by decide
    have t0 := vtt h
    obtain ⟨r, hr⟩ : ∃ r, r = F_X3_parse_59 P p1 p2 p3 (n + 1) x τ := ⟨_, rfl⟩
    rw [← hr]
    rw [F_X3_parse_59] at hr
    simp only [zlt, e400, e33, t0] at hr
    by_cases c : s.1 = 0
    · obtain ⟨r1, r2, r3, r4, r5, r6, r7, r8, r9, r10, -⟩ := h.2.2.2 c
      have rk := hT.2.1
      have hj2 := hz c
      have c8 := h.2.1.trans c
      rw [if_neg (by omega), if_pos c8, r3] at hr
      by_cases c1 : T.1 s.2.2.1 = 33
      · have ea : aRun T (l + 1) s = s := by rw [aRun, if_neg (zne c), if_pos c1]
        have eg : vEnd P T (l + 1) s τ = τ := by rw [vEnd, if_neg (zne c), if_pos c1]
        rw [if_pos c1, if_pos c8] at hr
        rw [ea, eg]
        have k6 : ∀ a b : Int32, zu (zu τ.1 P 8 a) P 9 b P 6 = τ.1 P 6 := fun a b => by rw [zu_j _ _ _ _ _ (by decide), zu_j _ _ _ _ _ (by decide)]
        have k7 : ∀ a b : Int32, zu (zu τ.1 P 8 a) P 9 b P 7 = τ.1 P 7 := fun a b => by rw [zu_j _ _ _ _ _ (by decide), zu_j _ _ _ _ _ (by decide)]
        simp only [k6, k7, r8] at hr
        have ez : aAns s = s.2.2.2.1 := by unfold aAns; rw [if_neg (zne c)]
        by_cases cm : s.2.2.2.2.2.1 = 0
        · rw [if_pos cm] at hr
          exact ⟨_, _, _, congrArg Prod.snd hr, fun z => ⟨⟨c, ez.symm.trans z⟩, by rw [if_pos cm]; decide⟩⟩
        · rw [if_neg cm] at hr
          exact ⟨_, _, _, congrArg Prod.snd hr, fun z => ⟨⟨c, ez.symm.trans z⟩, by rw [if_neg cm, zb_add (by rw [e1, r9]; omega) (by rw [e1, r9]; omega), e1, r9]⟩⟩
      · have ea : aRun T (l + 1) s = aRun T l (aTell T s) := by rw [aRun, if_neg (zne c), if_neg c1]
        have eg : vEnd P T (l + 1) s τ = vEnd P T l (aTell T s) (F_X3_telling P τ) := by rw [vEnd, if_neg (zne c), if_neg c1]
        rw [if_neg c1] at hr
        rw [hr, ea, eg]
        exact ih _ (j + 1) _ _ (zp1 hx (by omega)) (by omega) (by omega) (vTell hd hT h c) (fun z => by have := aTell_i z; omega) l (by omega)
    · have ea : aRun T (l + 1) s = s := by rw [aRun, if_pos c]
      have eg : vEnd P T (l + 1) s τ = τ := by rw [vEnd, if_pos c]
      have c8 : ¬ (τ.1 P 8).toInt = 0 := fun z => c (h.2.1.symm.trans z)
      have no : aAns s ≠ 0 := by unfold aAns; rw [if_pos c]; exact c
      simp only [if_neg c8, ite_self] at hr
      rw [ea, eg]
      have fin : ∀ z : Int32, (zu τ.1 tt 0 z, τ.2.1, τ.2.2) = (zu (zu (zu τ.1 P 8 (τ.1 P 8)) P 9 (zu τ.1 P 8 (τ.1 P 8) P 9)) tt 0 z, τ.2.1, τ.2.2) := fun z => by rw [zu_id, zu_id]
      split at hr
      · exact ⟨_, _, _, (congrArg Prod.snd hr).trans (fin _), fun z => absurd z no⟩
      · exact ⟨_, _, _, (congrArg Prod.snd hr).trans (fin _), fun z => absurd z no⟩
theorem vEndI (hd : zVd P tk kA vA qA N) (hT : zTK T m) (I : zS → zA → γ → Prop) (st : zA → γ → γ) (hI : ∀ (τ : zS) (s : zA) (g : γ), zV P tk kA vA qA tt N m T τ s → s.1 = 0 → I τ s g → I (F_X3_telling P τ) (aTell T s) (st s g)) : ∀ (l : Nat) (τ : zS) (s : zA) (g : γ), zV P tk kA vA qA tt N m T τ s → I τ s g → zV P tk kA vA qA tt N m T (vEnd P T l s τ) (aRun T l s) ∧ I (vEnd P T l s τ) (aRun T l s) (gRun T st l s g) := by
  intro l
  induction l with
  | zero => intro τ s g h hi; exact ⟨h, hi⟩
  | succ l ih =>
    intro τ s g h hi
    rw [vEnd, aRun, gRun]
    by_cases c : s.1 = 0
    · rw [if_neg (zne c), if_neg (zne c), if_neg (zne c)]
      by_cases c1 : T.1 s.2.2.1 = 33
      · rw [if_pos c1, if_pos c1, if_pos c1]; exact ⟨h, hi⟩
      · rw [if_neg c1, if_neg c1, if_neg c1]
        exact ih _ _ _ (vTell hd hT h c) (hI _ _ _ h c hi)
    · rw [if_pos c, if_pos c, if_pos c]; exact ⟨h, hi⟩
end VRI
end
-- 35x38.rd4
section
/-! WHICH TELLING IT IS, the reference's side -/
/-- a number told, put down on the side that is told -/
noncomputable def mB1 (a j : Nat) (lo hi : Int32) (t : zS) : zS := (zu (F_X11_bounded a lo hi t).2.1 ((t.2.2 a j).getD 0) (t.1 a 19).toNatClampNeg (F_X11_bounded a lo hi t).1, (F_X11_bounded a lo hi t).2.2.1, (F_X11_bounded a lo hi t).2.2.2)
section XDISP
variable {a k q v nm nO m : Nat} {T : zTn} {τ : zS} {s : zA}
theorem xDisp (hd : zWd a k q v nm nO) (hT : zTm T m) (hK : zTK T m) (h : zXo a k q v nm nO m T τ s) (hs : s.1 = 0) :
    (T.1 s.2.2.1 = 0 → s.2.2.2.2.2.1 = 0 → F_X11_tellOne a τ = F_X11_tellMouth a (F_X11_goesOn a τ)) ∧
    (T.1 s.2.2.1 = 0 → s.2.2.2.2.2.1 ≠ 0 → F_X11_tellOne a τ = F_X11_fail a 2 τ) ∧
    (T.1 s.2.2.1 = 1 → s.2.2.2.2.2.2.1 ≠ 11 → F_X11_tellOne a τ = F_X11_tellPlace a (F_X11_goesOn a τ)) ∧
    (T.1 s.2.2.1 = 1 → s.2.2.2.2.2.2.1 = 11 → F_X11_tellOne a τ = F_X11_fail a 2 τ) ∧
    (2 ≤ T.1 s.2.2.1 → T.1 s.2.2.1 ≤ 6 → ∃ p : Int32, p.toInt = T.1 s.2.2.1 - 2 ∧ F_X11_tellOne a τ = F_X11_tellLaw a p (F_X11_goesOn a τ)) ∧
    (T.1 s.2.2.1 = 7 → F_X11_tellOne a τ = F_X11_must a 4 (mB1 a 27 0 99 (mB1 a 26 0 100 (F_X11_goesOn a τ)))) ∧
    (T.1 s.2.2.1 = 8 → F_X11_tellOne a τ = F_X11_must a 4 (mB1 a 28 0 99 (F_X11_goesOn a τ))) ∧
    (T.1 s.2.2.1 = 9 → F_X11_tellOne a τ = F_X11_must a 4 (mB1 a 29 0 9999 (F_X11_goesOn a τ))) ∧
    (T.1 s.2.2.1 > 9 → F_X11_tellOne a τ = F_X11_fail a 1 τ) := by
  obtain ⟨r1, r2, r3, r4, r5, r6, r7, r8, r9⟩ := h.1.2.2.2.2 hs
  have e5 : (τ.2.2 a 5).getD 0 = k := by rw [h.1.1.1.1]; rfl
  have ei : (τ.1 a 11).toNatClampNeg = s.2.2.1 := by rw [ztn, r2]; rfl
  have ek := (h.1.1.2.1 _ r1).1
  have rg := hT.2.1 _ r1
  have e11 : (11 : Int32).toInt = 11 := by decide
  have e22 : (22 : Int32).toInt = 22 := by decide
  have e26 : (26 : Int32).toInt = 26 := by decide
  have h13 := h.1.2.1.trans hs
  have zr : ∀ i : Int, 0 ≤ i → i ≤ 34 → zrho i = zrho (T.1 s.2.2.1) → T.1 s.2.2.1 = i := fun i h1 h2 z => zrho_inj _ _ rg.1 rg.2 h1 h2 z.symm
  have p2 := xFail hd h 2 2 (by decide) (by decide)
  have f2 : 0 < ((F_X11_fail a 2 τ).1 a 13).toInt := by
    have f : (aFail T 2 s).1 ≠ 0 := aFail_1 (by decide)
    have := p2.1.2.1
    have := p2.1.2.2.1
    omega
  have p1 := xFail hd h 1 1 (by decide) (by decide)
  have f1 : 0 < ((F_X11_fail a 1 τ).1 a 13).toInt := by
    have f : (aFail T 1 s).1 ≠ 0 := aFail_1 (by decide)
    have := p1.1.2.1
    have := p1.1.2.2.1
    omega
  obtain ⟨r, hr⟩ : ∃ r, r = F_X11_tellOne a τ := ⟨_, rfl⟩
  rw [← hr]
  unfold F_X11_tellOne at hr
  simp only [zlt, zlt2, e5, ei, e11, e26, r6, r7] at hr
  generalize hκ : τ.1 k s.2.2.1 = κ at ek hr
  have e : (κ - (22 : Int32)).toInt = κ.toInt - 22 := by
    have zb : ∀ b : Fin 35, 0 ≤ zrho b.val ∧ zrho b.val ≤ 41 := by decide +kernel
    have zb2 := zb ⟨(T.1 s.2.2.1).toNat, by omega⟩
    simp only at zb2
    rw [show (((T.1 s.2.2.1).toNat : Nat) : Int) = T.1 s.2.2.1 by omega, ← ek] at zb2
    rw [zb_sub (by rw [e22]; omega) (by rw [e22]; omega), e22]
  refine ⟨fun c0 cm => ?_, fun c0 cm => ?_, fun c1 cm => ?_, fun c1 cm => ?_, fun c2 c6 => ?_, fun c7 => ?_, fun c8 => ?_, fun c9 => ?_, fun c10 => ?_⟩
  · have k0 : κ.toInt = 20 := by rw [ek, c0]; decide
    rw [if_pos k0, if_pos cm, if_neg (by omega)] at hr
    exact hr
  · have k0 : κ.toInt = 20 := by rw [ek, c0]; decide
    rw [if_pos k0, if_neg cm, if_pos f2] at hr
    exact hr
  · have k1 : κ.toInt = 21 := by rw [ek, c1]; decide
    rw [if_neg (by omega), if_pos k1, if_neg cm, if_neg (by omega)] at hr
    exact hr
  · have k1 : κ.toInt = 21 := by rw [ek, c1]; decide
    rw [if_neg (by omega), if_pos k1, if_pos cm, if_pos f2] at hr
    exact hr
  · have kk : κ.toInt = T.1 s.2.2.1 + 20 := by
      rw [ek]
      rcases (show T.1 s.2.2.1 = 2 ∨ T.1 s.2.2.1 = 3 ∨ T.1 s.2.2.1 = 4 ∨ T.1 s.2.2.1 = 5 ∨ T.1 s.2.2.1 = 6 by omega) with z | z | z | z | z <;> (rw [z]; decide)
    refine ⟨κ - (22 : Int32), by omega, ?_⟩
    have L : (if (κ - (22 : Int32)).toInt < 0 then (if 0 < ((F_X11_fail a 1 τ).1 a 13).toInt then F_X11_fail a 1 τ else F_X11_tellLaw a (κ - (22 : Int32)) (F_X11_goesOn a (F_X11_fail a 1 τ))) else if 26 < κ.toInt then (if 0 < ((F_X11_fail a 1 τ).1 a 13).toInt then F_X11_fail a 1 τ else F_X11_tellLaw a (κ - (22 : Int32)) (F_X11_goesOn a (F_X11_fail a 1 τ))) else if 0 < (τ.1 a 13).toInt then τ else F_X11_tellLaw a (κ - (22 : Int32)) (F_X11_goesOn a τ)) = F_X11_tellLaw a (κ - (22 : Int32)) (F_X11_goesOn a τ) := by rw [if_neg (by omega), if_neg (by omega), if_neg (by omega)]
    rw [if_neg (by omega), if_neg (by omega)] at hr
    rcases (show κ.toInt = 22 ∨ κ.toInt = 23 ∨ κ.toInt = 24 ∨ κ.toInt = 25 ∨ κ.toInt = 26 by omega) with z | z | z | z | z
    · rw [if_pos z] at hr; exact hr.trans L
    · rw [if_neg (by omega), if_pos z] at hr; exact hr.trans L
    · rw [if_neg (by omega), if_neg (by omega), if_pos z] at hr; exact hr.trans L
    · rw [if_neg (by omega), if_neg (by omega), if_neg (by omega), if_pos z] at hr; exact hr.trans L
    · rw [if_neg (by omega), if_neg (by omega), if_neg (by omega), if_neg (by omega), if_pos z] at hr; exact hr.trans L
  · have k7 : κ.toInt = 27 := by rw [ek, c7]; decide
    rw [if_neg (by omega), if_neg (by omega), if_neg (by omega), if_neg (by omega), if_neg (by omega), if_neg (by omega), if_neg (by omega), if_pos k7] at hr
    rw [hr]
    rfl
  · have k8 : κ.toInt = 28 := by rw [ek, c8]; decide
    rw [if_neg (by omega), if_neg (by omega), if_neg (by omega), if_neg (by omega), if_neg (by omega), if_neg (by omega), if_neg (by omega), if_neg (by omega), if_pos k8] at hr
    rw [hr]
    rfl
  · have k9 : κ.toInt = 29 := by rw [ek, c9]; decide
    rw [if_neg (by omega), if_neg (by omega), if_neg (by omega), if_neg (by omega), if_neg (by omega), if_neg (by omega), if_neg (by omega), if_neg (by omega), if_neg (by omega), if_pos k9] at hr
    rw [hr]
    rfl
  · have kk : κ.toInt < 20 ∨ 30 ≤ κ.toInt := by
      have law : ∀ b : Fin 35, (b.val : Int) > 9 → zrho b.val < 20 ∨ 30 ≤ zrho b.val := by decide +kernel
      have law2 := law ⟨(T.1 s.2.2.1).toNat, by omega⟩
      simp only at law2
      rw [show (((T.1 s.2.2.1).toNat : Nat) : Int) = T.1 s.2.2.1 by omega, ← ek] at law2
      exact law2 (by omega)
    rw [if_neg (by omega), if_neg (by omega), if_neg (by omega), if_neg (by omega), if_neg (by omega), if_neg (by omega), if_neg (by omega), if_neg (by omega), if_neg (by omega), if_neg (by omega)] at hr
    rw [hr]
    split
    · rfl
    · split
      · rfl
      · omega
end XDISP
/-! and the class' side -/
/-- a number told, put down in the text -/
noncomputable def cB1 (P j : Nat) (lo hi : Int32) (t : zS) : zS := (zu (F_X3_number P lo hi t).2.1 ((t.2.2 P 1).getD 0) j (F_X3_number P lo hi t).1, (F_X3_number P lo hi t).2.2.1, (F_X3_number P lo hi t).2.2.2)
section VDISP
variable {P tk kA vA qA tt N m : Nat} {T : zTn} {σ : zS} {s : zA}
theorem vDisp (h : zV P tk kA vA qA tt N m T σ s) (hs : s.1 = 0) :
    (T.1 s.2.2.1 = 0 → F_X3_telling P σ = F_X3_take P 24 (F_X3_mouth P σ)) ∧
    (T.1 s.2.2.1 = 1 → F_X3_telling P σ = F_X3_take P 24 (F_X3_newPlace P σ)) ∧
    (2 ≤ T.1 s.2.2.1 → T.1 s.2.2.1 ≤ 6 → ∃ p : Int32, p.toInt = T.1 s.2.2.1 - 2 ∧ F_X3_telling P σ = F_X3_take P 24 (F_X3_law P p σ)) ∧
    (T.1 s.2.2.1 = 7 → F_X3_telling P σ = F_X3_take P 24 (cB1 P 11 0 99 (cB1 P 10 0 100 (F_X3_take P (σ.1 P 3) σ)))) ∧
    (T.1 s.2.2.1 = 8 → F_X3_telling P σ = F_X3_take P 24 (cB1 P 12 0 99 (F_X3_take P (σ.1 P 3) σ))) ∧
    (T.1 s.2.2.1 = 9 → F_X3_telling P σ = F_X3_take P 24 (cB1 P 13 0 9999 (F_X3_take P (σ.1 P 3) σ))) ∧
    (T.1 s.2.2.1 > 9 → F_X3_telling P σ = F_X3_take P 24 (F_X3_fail P 1 σ)) := by
  obtain ⟨r1, r2, r3, -⟩ := h.2.2.2 hs
  have e1 : (1 : Int32).toInt = 1 := by decide
  have e2 : (2 : Int32).toInt = 2 := by decide
  have e6 : (6 : Int32).toInt = 6 := by decide
  have e7 : (7 : Int32).toInt = 7 := by decide
  have e8 : (8 : Int32).toInt = 8 := by decide
  have e9 : (9 : Int32).toInt = 9 := by decide
  obtain ⟨r, hr⟩ : ∃ r, r = F_X3_telling P σ := ⟨_, rfl⟩
  rw [← hr]
  unfold F_X3_telling at hr
  simp only [zlt, zlt2, cWithin, e1, e2, e6, e7, e8, e9, r3] at hr
  refine ⟨fun c => ?_, fun c => ?_, fun c c' => ?_, fun c => ?_, fun c => ?_, fun c => ?_, fun c => ?_⟩
  · rw [if_pos c] at hr
    exact hr
  · rw [if_neg (by omega), if_pos c] at hr
    exact hr
  · rw [if_neg (by omega), if_neg (by omega), if_neg (fun z => z ⟨c, c'⟩)] at hr
    exact ⟨_, by rw [zb_sub (by rw [r3, e2]; omega) (by rw [r3, e2]; omega), r3, e2], hr⟩
  · rw [if_neg (by omega), if_neg (by omega), if_pos (fun z => by omega), if_pos c] at hr
    exact hr
  · rw [if_neg (by omega), if_neg (by omega), if_pos (fun z => by omega), if_neg (by omega), if_pos c] at hr
    exact hr
  · rw [if_neg (by omega), if_neg (by omega), if_pos (fun z => by omega), if_neg (by omega), if_neg (by omega), if_pos c] at hr
    exact hr
  · rw [if_neg (by omega), if_neg (by omega), if_pos (fun z => by omega), if_neg (by omega), if_neg (by omega), if_neg (by omega)] at hr
    exact hr
end VDISP
end
-- 35x39.rel24
section
theorem ivL {b p iv : Nat} {n : Int} (h0 : 0 ≤ n) (h : iv = 12 * b + (n + 1).toNat) : (p : Int) = n + 1 ↔ 12 * b + p = iv := by omega
theorem ivM {p : Nat} {n : Int} (h : (p : Int) ≤ n + 1) (h2 : ¬ (p : Int) = n + 1) : (p : Int) ≤ n := by omega
section RTG2
variable {a k q v nm nO m b : Nat} {T : zTn} {τ τ' : zS} {s s' : zA} {Y : Nat → Nat} {g : zGa} {R : Nat → Nat → Option Nat}
def zYz (Y : Nat → Nat) (a : Nat) (R : Nat → Nat → Option Nat) : Prop := (∀ j, zQs j → (R a j).getD 0 = Y j ∧ Y j ≠ a) ∧ ∀ i j, zQs i → zQs j → i ≠ j → Y i ≠ Y j
theorem zYz.n (h : zYz Y a R) : (∀ i j, 21 ≤ i → i ≤ 25 → 21 ≤ j → j ≤ 25 → i ≠ j → Y i ≠ Y j) ∧ ∀ i, 21 ≤ i → i ≤ 25 → Y i ≠ a := by
  have q : ∀ i, 21 ≤ i → i ≤ 25 → zQs i := fun i h1 h2 => by unfold zQs; omega
  exact ⟨fun i j h1 h2 h3 h4 h5 => h.2 i j (q i h1 h2) (q j h3 h4) h5, fun i h1 h2 => (h.1 i (q i h1 h2)).2⟩
theorem xRows {t0 t1 t2 t3 t6 F : zS} {v23 x1 x2 x3 : Int32} {iv i : Nat} (n2 : ∀ i j, 21 ≤ i → i ≤ 25 → 21 ≤ j → j ≤ 25 → i ≠ j → Y i ≠ Y j) (n1 : ∀ i, 21 ≤ i → i ≤ 25 → Y i ≠ a) (A1 : zFi (fun c _ => c = a) τ t0) (B1 : zFi (fun c _ => c = a) (zu t0.1 (Y 22) iv v23, t0.2.1, t0.2.2) t1) (B2 : zFi (fun c _ => c = a) (zu t1.1 (Y 23) iv x1, t1.2.1, t1.2.2) t2) (B3 : zFi (fun c _ => c = a) (zu t2.1 (Y 24) iv x2, t2.2.1, t2.2.2) t3) (B4 : zFi (fun c _ => c = a) (zu t3.1 (Y 25) iv x3, t3.2.1, t3.2.2) t6) (hF : zFi (fun c _ => c = a ∨ c = Y 21) t6 F) : F.1 (Y 22) i = (if i = iv then v23 else τ.1 (Y 22) i) ∧ F.1 (Y 23) i = (if i = iv then x1 else τ.1 (Y 23) i) ∧ F.1 (Y 24) i = (if i = iv then x2 else τ.1 (Y 24) i) ∧ F.1 (Y 25) i = (if i = iv then x3 else τ.1 (Y 25) i) ∧ t6.1 (Y 21) = τ.1 (Y 21) := by
  have m22 : ¬ Y 22 = a := n1 22 (by decide) (by decide)
  have m23 : ¬ Y 23 = a := n1 23 (by decide) (by decide)
  have m24 : ¬ Y 24 = a := n1 24 (by decide) (by decide)
  have m25 : ¬ Y 25 = a := n1 25 (by decide) (by decide)
  have D : ∀ j, (j = 22 ∨ j = 23 ∨ j = 24 ∨ j = 25) → F.1 (Y j) i = zu (zu (zu (zu τ.1 (Y 22) iv v23) (Y 23) iv x1) (Y 24) iv x2) (Y 25) iv x3 (Y j) i := fun j hj => by
    have mj : ¬ Y j = a := n1 j (by omega) (by omega)
    have m21 : ¬ Y j = Y 21 := n2 j 21 (by omega) (by omega) (by omega) (by omega) (by omega)
    have e0 : t0.1 (Y j) = τ.1 (Y j) := funext (fun i => A1.2 _ _ mj)
    have w : ∀ {f g : Nat → Nat → Int32} {r : Nat} {v : Int32}, f (Y j) = g (Y j) → zu f r iv v (Y j) = zu g r iv v (Y j) := fun {f g r v} e => by
      funext x
      unfold zu
      rw [e]
    have e1 : t1.1 (Y j) = zu τ.1 (Y 22) iv v23 (Y j) := (funext (fun i => B1.2 _ _ mj)).trans (w e0)
    have e2 : t2.1 (Y j) = zu (zu τ.1 (Y 22) iv v23) (Y 23) iv x1 (Y j) := (funext (fun i => B2.2 _ _ mj)).trans (w e1)
    have e3 : t3.1 (Y j) = zu (zu (zu τ.1 (Y 22) iv v23) (Y 23) iv x1) (Y 24) iv x2 (Y j) := (funext (fun i => B3.2 _ _ mj)).trans (w e2)
    have e6 : t6.1 (Y j) = zu (zu (zu (zu τ.1 (Y 22) iv v23) (Y 23) iv x1) (Y 24) iv x2) (Y 25) iv x3 (Y j) := (funext (fun i => B4.2 _ _ mj)).trans (w e3)
    rw [hF.2 _ _ (fun z => z.elim mj m21), e6]
  have s : ∀ (f : Nat → Nat → Int32) (r : Nat) (v : Int32), zu f r iv v r i = if i = iv then v else f r i := fun f r v => by
    unfold zu
    rw [if_pos rfl]
  have n : ∀ (f : Nat → Nat → Int32) (r r' : Nat) (v : Int32), r ≠ r' → zu f r iv v r' i = f r' i := fun f r r' v h => by rw [zu_n _ _ _ (fun z => h z.symm)]
  have d : ∀ i j, 21 ≤ i ∧ i ≤ 25 ∧ 21 ≤ j ∧ j ≤ 25 ∧ i ≠ j → Y i ≠ Y j := fun i j h => n2 i j h.1 h.2.1 h.2.2.1 h.2.2.2.1 h.2.2.2.2
  refine ⟨?_, ?_, ?_, ?_, ?_⟩
  · rw [D 22 (by decide), n _ _ _ _ (d 25 22 (by decide)), n _ _ _ _ (d 24 22 (by decide)), n _ _ _ _ (d 23 22 (by decide)), s]
  · rw [D 23 (by decide), n _ _ _ _ (d 25 23 (by decide)), n _ _ _ _ (d 24 23 (by decide)), s, n _ _ _ _ (d 22 23 (by decide))]
  · rw [D 24 (by decide), n _ _ _ _ (d 25 24 (by decide)), s, n _ _ _ _ (d 23 24 (by decide)), n _ _ _ _ (d 22 24 (by decide))]
  · rw [D 25 (by decide), s, n _ _ _ _ (d 24 25 (by decide)), n _ _ _ _ (d 23 25 (by decide)), n _ _ _ _ (d 22 25 (by decide))]
  · have m21 : ¬ Y 21 = a := n1 21 (by decide) (by decide)
    have e0 : t0.1 (Y 21) = τ.1 (Y 21) := funext (fun i => A1.2 _ _ m21)
    have e1 : t1.1 (Y 21) = τ.1 (Y 21) := (funext (fun i => B1.2 _ _ m21)).trans ((zu_n _ _ _ (d 21 22 (by decide))).trans e0)
    have e2 : t2.1 (Y 21) = τ.1 (Y 21) := (funext (fun i => B2.2 _ _ m21)).trans ((zu_n _ _ _ (d 21 23 (by decide))).trans e1)
    have e3 : t3.1 (Y 21) = τ.1 (Y 21) := (funext (fun i => B3.2 _ _ m21)).trans ((zu_n _ _ _ (d 21 24 (by decide))).trans e2)
    exact (funext (fun i => B4.2 _ _ m21)).trans ((zu_n _ _ _ (d 21 25 (by decide))).trans e3)
end RTG2
end
