/-! ALL THAT CAN BE COUNTED: count, both alike -/
section COUNT
variable {κ : Int} {L1 : List Nat} {kd1 : Nat → Nat} {L2 : List Nat} {kd2 : Nat → Nat} {σ1 σ2 τ1 τ2 : zS} {m0 x0 : Nat} {V : zWh} {ps pc sl rv sh cd N : Nat} {v1 v2 p : Int32}
/-- cells that a look doesn't write -/
theorem zRL.lookK (h : zRL zQw L1 kd1 x0 m0 V ps pc sl rv sh cd σ1 σ2) (hl : zLen x0 m0 σ1 σ2) (hx : zT L1 kd1 x0 10) (hI : zI κ 0 L1 kd1 σ1) (hJ : zJ κ L2 kd2 σ2) (hm : zT L2 kd2 m0 11) (hg : gN m0 σ2) : ∀ c kc, zT L1 kd1 c kc → ¬ (kc = 6 ∨ kc = 20 ∨ kc = 21 ∨ kc = 30 ∨ kc = 31 ∨ kc = 33 ∨ kc = 34 ∨ kc = 35 ∨ kc = 36 ∨ kc = 38) → (F_X10_look x0 σ1).1 c = σ1.1 c := by
  obtain ⟨N, u, FR, SR, ℓ, l, -, -, -, ⟨-, C2, -⟩, -⟩ := h.lk zGd.q1 hl hx hI hJ hm hg
  exact fun c kc hc hk => funext (fun j => C2 c j (by
    unfold zKs
    rw [hc.2]
    exact hk))
/-- the mouth is nowhere far -/
theorem zRL.far0 (h : zRL zQw L1 kd1 x0 m0 V ps pc sl rv sh cd σ1 σ2) (hl : zLen x0 m0 σ1 σ2) (hx : zT L1 kd1 x0 10) (hI : zI κ 0 L1 kd1 σ1) (hJ : zJ κ L2 kd2 σ2) (hm : zT L2 kd2 m0 11) (hg : gN m0 σ2) (hN : 0 < zM m0 σ2) : (F_X11_copies m0 σ2).1 (mR σ2 m0 52) 0 = 0 ∧ ((F_X10_look x0 σ1).1 sh 0).toInt = zM m0 σ2 := by
  obtain ⟨N, u, FR, SR, ℓ, l, ⟨n1, n2, n3, n4⟩, ⟨F0, -⟩, -, ⟨-, -, c1, -⟩, hM⟩ := h.lk zGd.q1 hl hx hI hJ hm hg
  exact ⟨by rw [(hM.2.2.1 0 (by omega)).1, F0], by rw [c1, n2]⟩
/-- what is dammed, as the reference's bits behind a copy -/
theorem zRL.dmC (h : zRL zQx L1 kd1 x0 m0 V ps pc sl rv sh cd σ1 σ2) (hJ : zJ κ L2 kd2 σ2) (hm : zT L2 kd2 m0 11) (n2 : zM m0 σ2 = N) (hN12 : N ≤ 12) : F_X11_dammedBits m0 (F_X11_copies m0 σ2) = σ1.1 (V.1 0) 3 := by
  have h' : zRL zQw L1 kd1 x0 m0 V ps pc sl rv sh cd σ1 σ2 := h.mono (fun _ _ _ z => z.1)
  obtain ⟨-, -, N', n, uu, ⟨-, a2, -⟩, ⟨-, -, hd⟩, -⟩ := id h
  obtain rfl : N' = N := by omega
  obtain ⟨cp1, -, cp3⟩ := zCopies2 hJ hm
  have mN : (F_X11_many m0 (F_X11_copies m0 σ2)).toInt = N' := by rw [mMany_g hJ hm cp3 (by rfl) (by rfl) (by rfl)]; exact n2
  have mN2 : (F_X11_many m0 σ2).toInt = N' := by rw [mMany]; exact n2
  have r48 : (F_X11_copies m0 σ2).1 (mR σ2 m0 48) = σ2.1 (mR σ2 m0 48) := zFm.row hJ hm cp3 (s := 48) (by rfl) (by rfl) (by rfl)
  have rg : ((F_X11_copies m0 σ2).2.2 m0 48).getD 0 = mR σ2 m0 48 := by rw [cp1]
  have rg2 : (σ2.2.2 m0 48).getD 0 = mR σ2 m0 48 := rfl
  have lp : ∀ (n : Nat) (x y : Int32), F_X11_dammedBits_4 m0 (F_X11_copies m0 σ2) n x y = F_X11_dammedBits_4 m0 σ2 n x y := by
    intro n
    induction n with
    | zero => intro x y; rw [F_X11_dammedBits_4, F_X11_dammedBits_4]
    | succ n ih =>
      intro x y
      rw [F_X11_dammedBits_4, F_X11_dammedBits_4]
      simp only [↓zlt, rg, rg2, r48]
      by_cases d : x.toInt < N'
      · rw [if_pos (show x.toInt < (F_X11_many m0 (F_X11_copies m0 σ2)).toInt by omega), if_pos (show x.toInt < (F_X11_many m0 σ2).toInt by omega)]
        exact ih _ _
      · rw [if_neg (show ¬ x.toInt < (F_X11_many m0 (F_X11_copies m0 σ2)).toInt by omega), if_neg (show ¬ x.toInt < (F_X11_many m0 σ2).toInt by omega)]
  have e : F_X11_dammedBits m0 (F_X11_copies m0 σ2) = F_X11_dammedBits m0 σ2 := by
    unfold F_X11_dammedBits
    simp only [zlt]
    exact lp _ _ _
  rw [e]
  refine b_ext (fun j hj => ?_)
  have a := h'.dmB n2 hN12 j hj
  have b := hd j hj
  have b' : bt (σ1.1 (V.1 0) 3) j = true → 1 ≤ j ∧ j < N' := b
  cases c : bt (σ1.1 (V.1 0) 3) j with
  | true => exact a.mpr ⟨(b' c).1, (b' c).2, c⟩
  | false =>
    cases d : bt (F_X11_dammedBits m0 σ2) j with
    | false => rfl
    | true =>
      have := (a.mp d).2.2
      rw [c] at this
      exact this.symm
theorem zRL.count (h : zRL zQx L1 kd1 x0 m0 V ps pc sl rv sh cd σ1 σ2) (hw : 0 < zM m0 σ2 → zLw x0 m0 σ1 σ2) (hl : zLen x0 m0 σ1 σ2) (hT : zTy x0 m0 σ1 σ2) (hH : zHs x0 σ1) (hx : zT L1 kd1 x0 10) (hI : zI κ 0 L1 kd1 σ1) (hJ : zJ κ L2 kd2 σ2) (hm : zT L2 kd2 m0 11) (hg : gN m0 σ2) (f1 : (v1, τ1) = F_X10_count x0 p σ1) (f2 : (v2, τ2) = F_X11_count m0 p σ2) : v1.toInt = v2.toInt := by
  have h' : zRL zQw L1 kd1 x0 m0 V ps pc sl rv sh cd σ1 σ2 := h.mono (fun _ _ _ z => z.1)
  obtain ⟨td, B, N, gl, u, l, q, Y, d1, n2, eL, xr, ⟨hq, hY⟩, ⟨S, Dn, FL, RN⟩, -, -⟩ := h'.now hw hl hx hI hJ hm hg
  have hL := h.1
  have hV := h.2.1
  have LK := h'.lookK hl hx hI hJ hm hg
  have SRC := h'.srcE hl hx hI hJ hm hg
  have DM := h.dmC hJ hm n2 S.1.2.2.2.1
  have F0 := fun hN => h'.far0 hl hx hI hJ hm hg hN
  have LT := lots50 hJ hm
  obtain ⟨cp1, cp2, cp3⟩ := zCopies2 hJ hm
  obtain ⟨-, -, N', n', uu, ⟨a1, a2, a3, a4, a5, a6, a7, a8, a9⟩, ⟨Qk, Qm, Qd⟩, -, hh⟩ := id h
  obtain rfl : N' = N := by omega
  have g10 : (σ1.2.2 x0 10).getD 0 = td := by rw [d1]; rfl
  rw [g10] at a1
  obtain ⟨td9, d9, t9⟩ := zi_ref (j := 10) (k2 := 9) hI hx (by rfl)
  obtain rfl : td9 = td := Option.some.inj (d9.symm.trans d1)
  have tr := zTt_k hI t9
  obtain ⟨dy, y1, y2⟩ := zi_ref (j := 5) (k2 := 2) hI hx (by rfl)
  obtain ⟨tp, p1, p2⟩ := zi_ref (j := 0) (k2 := 7) hI hx (by rfl)
  have gy : (σ1.2.2 x0 5).getD 0 = dy := by rw [y1]; rfl
  have gp : (σ1.2.2 x0 0).getD 0 = tp := by rw [p1]; rfl
  rw [gy] at a9
  have tps : zT L1 kd1 ps 4 := hL.2.2.2.2.2.2.1
  have g6 : (σ1.2.2 x0 6).getD 0 = V.1 0 := by rw [hL.1.1]; rfl
  have g4 : (σ1.2.2 x0 4).getD 0 = ps := by rw [hL.1.2.2.2.1]; rfl
  have g3 : (σ1.2.2 x0 3).getD 0 = sh := by rw [hV.1.2.1]; rfl
  have g2 : (σ1.2.2 x0 2).getD 0 = rv := xrv hV
  have q0 : q 0 = rv := by rw [hq]; rfl
  have q1 : q 1 = sh := by rw [hq]; rfl
  have q3 : q 3 = td9 := by rw [hq]; rfl
  have q4 : q 4 = V.1 0 := by rw [hq]; rfl
  have q10 : q 10 = (σ1.2.2 td9 3).getD 0 := by rw [hq]; rfl
  have q11 : q 11 = (σ1.2.2 td9 4).getD 0 := by rw [hq]; rfl
  have q19 : q 19 = V.2.1 0 := by rw [hq]; rfl
  have q21 : q 21 = V.2.2.2 0 := by rw [hq]; rfl
  obtain ⟨s, hs⟩ : ∃ s, s = F_X10_look x0 σ1 := ⟨_, rfl⟩
  obtain ⟨t, ht⟩ : ∃ t, t = F_X11_copies m0 σ2 := ⟨_, rfl⟩
  have hS7 : ([49, 54, 52, 53, 45, 46, 55] : List Nat).all (fun t => zf 0 11 t == some (100 + t)) = true := by rfl
  rw [← hs] at S Dn FL RN xr LK SRC F0
  rw [← ht] at S Dn FL SRC DM F0 LT cp1 cp2 cp3
  have hN12 := S.1.2.2.2.1
  have hB := S.2.1.2.1
  have hB1 := S.2.1.2.2.1
  have tf : ∀ j, (j = 2 ∨ j = 18 ∨ j = 57 ∨ j = 62) → t.1 m0 j = σ2.1 m0 j := fun j hj => by
    rcases hj with rfl | rfl | rfl | rfl <;> exact zFm.fld hJ hm cp3 (by rfl) (by rfl)
  have tg : ∀ j, (t.2.2 m0 j).getD 0 = mR σ2 m0 j := fun j => by rw [cp1]
  have mN : (F_X11_many m0 t).toInt = N' := S.2.1.2.2.2.2.1
  have sd : s.1 td9 = σ1.1 td9 := LK td9 9 t9 (by omega)
  have n0 : (s.1 td9 0).toInt = N' := by rw [sd]; exact a1
  have w0 : (0 : Int32).toNatClampNeg = 0 := by decide
  have w1 : (1 : Int32).toNatClampNeg = 1 := by decide
  have w2 : (2 : Int32).toNatClampNeg = 2 := by decide
  have w48 : (48 : Int32).toNatClampNeg = 48 := by decide
  have w49 : (49 : Int32).toNatClampNeg = 49 := by decide
  obtain ⟨-, d4, d5, -, -⟩ := id Dn
  rw [q4, hY] at d4 d5
  obtain ⟨td', B', e1, e2, e3, e4, e5⟩ := hT
  rw [g10] at e1
  subst e1
  have eB : B' = B := by
    have := tf 18 (by omega)
    rw [this] at hB
    omega
  rw [eB] at e2 e3 e5
  have nB : (σ2.1 m0 18).toNatClampNeg = B := by rw [ztn, ← tf 18 (by omega), hB]; rfl
  have nB' : (t.1 m0 18).toNatClampNeg = B := by rw [tf 18 (by omega)]; exact nB
  have row : ∀ j, j = 22 ∨ j = 26 ∨ j = 29 ∨ j = 67 → t.1 (mR σ2 m0 j) = σ2.1 (mR σ2 m0 j) := fun j hj => by
    rcases hj with rfl | rfl | rfl | rfl <;> exact zFm.row hJ hm cp3 (by rfl) hS7 (by rfl)
  have s9 : ∀ j, s.2.2 td9 j = σ1.2.2 td9 j := fun j => by rw [hs]; exact (zLookN hL hV).1 td9 j (fun z => zNk t9 hV.2.1.2.1 (by decide) z.1)
  have sC : ∀ j, s.2.2 (V.1 0) j = σ1.2.2 (V.1 0) j := fun j => by rw [hs]; exact (zLookN hL hV).1 (V.1 0) j (fun z => zNk ((hL.2.2.2.1 0 (by decide)).1.1) hV.2.1.2.1 (by decide) z.1)
  obtain ⟨gA0, gA1, gA2⟩ := hL.gA (k := 0) (by decide)
  unfold F_X10_count at f1
  unfold F_X11_count at f2
  simp only [zlt] at f1 f2
  rw [← hs] at f1
  rw [← ht] at f2
  by_cases c0 : p.toInt = 0
  · rw [if_pos c0] at f1 f2
    simp only [xr, g10] at f1
    rw [(zPr2 f1).1, (zPr2 f2).1, n0, mN]
  rw [if_neg c0] at f1 f2
  by_cases c1 : p.toInt = 1
  · rw [if_pos c1] at f1 f2
    simp only [xr, g6] at f1
    simp only [tg, w48] at f2
    rw [(zPr2 f1).1, (zPr2 f2).1, d4]
  rw [if_neg c1] at f1 f2
  by_cases c2 : p.toInt = 2
  · rw [if_pos c2] at f1 f2
    unfold F_X1_moon at f1
    simp only [xr, g6, zlt, zlt2] at f1
    simp only [tg, w48] at f2
    rw [(zPr2 f1).1, (zPr2 f2).1, d4]
  rw [if_neg c2] at f1 f2
  by_cases c3 : p.toInt = 3
  · rw [if_pos c3] at f1 f2
    simp only [xr, g6] at f1
    simp only [tg, w49] at f2
    rw [(zPr2 f1).1, (zPr2 f2).1, d5]
  rw [if_neg c3] at f1 f2
  by_cases c4 : p.toInt = 4
  · rw [if_pos c4] at f1 f2
    simp only [xr, g3, SRC, zlt2] at f1
    rw [(zPr2 f1).1, (zPr2 f2).1]
  rw [if_neg c4] at f1 f2
  by_cases c5 : p.toInt = 5
  · rw [if_pos c5] at f1 f2
    simp only [xr, g6] at f1
    have := h'.lookD
    rw [← hs] at this
    rw [(zPr2 f1).1, (zPr2 f2).1, DM, this]
  rw [if_neg c5] at f1 f2
  by_cases c6 : p.toInt = 6
  · rw [if_pos c6] at f1 f2
    by_cases hN : 0 < N'
    · have MF := cMouthF (q := q) (x0 := x0) (t1 := s) (td := td9) (by rw [xr, q0]; exact g2) (by rw [xr]; exact g10) S.1.1.1.1.2.2.2.2.2.1 (by omega)
      rw [MF] at f1
      simp only [zlt2] at f1
      rw [if_neg (by omega)] at f2
      simp only [tg, w0] at f2
      rw [(zPr2 f1).1, (zPr2 f2).1, (FL 0 hN).1, hY]
    · rw [if_pos (by omega)] at f2
      unfold F_X10_mouthFlow F_X10_hasMouth at f1
      simp only [zlt, xr, g10] at f1
      rw [if_neg (show ¬ 0 < (s.1 td9 0).toInt by omega)] at f1
      simp only [zlt2] at f1
      rw [if_pos (show (0 : Int32).toInt = 0 by decide)] at f1
      simp only [zlt2] at f1
      rw [(zPr2 f1).1, (zPr2 f2).1]
  rw [if_neg c6] at f1 f2
  by_cases c7 : p.toInt = 7
  · rw [if_pos c7] at f1 f2
    simp only [xr, g6, sC, gA2] at f1
    have a := sumC (s := s) (x0 := x0) (r := V.2.2.2 0) (by rw [xr]; exact g10) n0 hN12
    have b := sumM1 (t := t) (m0 := m0) (A := mR σ2 m0 49) (p := p) (f := s.1 (V.2.2.2 0)) (tg 49) mN hN12 (fun j hj => by
      have k := (Dn.1 j hj).2.1
      rw [q21, hY] at k
      exact k.symm) (fun hN => by
      rw [LK (V.2.2.2 0) 24 (hL.2.2.2.1 0 (by decide)).1.2.2.2 (by omega)]
      exact Qm)
    rw [show v1 = _ from congrArg Prod.fst f1, show v2 = _ from congrArg Prod.fst f2]
    exact congrArg Int32.toInt (a.trans b.symm)
  rw [if_neg c7] at f1 f2
  by_cases c8 : p.toInt = 8
  · rw [if_pos c8] at f1 f2
    simp only [xr, gp] at f1
    have a := zi_get (j := 1) hI p2 (lo := κ) (hi := κ) (by rfl)
    have b := zj_get (j := 2) hJ hm (lo := κ) (hi := κ) (by rfl)
    rw [(zPr2 f1).1, (zPr2 f2).1, LK tp 7 p2 (by omega), tf 2 (by omega)]
    omega
  rw [if_neg c8] at f1 f2
  by_cases c9 : p.toInt = 9
  · rw [if_pos c9] at f1 f2
    simp only [xr, g4] at f1
    rw [(zPr2 f1).1, (zPr2 f2).1, LK ps 4 tps (by omega), tf 57 (by omega)]
    omega
  rw [if_neg c9] at f1 f2
  by_cases c10 : p.toInt = 10
  · rw [if_pos c10] at f1 f2
    simp only [xr, gy] at f1
    rw [(zPr2 f1).1, (zPr2 f2).1, LK dy 2 y2 (by omega), tf 62 (by omega)]
    exact a9
  rw [if_neg c10] at f1 f2
  by_cases c11 : p.toInt = 11
  · rw [if_pos c11] at f1 f2
    have eT : (0 : Int32).toInt = 0 := by decide
    have nT : ¬ (1 : Int32).toInt = 0 := by decide
    have hv : s.1 x0 12 = σ1.1 x0 12 := by rw [LK x0 10 hx (by omega)]
    have hi : ∀ j, 3 ≤ j → j < 32 → bt (s.1 x0 12) j = false := by rw [hv]; exact hH
    have R : ∀ j, j < 3 → (bt (s.1 x0 12) j = true ∧ t.1 (mR σ2 m0 67) j = 1) ∨ (bt (s.1 x0 12) j = false ∧ t.1 (mR σ2 m0 67) j = 0) := fun j hj => by
      rw [hv, row 67 (by omega)]
      rcases hh j hj with ⟨z1, z2, -⟩ | ⟨z1, z2⟩
      · exact Or.inl ⟨z1, z2⟩
      · exact Or.inr ⟨z1, z2⟩
    simp only [tg, w0, w1, w2] at f2
    rw [(zPr2 f1).1, held3 hi]
    rcases R 0 (by decide) with ⟨b0, r0⟩ | ⟨b0, r0⟩ <;> rcases R 1 (by decide) with ⟨b1, r1⟩ | ⟨b1, r1⟩ <;> rcases R 2 (by decide) with ⟨b2, r2⟩ | ⟨b2, r2⟩ <;> rw [r0, r1, r2] at f2 <;> (repeat first | rw [if_pos eT] at f2 | rw [if_neg nT] at f2) <;> rw [(zPr2 f2).1, b0, b1, b2] <;> decide
  rw [if_neg c11] at f1 f2
  by_cases c12 : p.toInt = 12
  · rw [if_pos c12] at f1 f2
    simp only [xr, g10, g6] at f1
    have St : (F_X9_isStorm td9 (s.1 td9 13) (s.1 (V.1 0) 4) s).1 = F_X11_isStorm m0 t := by
      rcases e3 with e3 | ⟨o1, o2⟩
      · have k := stormEq (s1 := s) (s2 := t) (Y := Y) (a := m0) (b := B) (t := td9) (x := s.1 td9 13) (w := s.1 (V.1 0) 4) S.2.1.1 hB (by
          rw [sd, hY, row 26 (by omega)]
          exact e3 0 (by decide)) (by
          rw [sd, LT, nB]
          exact e3 3 (by decide)) (by rw [d4, hY])
        rw [k]
      · rw [cStorm0 (s := s) (td := td9) (by rw [sd]; exact o1), mStorm0 (t := t) (m0 := m0) (A := mR σ2 m0 26) (B := B) (tg 26) nB' (by rw [row 26 (by omega)]; exact o2)]
    obtain ⟨W, hW⟩ : ∃ W, W = F_X9_isStorm td9 (s.1 td9 13) (s.1 (V.1 0) 4) s := ⟨_, rfl⟩
    rw [← hW] at f1 St
    rw [← St] at f2
    by_cases k : W.1.toInt = 0
    · rw [if_pos k] at f2
      have f1' : (v1, τ1) = ((0 : Int32), W.2) := f1.trans (if_pos k)
      rw [(zPr2 f1').1, (zPr2 f2).1]
    · rw [if_neg k] at f2
      have f1' : (v1, τ1) = ((1 : Int32), W.2) := f1.trans (if_neg k)
      rw [(zPr2 f1').1, (zPr2 f2).1]
  rw [if_neg c12] at f1 f2
  by_cases c13 : p.toInt = 13
  · rw [if_pos c13] at f1 f2
    simp only [xr, g10, s9, ← q10] at f1
    have a := sumC (s := s) (x0 := x0) (r := q 10) (by rw [xr]; exact g10) n0 hN12
    have b := sumM2 (t := t) (m0 := m0) (A := mR σ2 m0 23) (p := p) (f := s.1 (q 10)) (tg 23) mN hN12 hB hB1 (fun j hj => by
      have k := (S.2.2.1 j hj).2.2.2.1
      rw [hY] at k
      exact k.symm) (fun hN => by
      rw [LK (q 10) 46 (by rw [q10]; exact tr 3 (by decide) (by decide) (by decide)) (by omega), q10]
      exact Int32.toInt_inj.mp ((e4 (by omega) 3 (by decide) (by decide)).trans (by decide)))
    rw [show v1 = _ from congrArg Prod.fst f1, show v2 = _ from congrArg Prod.fst f2]
    exact congrArg Int32.toInt (a.trans b.symm)
  rw [if_neg c13] at f1 f2
  by_cases c14 : p.toInt = 14
  · rw [if_pos c14] at f1 f2
    have a := turnedE (s := s) (t := t) (x0 := x0) (m0 := m0) (p := p) (C := V.1 0) (I := V.2.1 0) (TI := (σ1.2.2 td9 2).getD 0) (A := mR σ2 m0 49) (A2 := mR σ2 m0 22) (by rw [xr]; exact g10) n0 hN12 (by rw [xr]; exact g6) (by rw [sC]; exact gA0) (by rw [s9]) (tg 49) (tg 22) mN hB hB1 (fun j j1 j2 => by
      have k1 := S.1.2.2.2.2.2.1 j j1 j2
      have k2 := S.2.1.2.2.2.2.2.1 j j1 j2
      rw [q19] at k1
      rw [hY] at k2
      omega) (fun j j1 j2 => by
      rw [LK _ 45 (tr 2 (by decide) (by decide) (by decide)) (by omega), row 22 (by omega)]
      exact e5 j j1 (by omega))
    rw [show v1 = _ from congrArg Prod.fst f1, show v2 = _ from congrArg Prod.fst f2]
    exact congrArg Int32.toInt a
  rw [if_neg c14] at f1 f2
  by_cases c15 : p.toInt = 15
  · rw [if_pos c15] at f1 f2
    simp only [xr, g10, s9, ← q11] at f1
    have a := sumC (s := s) (x0 := x0) (r := q 11) (by rw [xr]; exact g10) n0 hN12
    have b := sumM3 (t := t) (m0 := m0) (A := mR σ2 m0 24) (p := p) (f := s.1 (q 11)) (tg 24) mN hN12 hB hB1 (fun j hj => by
      have k := (S.2.2.1 j hj).1
      rw [hY] at k
      exact k.symm) (fun hN => by
      rw [LK (q 11) 47 (by rw [q11]; exact tr 4 (by decide) (by decide) (by decide)) (by omega), q11]
      exact Int32.toInt_inj.mp ((e4 (by omega) 4 (by decide) (by decide)).trans (by decide)))
    rw [show v1 = _ from congrArg Prod.fst f1, show v2 = _ from congrArg Prod.fst f2]
    exact congrArg Int32.toInt (a.trans b.symm)
  rw [if_neg c15] at f1 f2
  by_cases c16 : p.toInt = 16
  · rw [if_pos c16] at f1 f2
    simp only [xr, g3] at f1
    have a := farE (s := s) (t := t) (sh := sh) (m0 := m0) (p := p) (N := N') (A := q 17) (A2 := mR σ2 m0 52) (by rw [← q1]; exact S.1.2.2.1) hN12 (by rw [← q1]; exact S.1.1.1.2.2.2.1.2.1) mN (tg 52) (fun j hj => by
      have k := (S.2.2.1 j hj).2.1
      rw [hY] at k
      exact k) (fun hN => by
      have k := (S.2.2.1 0 hN).2.1
      rw [hY, (F0 (by omega)).1] at k
      exact k)
    rw [show v1 = _ from congrArg Prod.fst f1, show v2 = _ from congrArg Prod.fst f2]
    exact congrArg Int32.toInt a
  rw [if_neg c16] at f1 f2
  rw [(zPr2 f1).1, (zPr2 f2).1]
theorem zRQ.count (h : zRQ κ L1 kd1 L2 kd2 x0 m0 σ1 σ2) (hI : zI κ 0 L1 kd1 σ1) (hJ : zJ κ L2 kd2 σ2) (hx : zT L1 kd1 x0 10) (hm : zT L2 kd2 m0 11) (hg : gN m0 σ2) (f1 : (v1, τ1) = F_X10_count x0 p σ1) (f2 : (v2, τ2) = F_X11_count m0 p σ2) : v1.toInt = v2.toInt := by
  obtain ⟨V, ps, pc, sl, rv, sh, cd, hR⟩ := h.2.2.2
  exact hR.count h.2.1 h.1.2 h.2.2.1.1 h.2.2.1.2 hx hI hJ hm hg f1 f2
end COUNT
