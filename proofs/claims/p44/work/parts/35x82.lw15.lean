/-! THE REFERENCE'S LAW, branch by branch -/
section YL2
variable {a k q v nm nO m nb nc cl : Nat} {Y : Nat → Nat} {T : zTn} {R : Nat → Nat → Option Nat} {τ τ' τ'' : zS} {s : zA}
theorem aE_p {T : zTn} : ∀ (n : Nat) (b : Bool) (o : Int) (s : zA), (aE T n b o s).1 = 0 → s.2.2.1 ≤ (aE T n b o s).2.2.1 := by
  intro n
  induction n with
  | zero => intro b o s _; exact Nat.le_refl _
  | succ n ih =>
    intro b o s
    have tk : ∀ (w : Int) (b : Bool) (o : Int), (aE T n b o (aTake T w s)).1 = 0 → s.2.2.1 ≤ (aE T n b o (aTake T w s)).2.2.1 := fun w b o h => by
      have q := ih b o _ h
      by_cases c : (aTake T w s).1 = 0
      · have := (aTake_i c).2.2.1
        omega
      · rw [aE_f c] at h
        exact absurd h c
    cases b with
    | true =>
      rw [aE]
      split
      · intro _; exact Nat.le_refl _
      · split
        · exact tk _ _ _
        · split
          · exact tk _ _ _
          · intro h
            exact absurd h (aFail_1 (by split <;> decide))
    | false =>
      rw [aE]
      split
      · intro _; exact Nat.le_refl _
      · split
        · exact tk _ _ _
        · split
          · split
            · exact tk _ _ _
            · intro h
              exact absurd h (aFail_1 (by decide))
          · intro _; exact Nat.le_refl _
theorem aSum_p {T : zTn} {s : zA} (h : (aSum T s).1 = 0) : s.2.2.1 < (aSum T s).2.2.1 := by
  have c : s.1 = 0 := aSum_z h
  unfold aSum at h ⊢
  have tk : ∀ (w : Int) (b : Bool) (o : Int), (aE T 499 b o (aTake T w s)).1 = 0 → s.2.2.1 < (aE T 499 b o (aTake T w s)).2.2.1 := fun w b o h => by
    have q := aE_p 499 b o _ h
    by_cases c : (aTake T w s).1 = 0
    · have := (aTake_i c).2.2.1
      omega
    · rw [aE_f c] at h
      exact absurd h c
  have e : aE T 500 true 0 s = aE T (499 + 1) true 0 s := rfl
  rw [e, aE, if_neg (zne c)] at h ⊢
  by_cases c1 : T.1 s.2.2.1 = 23 ∨ (13 ≤ T.1 s.2.2.1 ∧ T.1 s.2.2.1 < 22)
  · rw [if_pos c1] at h ⊢
    exact tk _ _ _ h
  · rw [if_neg c1] at h ⊢
    by_cases c2 : T.1 s.2.2.1 = 31 ∧ (0 : Int) < 6
    · rw [if_pos c2] at h ⊢
      exact tk _ _ _ h
    · rw [if_neg c2] at h
      exact absurd h (aFail_1 (by split <;> decide))
theorem aLb_f {l : Nat} {j : Int} (h : ¬ (j ≤ 4 ∧ s.1 = 0 ∧ T.1 s.2.2.1 = 10)) : aLb T (l + 1) j s = [(none, aCo T s)] := by rw [aLb, if_neg h]
theorem yLaw_l (hd : zWd a k q v nm nO) (hT : zTm T m) (hK : zTK T m) (hY : zYz Y a R) {v4 p1 : Int32} : ∀ (n : Nat) (x : Int32) (j : Nat) (τ : zS) (s : zA) (nb nc : Nat), x.toInt = j → j ≤ 4 → 4 - j < n → zXo a k q v nm nO m T τ s → zLs a R nb nc τ → cl ≤ nc → nc ≤ 1000 + s.2.2.1 → nb ≤ 1000 + s.2.2.1 → ∀ l, 5 - j < l → (aTake T 24 (aLw T l j s)).1 = 0 → ∃ (τ' : zS) (nc' : Nat), F_X11_tellLaw_12 v4 a p1 n x τ = (zu (zu τ'.1 (Y 30) ((5 : Int32) * τ'.1 a 19 + p1).toNatClampNeg v4) (Y 31) ((5 : Int32) * τ'.1 a 19 + p1).toNatClampNeg (τ'.1 a 32), τ'.2.1, τ'.2.2) ∧ zLs a R (nb + (aLb T l j s).length) nc' τ' ∧ zPx a Y nb nc τ τ' ∧ zBz Y cl τ' nc' nb (aLb T l j s) ∧ nc' + s.2.2.1 ≤ nc + (aLw T l j s).2.2.1 ∧ 4 * (aLb T l j s).length + s.2.2.1 ≤ (aLw T l j s).2.2.1 + 3 ∧ nc ≤ nc' := by
  have rk := hK.2.1
  have e4 : (4 : Int32).toInt = 4 := by decide
  have b1 : (vp_nar .boolean (1 : Int32)).toInt = 1 := by decide
  have b0 : (vp_nar .boolean (0 : Int32)).toInt = 0 := by decide
  have g33 : (R a 33).getD 0 = Y 33 := (hY.1 33 (yQ (by omega))).1
  have g34 : (R a 34).getD 0 = Y 34 := (hY.1 34 (yQ (by omega))).1
  have g35 : (R a 35).getD 0 = Y 35 := (hY.1 35 (yQ (by omega))).1
  have g30 : (R a 30).getD 0 = Y 30 := (hY.1 30 (yQ (by omega))).1
  have g31 : (R a 31).getD 0 = Y 31 := (hY.1 31 (yQ (by omega))).1
  have n30 := (hY.1 30 (yQ (by omega))).2
  intro n
  induction n with
  | zero => intro x j τ s nb nc _ _ h; exact absurd h (by omega)
  | succ n ih =>
    intro x j τ s nb nc hx hj hm h hl hc0 hc hb l hl' hz
    obtain ⟨l, rfl⟩ : ∃ w, l = w + 1 := ⟨l - 1, by omega⟩
    have zw := aTake_z hz
    have c : s.1 = 0 := aLw_z zw
    have pm := (h.1.2.2.2.2 c).1
    have nn : (τ.1 a 32).toNatClampNeg = nb := by rw [ztn, hl.2.1]; rfl
    have w33 : (τ.2.2 a 33).getD 0 = Y 33 := by rw [hl.1]; exact g33
    rw [F_X11_tellLaw_12]
    simp only [zlt, wIs hT h.1 30 10 (by decide) (by decide), e4, w33, nn]
    rw [if_pos (h.1.2.1.trans c)]
    by_cases c1 : T.1 s.2.2.1 = 10
    · rw [if_neg (fun z => z ⟨c, c1⟩)]
      have ek : aLw T (l + 1) j s = aLw T l ((j : Int) + 1) (aIf T j s) := by rw [aLw, if_pos ⟨by omega, c, c1⟩]
      rw [ek] at hz zw ⊢
      have zi := aLw_z zw
      have nj : ¬ (j : Int) = 4 := fun e => by
        have f : (aFail T 2 s).1 ≠ 0 := aFail_1 (by decide)
        unfold aIf at zi
        rw [if_pos e] at zi
        exact f (aTake_z (aSum_z (aTake_z (aSum_z (aTake_z (aSum_z (aTake_z zi)))))))
      rw [if_neg (by omega), if_neg (by rw [h.1.2.1]; omega)]
      have ei : aIf T j s = aTake T 12 (aSum T (aTake T 11 (aSum T (aTake T 30 (aSum T (aTake T 10 s)))))) := by
        unfold aIf
        rw [if_neg nj]
      have eb : aLb T (l + 1) j s = (some (aCo T (aTake T 10 s), aCo T (aTake T 30 (aSum T (aTake T 10 s)))), aCo T (aTake T 11 (aSum T (aTake T 30 (aSum T (aTake T 10 s)))))) :: aLb T l ((j : Int) + 1) (aIf T j s) := by rw [aLb, if_pos ⟨by omega, c, c1⟩]
      rw [eb]
      rw [ei] at hz zw zi ⊢
      obtain ⟨s1, hs1⟩ : ∃ s1, s1 = aTake T 10 s := ⟨_, rfl⟩
      obtain ⟨s2, hs2⟩ : ∃ s2, s2 = aSum T s1 := ⟨_, rfl⟩
      obtain ⟨s3, hs3⟩ : ∃ s3, s3 = aTake T 30 s2 := ⟨_, rfl⟩
      obtain ⟨s4, hs4⟩ : ∃ s4, s4 = aSum T s3 := ⟨_, rfl⟩
      obtain ⟨s5, hs5⟩ : ∃ s5, s5 = aTake T 11 s4 := ⟨_, rfl⟩
      obtain ⟨s6, hs6⟩ : ∃ s6, s6 = aSum T s5 := ⟨_, rfl⟩
      obtain ⟨s7, hs7⟩ : ∃ s7, s7 = aTake T 12 s6 := ⟨_, rfl⟩
      rw [← hs1, ← hs2, ← hs3, ← hs4, ← hs5, ← hs6, ← hs7] at hz zw zi
      rw [← hs1, ← hs2, ← hs3, ← hs4, ← hs5, ← hs6, ← hs7]
      have zi6 : s6.1 = 0 := by rw [hs7] at zi; exact aTake_z zi
      have zi5 : s5.1 = 0 := by rw [hs6] at zi6; exact aSum_z zi6
      have zi4 : s4.1 = 0 := by rw [hs5] at zi5; exact aTake_z zi5
      have zi3 : s3.1 = 0 := by rw [hs4] at zi4; exact aSum_z zi4
      have zi2 : s2.1 = 0 := by rw [hs3] at zi3; exact aTake_z zi3
      have zi1 : s1.1 = 0 := by rw [hs2] at zi2; exact aSum_z zi2
      have t1 := aTake_i (by rw [← hs1]; exact zi1 : (aTake T 10 s).1 = 0)
      have t3 := aTake_i (by rw [← hs3]; exact zi3 : (aTake T 30 s2).1 = 0)
      have t5 := aTake_i (by rw [← hs5]; exact zi5 : (aTake T 11 s4).1 = 0)
      have t7 := aTake_i (by rw [← hs7]; exact zi : (aTake T 12 s6).1 = 0)
      rw [← hs1] at t1
      rw [← hs3] at t3
      rw [← hs5] at t5
      rw [← hs7] at t7
      -- if
      have u1 := xOn hd hT hK h 10 (fun _ => c1) (by decide)
      rw [← hs1] at u1
      obtain ⟨v1, v2, v3⟩ := ySt hY hl yGo0
      obtain ⟨τ1, ht1⟩ : ∃ t, t = F_X11_goesOn a τ := ⟨_, rfl⟩
      rw [← ht1] at u1 v1 v2 v3 ⊢
      have m1 : (τ1.1 a 32).toNatClampNeg = nb := by rw [ztn, v1.2.1]; rfl
      have x33 : (τ1.2.2 a 33).getD 0 = Y 33 := by rw [v1.1]; exact g33
      obtain ⟨d1, d2, d3, d4⟩ := yRw hY v1 (j := 33) (by omega) (vp_nar .boolean (1 : Int32))
      have u2 := xArr u1 33 nb (vp_nar .boolean (1 : Int32)) (yQ (by omega))
      rw [x33] at u2
      obtain ⟨τ2, ht2⟩ : ∃ t : zS, t = (zu τ1.1 (Y 33) nb (vp_nar .boolean (1 : Int32)), τ1.2.1, τ1.2.2) := ⟨_, rfl⟩
      have m2 : (τ2.1 a 32).toNatClampNeg = nb := by rw [ztn, ht2, d1.2.1]; rfl
      have x34 : (τ2.2.2 a 34).getD 0 = Y 34 := by rw [ht2, d1.1]; exact g34
      have q1 : zu τ1.1 (Y 33) nb (vp_nar .boolean (1 : Int32)) = τ2.1 := by rw [ht2]
      have q2 : τ1.2.1 = τ2.2.1 := by rw [ht2]
      have q3 : τ1.2.2 = τ2.2.2 := by rw [ht2]
      have y33 : (τ2.2.2 a 33).getD 0 = Y 33 := by rw [← q3]; exact x33
      simp only [q2, q3, y33, m1, q1, x34, m2]
      rw [← ht2] at d1 d2 u2
      have d3' : τ2.1 (Y 33) nb = vp_nar .boolean (1 : Int32) := by rw [ht2]; exact d3
      obtain ⟨f1, f2, f3, f4⟩ := yRw hY d1 (j := 34) (by omega) (τ2.1 a 38)
      have u3 := xArr u2 34 nb (τ2.1 a 38) (yQ (by omega))
      rw [x34] at u3
      obtain ⟨τ3, ht3⟩ : ∃ t : zS, t = (zu τ2.1 (Y 34) nb (τ2.1 a 38), τ2.2.1, τ2.2.2) := ⟨_, rfl⟩
      rw [← ht3] at f1 f2 u3 ⊢
      have r33 : τ3.1 (Y 33) nb = vp_nar .boolean (1 : Int32) := by rw [ht3]; show zu τ2.1 (Y 34) nb _ (Y 33) nb = _; rw [f4 33 (yQ (by omega)) (by decide)]; exact d3'
      have r34 : τ3.1 (Y 34) nb = τ2.1 a 38 := by rw [ht3]; exact f3
      -- the left
      obtain ⟨l1, l2, l3, l4, l5⟩ := yEx hd hT hK hY u3 f1 (by omega) zi1 (by rw [← hs2]; exact zi2)
      rw [← hs2] at l4
      have u4 := xExpr hd hT hK u3
      rw [← hs2] at u4
      obtain ⟨τ4, ht4⟩ : ∃ t, t = F_X11_expression a τ3 := ⟨_, rfl⟩
      rw [← ht4] at l1 l2 l3 l5 u4 ⊢
      have u5 := xMust hd hT hK u4 13 30 (by decide) (by decide)
      rw [← hs3] at u5
      obtain ⟨o1, o2, o3⟩ := ySt hY l1 (yMu0 13)
      obtain ⟨τ5, ht5⟩ : ∃ t, t = F_X11_must a 13 τ4 := ⟨_, rfl⟩
      rw [← ht5] at o1 o2 o3 u5 ⊢
      have m5 : (τ5.1 a 32).toNatClampNeg = nb := by rw [ztn, o1.2.1]; rfl
      have x35 : (τ5.2.2 a 35).getD 0 = Y 35 := by rw [o1.1]; exact g35
      obtain ⟨w1, w2, w3, w4⟩ := yRw hY o1 (j := 35) (by omega) (τ5.1 a 38)
      have u6 := xArr u5 35 nb (τ5.1 a 38) (yQ (by omega))
      rw [x35] at u6
      simp only [x35, m5]
      obtain ⟨τ6, ht6⟩ : ∃ t : zS, t = (zu τ5.1 (Y 35) nb (τ5.1 a 38), τ5.2.1, τ5.2.2) := ⟨_, rfl⟩
      have z13 : (zu τ5.1 (Y 35) nb (τ5.1 a 38) a 13).toInt = 0 := by
        have := u6.1.2.1
        exact this.trans zi3
      rw [if_pos z13, ← ht6]
      rw [← ht6] at w1 w2 u6
      have p35 : τ6.1 (Y 35) nb = τ5.1 a 38 := by rw [ht6]; exact w3
      have p33 : τ6.1 (Y 33) nb = vp_nar .boolean (1 : Int32) := by
        rw [ht6]
        show zu τ5.1 (Y 35) nb _ (Y 33) nb = _
        rw [w4 33 (yQ (by omega)) (by decide), o3 33 (yQ (by omega)), l5 33 (by omega)]
        exact r33
      have p34 : τ6.1 (Y 34) nb = τ2.1 a 38 := by
        rw [ht6]
        show zu τ5.1 (Y 35) nb _ (Y 34) nb = _
        rw [w4 34 (yQ (by omega)) (by decide), o3 34 (yQ (by omega)), l5 34 (by omega)]
        exact r34
      -- the right
      have pm3 := (u6.1.2.2.2.2 zi3).1
      obtain ⟨q1, q2, q3, q4, q5⟩ := yEx hd hT hK hY u6 w1 (by omega) zi3 (by rw [← hs4]; exact zi4)
      rw [← hs4] at q4
      have u7 := xExpr hd hT hK u6
      rw [← hs4] at u7
      obtain ⟨τ7, ht7⟩ : ∃ t, t = F_X11_expression a τ6 := ⟨_, rfl⟩
      rw [← ht7] at q1 q2 q3 q5 u7 ⊢
      have u8 := xMust hd hT hK u7 31 11 (by decide) (by decide)
      rw [← hs5] at u8
      obtain ⟨y1, y2, y3⟩ := ySt hY q1 (yMu0 31)
      obtain ⟨τ8, ht8⟩ : ∃ t, t = F_X11_must a 31 τ7 := ⟨_, rfl⟩
      rw [← ht8] at y1 y2 y3 u8 ⊢
      -- the value
      have pm5 := (u8.1.2.2.2.2 zi5).1
      obtain ⟨i1, i2, i3, i4, i5, i6⟩ := yTm hd hT hK hY u8 y1 (cl := cl) (by omega) (by omega) (by omega) zi5 (by rw [← hs6]; exact zi6)
      rw [← hs6] at i5
      have u9 := xTerm hd hT hK u8
      rw [← hs6] at u9
      obtain ⟨τ9, ht9⟩ : ∃ t, t = F_X11_term a τ8 := ⟨_, rfl⟩
      rw [← ht9] at i1 i2 i3 i4 i6 u9 ⊢
      have u10 := xMust hd hT hK u9 32 12 (by decide) (by decide)
      rw [← hs7] at u10
      obtain ⟨k1, k2, k3⟩ := ySt hY i1 (yMu0 32)
      obtain ⟨τ10, ht10⟩ : ∃ t, t = F_X11_must a 32 τ9 := ⟨_, rfl⟩
      rw [← ht10] at k1 k2 k3 u10 ⊢
      obtain ⟨τ', nc', j1, j2, j3, j4, j5, j6, j7⟩ := ih (x + (1 : Int32)) (j + 1) τ10 s7 _ _ (zp1 hx (by omega)) (by omega) (by omega) u10 k1 (by omega) (by omega) (by omega) l (by omega) (by rw [show ((j + 1 : Nat) : Int) = (j : Int) + 1 by omega]; exact hz)
      rw [show ((j + 1 : Nat) : Int) = (j : Int) + 1 by omega] at j2 j4 j5 j6
      have pre : zPx a Y nb nc τ τ10 := ((((((((v2.tr d2 (Nat.le_refl _) (Nat.le_refl _)).tr f2 (Nat.le_refl _) (Nat.le_refl _)).tr l3 (Nat.le_refl _) (Nat.le_refl _)).tr o2 (Nat.le_refl _) (by omega)).tr w2 (Nat.le_refl _) (by omega)).tr q3 (Nat.le_refl _) (by omega)).tr y2 (Nat.le_refl _) (by omega)).tr i4 (Nat.le_refl _) (by omega)).tr k2 (by omega) (by omega)
      have p2 := aSum_p (by rw [← hs2]; exact zi2 : (aSum T s1).1 = 0)
      have p4 := aSum_p (by rw [← hs4]; exact zi4 : (aSum T s3).1 = 0)
      have p6 := aSum_p (by rw [← hs6]; exact zi6 : (aSum T s5).1 = 0)
      rw [← hs2] at p2
      rw [← hs4] at p4
      rw [← hs6] at p6
      refine ⟨τ', nc', j1, ?_, pre.tr j3 (by omega) (by omega), ⟨?_, j4⟩, by omega, by rw [List.length_cons]; omega, by omega⟩
      · rw [List.length_cons, show nb + ((aLb T l ((j : Int) + 1) s7).length + 1) = nb + 1 + (aLb T l ((j : Int) + 1) s7).length by omega]
        exact j2
      · -- the branch in τ10, then in τ'
        have a33 : τ10.1 (Y 33) nb = vp_nar .boolean (1 : Int32) := by rw [k3 33 (yQ (by omega)), i6 33 (by omega), y3 33 (yQ (by omega)), q5 33 (by omega)]; exact p33
        have a34 : τ10.1 (Y 34) nb = τ2.1 a 38 := by rw [k3 34 (yQ (by omega)), i6 34 (by omega), y3 34 (yQ (by omega)), q5 34 (by omega)]; exact p34
        have a35 : τ10.1 (Y 35) nb = τ5.1 a 38 := by rw [k3 35 (yQ (by omega)), i6 35 (by omega), y3 35 (yQ (by omega)), q5 35 (by omega)]; exact p35
        have a36 : τ10.1 (Y 36) nb = τ9.1 (Y 36) nb := by rw [k3 36 (yQ (by omega))]
        have a37 : τ10.1 (Y 37) nb = τ9.1 (Y 37) nb := by rw [k3 37 (yQ (by omega))]
        have pl1 : zPx a Y nb (nc + (aCo T s1).length) τ4 τ10 := ((((o2.tr w2 (Nat.le_refl _) (Nat.le_refl _)).tr q3 (Nat.le_refl _) (Nat.le_refl _)).tr y2 (Nat.le_refl _) (by omega)).tr i4 (Nat.le_refl _) (by omega)).tr k2 (by omega) (by omega)
        have pl2 : zPx a Y nb (nc + (aCo T s1).length + (aCo T s3).length) τ7 τ10 := (y2.tr i4 (Nat.le_refl _) (Nat.le_refl _)).tr k2 (by omega) (by omega)
        have br : zB1 Y cl τ10 (nc + (aCo T s1).length + (aCo T s3).length + (aCo T s5).length) nb (some (aCo T s1, aCo T s3), aCo T s5) := by
          refine ⟨by rw [a33]; exact b1, ⟨nc, by rw [a34]; exact d1.2.2, by rw [a35, o1.2.2]; omega, zHo_cg _ _ (fun i _ i2 => pl1.1 i (by omega)) l2, by omega, hc0⟩, ⟨nc + (aCo T s1).length, by rw [a35]; exact o1.2.2, by rw [a36, i3]; omega, zHo_cg _ _ (fun i _ i2 => pl2.1 i (by omega)) q2, by omega, by omega⟩, ?_⟩
          rw [a36, a37]
          exact i2.cg (Nat.le_refl _) (fun i _ hi => k2.1 i hi)
        exact br.cg (by omega) (fun i _ hi => j3.1 i hi) (fun j' h1 h2 => j3.2.1 j' nb h1 h2 (by omega))
    · rw [if_pos (fun z => c1 z.2)]
      have nk : ¬ ((j : Int) ≤ 4 ∧ s.1 = 0 ∧ T.1 s.2.2.1 = 10) := fun z => c1 z.2.2
      have ek : aLw T (l + 1) j s = aSum T s := by rw [aLw, if_neg nk]
      rw [ek] at hz zw ⊢
      rw [aLb_f nk]
      obtain ⟨d1, d2, d3, d4⟩ := yRw hY hl (j := 33) (by omega) (vp_nar .boolean (0 : Int32))
      have u2 := xArr h 33 nb (vp_nar .boolean (0 : Int32)) (yQ (by omega))
      rw [w33] at u2
      obtain ⟨τ2, ht2⟩ : ∃ t : zS, t = (zu τ.1 (Y 33) nb (vp_nar .boolean (0 : Int32)), τ.2.1, τ.2.2) := ⟨_, rfl⟩
      rw [← ht2] at d1 d2 u2 ⊢
      have d3' : τ2.1 (Y 33) nb = vp_nar .boolean (0 : Int32) := by rw [ht2]; exact d3
      obtain ⟨i1, i2, i3, i4, i5, i6⟩ := yTm hd hT hK hY u2 d1 (cl := cl) (by omega) (by omega) (by omega) c zw
      have u3 := xTerm hd hT hK u2
      obtain ⟨τ3, ht3⟩ : ∃ t, t = F_X11_term a τ2 := ⟨_, rfl⟩
      rw [← ht3] at i1 i2 i3 i4 i6 u3 ⊢
      have u4 := xMust hd hT hK u3 4 24 (by decide) (by decide)
      obtain ⟨k1, k2, k3⟩ := ySt hY i1 (yMu0 4)
      obtain ⟨τ4, ht4⟩ : ∃ t, t = F_X11_must a 4 τ3 := ⟨_, rfl⟩
      rw [← ht4] at k1 k2 k3 u4 ⊢
      have z13 : ¬ 0 < (τ4.1 a 13).toInt := by
        have : (τ4.1 a 13).toInt = 0 := u4.1.2.1.trans hz
        omega
      have y30 : (τ4.2.2 a 30).getD 0 = Y 30 := by rw [k1.1]; exact g30
      have y31 : (τ4.2.2 a 31).getD 0 = Y 31 := by rw [k1.1]; exact g31
      rw [if_neg z13]
      simp only [y30, y31, zu_n _ _ _ (fun z : a = Y 30 => n30 z.symm)]
      refine ⟨τ4, _, rfl, k1, ((d2.tr i4 (Nat.le_refl _) (Nat.le_refl _)).tr k2 (by omega) (by omega)), ⟨⟨?_, ?_⟩, trivial⟩, by omega, by have := aSum_p zw; show 4 * 1 + s.2.2.1 ≤ _; omega, by omega⟩
      · rw [k3 33 (yQ (by omega)), i6 33 (by omega), d3']
        exact b0
      · rw [k3 36 (yQ (by omega)), k3 37 (yQ (by omega))]
        exact i2.cg (Nat.le_refl _) (fun i _ hi => k2.1 i hi)
end YL2
