section ZW4
variable {a k q v nm nO m : Nat} {T : zTn} {β : Int} {τ τ' : zS} {s s' : zA}
theorem wFail12 (n : Int32) : (F_X11_fail a n τ).1 a 12 = τ.1 a 12 := by
  unfold F_X11_fail
  simp only [zlt]
  split
  · rfl
  · show zu (zu τ.1 a 13 _) a 14 _ a 12 = _
    rw [zu_j _ _ _ _ _ (by decide), zu_j _ _ _ _ _ (by decide)]
theorem wMust12 (n : Int32) : (F_X11_must a n τ).1 a 12 = τ.1 a 12 := by
  unfold F_X11_must
  simp only [zlt]
  split
  · exact wFail12 1
  · exact wOn12'
theorem aOn_f (c : s.1 ≠ 0) : aOn T s = s := if_pos c
theorem aOn_t {w : Int} (h : s.1 = 0 → T.1 s.2.2.1 = w) : aOn T s = aTake T w s := by
  by_cases c : s.1 = 0
  · exact (aTake_on (h c)).symm
  · rw [aOn_f c, aTake_f c]
theorem aU_i (h : (aU T s).1 = 0) : s.1 = 0 ∧ (aU T s).2.2.1 = s.2.2.1 + 1 := by
  have c : s.1 = 0 := Classical.byContradiction (fun z => by
    unfold aU at h
    rw [if_pos z] at h
    exact z h)
  unfold aU at h ⊢
  rw [if_neg (zne c)] at h ⊢
  by_cases c1 : T.1 s.2.2.1 = 23 ∨ (13 ≤ T.1 s.2.2.1 ∧ T.1 s.2.2.1 < 22)
  · rw [if_pos c1] at h ⊢
    rw [aOn_t (w := T.1 s.2.2.1) (fun _ => rfl)] at h ⊢
    have qi := aTake_i h
    exact ⟨c, qi.2.2.1⟩
  · rw [if_neg c1] at h
    exact absurd h (aFail_1 (by decide))
theorem aU_e (o : Int) (c : ¬ (s.1 = 0 ∧ T.1 s.2.2.1 = 31)) (n : Nat) : aE T (n + 1) true o s = aE T n false o (aU T s) := by
  by_cases c0 : s.1 = 0
  · rw [aE, if_neg (zne c0)]
    unfold aU
    rw [if_neg (zne c0)]
    by_cases c1 : T.1 s.2.2.1 = 23 ∨ (13 ≤ T.1 s.2.2.1 ∧ T.1 s.2.2.1 < 22)
    · rw [if_pos c1, if_pos c1, aOn_t (w := T.1 s.2.2.1) (fun _ => rfl)]
    · rw [if_neg c1, if_neg c1, if_neg (fun z => c ⟨c0, z.1⟩), if_neg (fun z => c ⟨c0, z⟩), aE_f (aFail_1 (by decide))]
  · have e : aU T s = s := by
      unfold aU
      rw [if_pos c0]
    rw [e, aE_f c0, aE_f c0]
theorem x23 (hd : zWd a k q v nm nO) (hT : zTm T m) (hK : zTK T m) {x7 v5 : Int32} (hv5 : v5.toInt = 0) (K : Int32 → zS → zS) (i0 : Nat)
    (hk : ∀ (x : Int32) (τ : zS) (s : zA) (o : Int), x.toInt ≠ 0 → zWo a k q v nm nO m T τ s → 0 ≤ o ∧ o ≤ 6 → (s.1 = 0 → (τ.1 a 12).toInt = o ∧ i0 < s.2.2.1) → zGo a k q v nm nO m T true o s (K x τ)) :
    ∀ (n : Nat) (τ : zS) (s : zA) (o : Int), zWo a k q v nm nO m T τ s → 0 ≤ o ∧ o ≤ 6 → (s.1 = 0 → (τ.1 a 12).toInt = o ∧ i0 ≤ s.2.2.1 ∧ 401 < n + s.2.2.1) → 0 < n → zGo a k q v nm nO m T true o s (F_X11_expression_23 x7 v5 a K n τ) := by
  intro n
  induction n with
  | zero => intro τ s o _ _ _ h; exact absurd h (by omega)
  | succ n ih =>
    intro τ s o h ho hs _
    have e6 : (6 : Int32).toInt = 6 := by decide
    have e1 : (1 : Int32).toInt = 1 := by decide
    rw [F_X11_expression_23]
    simp only [zlt, wIs hT h 6 31 (by decide) (by decide), e6]
    by_cases c : s.1 = 0 ∧ T.1 s.2.2.1 = 31
    · have q2 := hs c.1
      have rm := (h.2.2.2.2 c.1).1
      have rk := hK.2.1
      have nz : 0 < n := by omega
      rw [if_neg (fun z => z c), q2.1]
      by_cases c2 : o = 6
      · rw [if_pos c2]
        have h1 := wFail' hd h 2 2 (by decide) (by decide)
        have f : (aFail T 2 s).1 ≠ 0 := aFail_1 (by decide)
        have fin : ∀ x z y : Int32, ∀ i : Nat, zGo a k q v nm nO m T true o (aFail T 2 s) (F_X11_expression_23 x7 v5 a K n (zu (zu (F_X11_goesOn a (zu (F_X11_fail a 2 τ).1 a 12 x, (F_X11_fail a 2 τ).2.1, (F_X11_fail a 2 τ).2.2)).1 (((F_X11_goesOn a (zu (F_X11_fail a 2 τ).1 a 12 x, (F_X11_fail a 2 τ).2.1, (F_X11_fail a 2 τ).2.2)).2.2 a 43).getD 0) i y) a 44 z, (F_X11_goesOn a (zu (F_X11_fail a 2 τ).1 a 12 x, (F_X11_fail a 2 τ).2.1, (F_X11_fail a 2 τ).2.2)).2.1, (F_X11_goesOn a (zu (F_X11_fail a 2 τ).1 a 12 x, (F_X11_fail a 2 τ).2.1, (F_X11_fail a 2 τ).2.2)).2.2)) := fun x z y i => by
          have h2 := wRow hd h1 12 x (by unfold zLv; omega)
          have h3 := wOn hd hT hK h2 (fun z => absurd z f) (fun z => absurd z f)
          rw [aOn_f f] at h3
          have h4 := wPush hd h3 i y z
          exact ih _ _ o h4.1 ho (fun z => absurd z f) nz
        exact zGo.one (fin _ _ _ _) (fun n => by rw [aE, if_neg (zne c.1), if_neg (by omega), if_neg (by omega), if_pos c.2, aE_f f])
      · rw [if_neg c2]
        have fin : ∀ z y : Int32, ∀ i : Nat, zGo a k q v nm nO m T true (o + 1) (aTake T 31 s) (F_X11_expression_23 x7 v5 a K n (zu (zu (F_X11_goesOn a (zu τ.1 a 12 (τ.1 a 12 + (1 : Int32)), τ.2.1, τ.2.2)).1 (((F_X11_goesOn a (zu τ.1 a 12 (τ.1 a 12 + (1 : Int32)), τ.2.1, τ.2.2)).2.2 a 43).getD 0) i y) a 44 z, (F_X11_goesOn a (zu τ.1 a 12 (τ.1 a 12 + (1 : Int32)), τ.2.1, τ.2.2)).2.1, (F_X11_goesOn a (zu τ.1 a 12 (τ.1 a 12 + (1 : Int32)), τ.2.1, τ.2.2)).2.2)) := fun z y i => by
          have h2 := wRow hd h 12 (τ.1 a 12 + (1 : Int32)) (by unfold zLv; omega)
          have h3 := wOn hd hT hK h2 (fun _ => by omega) (fun _ => by omega)
          rw [aOn_t (w := 31) (fun _ => c.2)] at h3
          have h4 := wPush hd h3 i y z
          refine ih _ _ (o + 1) h4.1 (by omega) (fun w => ?_) nz
          have qi := aTake_i w
          refine ⟨?_, by omega, by omega⟩
          show (zu (zu _ _ _ _) a 44 _ a 12 : Int32).toInt = _
          rw [h4.2, wOn12']
          show (zu τ.1 a 12 _ a 12).toInt = _
          rw [zu_s, zb_add (by rw [q2.1, e1]; omega) (by rw [q2.1, e1]; omega), q2.1, e1]
        exact zGo.one (fin _ _ _) (fun n => by rw [aE, if_neg (zne c.1), if_neg (by omega), if_pos (by omega)])
    · rw [if_pos c]
      have h1 := wUnit hd hT hK h
      have f1 := h1.1.2.1
      have g1 := h1.1.2.2.1
      refine zGo.one (b' := false) (o' := o) (s1 := aU T s) ?_ (aU_e o c)
      by_cases c3 : (aU T s).1 = 0
      · rw [if_neg (by omega)]
        refine x96 hd hT hK hv5 K _ i0 hk 10000 _ _ o h1.1 ho (fun z => ?_) (by omega)
        have qi := aU_i z
        have q2 := hs qi.1
        exact ⟨by rw [h1.2]; exact q2.1, by omega, by omega⟩
      · rw [if_pos (by omega)]
        exact zGo.flt h1.1 c3
theorem x12 (hd : zWd a k q v nm nO) (hT : zTm T m) (hK : zTK T m) {v5 : Int32} (hv5 : v5.toInt = 0) :
    ∀ (n : Nat) (x : Int32) (τ : zS) (s : zA) (o : Int), x.toInt ≠ 0 → zWo a k q v nm nO m T τ s → 0 ≤ o ∧ o ≤ 6 → (s.1 = 0 → (τ.1 a 12).toInt = o ∧ 401 < n + s.2.2.1) → 0 < n → zGo a k q v nm nO m T true o s (F_X11_expression_12 v5 a n x τ) := by
  intro n
  induction n with
  | zero => intro x τ s o _ _ _ _ h; exact absurd h (by omega)
  | succ n ih =>
    intro x τ s o hx h ho hs _
    rw [F_X11_expression_12]
    simp only [zlt]
    rw [if_neg hx, h.2.1]
    by_cases c : s.1 = 0
    · rw [if_pos c]
      have q2 := hs c
      have rm := (h.2.2.2.2 c).1
      have rk := hK.2.1
      exact x23 hd hT hK hv5 _ s.2.2.1 (fun x' τ' s' o' hx' h' ho' hs' => ih x' τ' s' o' hx' h' ho' (fun z => ⟨(hs' z).1, by have := (hs' z).2; omega⟩) (by omega)) 10000 τ s o h ho (fun z => ⟨q2.1, by omega, by omega⟩) (by omega)
    · rw [if_neg c]
      exact zGo.flt h c
/-- with no bracket open -/
abbrev zXo (a k q v nm nO m : Nat) (T : zTn) (τ : zS) (s : zA) : Prop := zWo a k q v nm nO m T τ s ∧ (s.1 = 0 → (τ.1 a 12).toInt = 0)
theorem xRow (hd : zWd a k q v nm nO) (h : zXo a k q v nm nO m T τ s) (j : Nat) (x : Int32) (hj : ¬ zLv j) (h12 : ¬ j = 12) : zXo a k q v nm nO m T (zu τ.1 a j x, τ.2.1, τ.2.2) s := ⟨wRow hd h.1 j x hj, fun z => by
  show (zu τ.1 a j x a 12).toInt = 0
  rw [zu_j _ _ _ _ _ h12]
  exact h.2 z⟩
theorem xArr (h : zXo a k q v nm nO m T τ s) (j i : Nat) (x : Int32) (hj : zQs j) : zXo a k q v nm nO m T (zu τ.1 ((τ.2.2 a j).getD 0) i x, τ.2.1, τ.2.2) s := ⟨wArr h.1 j i x hj, fun z => by
  show (zu τ.1 _ i x a 12).toInt = 0
  rw [zu_n _ _ _ (fun y => zQ1 h.1 j hj y.symm)]
  exact h.2 z⟩
theorem xFail (hd : zWd a k q v nm nO) (h : zXo a k q v nm nO m T τ s) (n : Int32) (i : Int) (e : n.toInt = i) (hn : 0 < i) : zXo a k q v nm nO m T (F_X11_fail a n τ) (aFail T i s) := ⟨wFail' hd h.1 n i e hn, fun z => absurd z (aFail_1 (by omega))⟩
theorem xOn (hd : zWd a k q v nm nO) (hT : zTm T m) (hK : zTK T m) (h : zXo a k q v nm nO m T τ s) (w : Int) (hw : s.1 = 0 → T.1 s.2.2.1 = w) (h33 : w < 33) : zXo a k q v nm nO m T (F_X11_goesOn a τ) (aTake T w s) := by
  have h1 := wOn hd hT hK h.1 (fun _ => by omega) (fun z => by rw [hw z]; exact h33)
  rw [aOn_t hw] at h1
  exact ⟨h1, fun z => by rw [wOn12']; exact h.2 (aTake_z z)⟩
theorem xMust (hd : zWd a k q v nm nO) (hT : zTm T m) (hK : zTK T m) (h : zXo a k q v nm nO m T τ s) (x : Int32) (w : Int) (hw : 0 ≤ w ∧ w < 33) (hx : x.toInt = zrho w) : zXo a k q v nm nO m T (F_X11_must a x τ) (aTake T w s) :=
  ⟨wMust hd hT hK h.1 x w hw hx, fun z => by rw [wMust12]; exact h.2 (aTake_z z)⟩
theorem xExpr (hd : zWd a k q v nm nO) (hT : zTm T m) (hK : zTK T m) (h : zXo a k q v nm nO m T τ s) : zXo a k q v nm nO m T (F_X11_expression a τ) (aSum T s) := by
  have h1 := xRow hd h 44 0 (by unfold zLv; omega) (by decide)
  have e12 : zu τ.1 a 44 (0 : Int32) a 12 = τ.1 a 12 := zu_j _ _ _ _ _ (by decide)
  unfold F_X11_expression
  simp only [zlt]
  rw [e12]
  by_cases c : s.1 = 0
  · obtain ⟨s', u1, u2, e, u3⟩ := x12 hd hT hK (h.2 c) 10000 1 _ s 0 (by decide) h1.1 (by omega) (fun z => ⟨h1.2 z, by omega⟩) (by omega)
    have q := u3 500
    have rm := (h.1.2.2.2.2 c).1
    have rk := hK.2.1
    have q2 : aSum T s = s' := (aE_st 500 (500 + e) true 0 s (fun z => by omega)).trans q
    rw [q2]
    exact ⟨u1, u2⟩
  · rw [aSum_f c]
    have f : ∀ n, F_X11_expression_12 (τ.1 a 12) a (n + 1) 1 (zu τ.1 a 44 0, τ.2.1, τ.2.2) = (zu τ.1 a 44 0, τ.2.1, τ.2.2) := fun n => by
      rw [F_X11_expression_12]
      simp only [zlt]
      have c13 : ¬ (zu τ.1 a 44 (0 : Int32) a 13).toInt = 0 := fun z => c (h1.1.2.1.symm.trans z)
      rw [if_neg (by decide), if_neg c13]
    rw [f 9999]
    exact h1
theorem xTerm (hd : zWd a k q v nm nO) (hT : zTm T m) (hK : zTK T m) (h : zXo a k q v nm nO m T τ s) : zXo a k q v nm nO m T (F_X11_term a τ) (aSum T s) := by
  have q36 : zQs 36 := by unfold zQs; omega
  have q37 : zQs 37 := by unfold zQs; omega
  have h1 := xArr h 36 (τ.1 a 32).toNatClampNeg (τ.1 a 38) q36
  unfold F_X11_term
  simp only [zlt]
  split
  · exact xRow hd (xArr (xExpr hd hT hK h1) 37 _ _ q37) 32 _ (by unfold zLv; omega) (by decide)
  · next z =>
    have c : s.1 ≠ 0 := fun y => z (h1.1.2.1.trans y)
    rw [aSum_f c]
    exact xRow hd (xArr h1 37 _ _ q37) 32 _ (by unfold zLv; omega) (by decide)
theorem aLw_f (c : s.1 ≠ 0) (n : Nat) (x : Int) : aLw T n x s = s := by
  cases n with
  | zero => rfl
  | succ n => rw [aLw, if_neg (fun z => c z.2.1), aSum_f c]
theorem aIf_4 : aIf T 4 s = aFail T 2 s := by
  have f : (aFail T 2 s).1 ≠ 0 := aFail_1 (by decide)
  unfold aIf
  rw [if_pos rfl, aTake_f f, aSum_f f, aTake_f f, aSum_f f, aTake_f f, aSum_f f, aTake_f f]
theorem xLaw_l (hd : zWd a k q v nm nO) (hT : zTm T m) (hK : zTK T m) {v4 p1 : Int32} : ∀ (n : Nat) (x : Int32) (j : Nat) (τ : zS) (s : zA), x.toInt = j → j ≤ 4 → 4 - j < n → zXo a k q v nm nO m T τ s → ∀ l, 5 - j < l → zXo a k q v nm nO m T (F_X11_tellLaw_12 v4 a p1 n x τ) (aTake T 24 (aLw T l j s)) := by
  intro n
  induction n with
  | zero => intro x j τ s _ _ h; exact absurd h (by omega)
  | succ n ih =>
    intro x j τ s hx hj hm h l hl
    obtain ⟨l, rfl⟩ : ∃ q, l = q + 1 := ⟨l - 1, by omega⟩
    have e4 : (4 : Int32).toInt = 4 := by decide
    have q30 : zQs 30 := by unfold zQs; omega
    have q31 : zQs 31 := by unfold zQs; omega
    have q33 : zQs 33 := by unfold zQs; omega
    have q34 : zQs 34 := by unfold zQs; omega
    have q35 : zQs 35 := by unfold zQs; omega
    have t : ∀ (i : Nat) (x : Int32), zXo a k q v nm nO m T (F_X11_must a 4 (F_X11_term a (zu τ.1 ((τ.2.2 a 33).getD 0) i x, τ.2.1, τ.2.2))) (aTake T 24 (aSum T s)) := fun i x => xMust hd hT hK (xTerm hd hT hK (xArr h 33 i x q33)) 4 24 (by decide) (by decide)
    rw [F_X11_tellLaw_12]
    simp only [zlt, wIs hT h.1 30 10 (by decide) (by decide), e4]
    by_cases c : s.1 = 0
    · rw [if_pos (h.1.2.1.trans c)]
      by_cases c1 : T.1 s.2.2.1 = 10
      · rw [if_neg (fun z => z ⟨c, c1⟩)]
        have ek : aLw T (l + 1) j s = aLw T l ((j : Int) + 1) (aIf T j s) := by rw [aLw, if_pos ⟨by omega, c, c1⟩]
        rw [ek]
        by_cases c2 : x.toInt = 4
        · rw [if_pos c2]
          have ej : (j : Int) = 4 := by omega
          have f : (aFail T 2 s).1 ≠ 0 := aFail_1 (by decide)
          rw [ej, aIf_4, aLw_f f, aTake_f f]
          have hf := xFail hd h 2 2 (by decide) (by decide)
          split <;> exact hf
        · rw [if_neg c2, if_neg (by rw [h.1.2.1]; omega)]
          have ei : aIf T j s = aTake T 12 (aSum T (aTake T 11 (aSum T (aTake T 30 (aSum T (aTake T 10 s)))))) := by
            unfold aIf
            rw [if_neg (by omega)]
          rw [ei]
          have rest : ∀ (τ1 : zS) (s1 : zA), zXo a k q v nm nO m T τ1 s1 → zXo a k q v nm nO m T (F_X11_tellLaw_12 v4 a p1 n (x + (1 : Int32)) (F_X11_must a 32 (F_X11_term a (F_X11_must a 31 τ1)))) (aTake T 24 (aLw T l ((j : Int) + 1) (aTake T 12 (aSum T (aTake T 11 s1))))) := fun τ1 s1 h1 => ih (x + (1 : Int32)) (j + 1) _ _ (zp1 hx (by omega)) (by omega) (by omega) (xMust hd hT hK (xTerm hd hT hK (xMust hd hT hK h1 31 11 (by decide) (by decide))) 32 12 (by decide) (by decide)) l (by omega)
          have a5 := fun (i1 i2 i3 : Nat) (y1 y2 y3 : Int32) => xArr (xMust hd hT hK (xExpr hd hT hK (xArr (xArr (xOn hd hT hK h 10 (fun _ => c1) (by decide)) 33 i1 y1 q33) 34 i2 y2 q34)) 13 30 (by decide) (by decide)) 35 i3 y3 q35
          split
          · exact rest _ _ (xExpr hd hT hK (a5 _ _ _ _ _ _))
          · next z =>
            have f : (aTake T 30 (aSum T (aTake T 10 s))).1 ≠ 0 := fun y => z ((a5 _ _ _ _ _ _).1.2.1.trans y)
            rw [aSum_f f]
            exact rest _ _ (a5 _ _ _ _ _ _)
      · rw [if_pos (fun z => c1 z.2)]
        have ek : aLw T (l + 1) j s = aSum T s := by rw [aLw, if_neg (fun z => c1 z.2.2)]
        rw [ek]
        split
        · exact t _ _
        · exact xArr (xArr (t _ _) 30 _ _ q30) 31 _ _ q31
    · rw [if_neg (fun z => c (h.1.2.1.symm.trans z))]
      have ek : aLw T (l + 1) j s = aSum T s := by rw [aLw, if_neg (fun z => c z.2.1)]
      rw [ek]
      split <;> exact t _ _
theorem xLaw (hd : zWd a k q v nm nO) (hT : zTm T m) (hK : zTK T m) (h : zXo a k q v nm nO m T τ s) (p : Int32) : zXo a k q v nm nO m T (F_X11_tellLaw a p τ) (aTake T 24 (aLw T 10 0 (aTake T 25 s))) := by
  unfold F_X11_tellLaw
  simp only [zlt]
  exact xLaw_l hd hT hK 10000 0 0 _ _ (by decide) (by omega) (by omega) (xMust hd hT hK h 5 25 (by decide) (by decide)) 10 (by omega)
end ZW4
