section ZW6
variable {a k q v nm nO m : Nat} {T : zTn} {τ τ' : zS} {s s' : zA}
theorem aNum_nn (s : zA) (x : Int64) : aNum s x = -1 ∨ 0 ≤ aNum s x := by
  have key : ∀ (n p : Nat), aFind s.2.2.2.2.2.2.2 s.2.2.2.2.2.2.1 x n p = -1 ∨ 0 ≤ aFind s.2.2.2.2.2.2.2 s.2.2.2.2.2.2.1 x n p := by
    intro n
    induction n with
    | zero => intro p; exact Or.inl rfl
    | succ n ih =>
      intro p
      unfold aFind
      split
      · split
        · exact Or.inr (by omega)
        · exact ih _
      · exact Or.inl rfl
  exact key _ _
theorem xMouth (hd : zWd a k q v nm nO) (hT : zTm T m) (hK : zTK T m) (h : zXo a k q v nm nO m T τ s) : zXo a k q v nm nO m T (F_X11_tellMouth a τ) (aTake T 24 (if (aNew T s).1 = 0 then aSetM (aNew T s) (T.2.1 s.2.2.1) else aNew T s)) := by
  have q21 : zQs 21 := by unfold zQs; omega
  have q22 : zQs 22 := by unfold zQs; omega
  have q23 : zQs 23 := by unfold zQs; omega
  have q24 : zQs 24 := by unfold zQs; omega
  have q25 : zQs 25 := by unfold zQs; omega
  have e0n : (0 : Int32).toNatClampNeg = 0 := by decide
  obtain ⟨x, τ1, p1, p2, p3⟩ := xNamed hd hT hK h
  have p4 := xMust hd hT hK p2 4 24 (by decide) (by decide)
  have f := p4.1.2.1
  have g := p4.1.2.2.1
  unfold F_X11_tellMouth
  simp only [zlt, zlt2, p1, e0n]
  by_cases c : (aTake T 24 (aNew T s)).1 = 0
  · rw [if_neg (by omega)]
    have c1 := aTake_i c
    have n0 := aNew_i c1.1
    have c4 := aTake_400 c
    rw [if_pos c1.1]
    have e : aTake T 24 (aSetM (aNew T s) (T.2.1 s.2.2.1)) = aSetM (aTake T 24 (aNew T s)) (T.2.1 s.2.2.1) := by
      rw [aTake_1 c1.1 c1.2.1 c4, aTake_1 (s := aSetM (aNew T s) (T.2.1 s.2.2.1)) c1.1 c1.2.1 c4]
      rfl
    rw [e]
    have xn : x.toNatClampNeg = s.2.2.1 := by rw [ztn, p3 n0.1]; rfl
    have r := h.1.2.2.2.2 n0.1
    have base := wSetM hd p4 c x.toNatClampNeg s.2.2.1 (by rw [xn]; exact (p4.1.1.2.1 _ r.1).2.2.2) (hT.2.2 _ r.1 n0.2.1)
    exact xArr (xArr (xArr (xArr (xArr base 22 _ _ q22) 23 _ _ q23) 24 _ _ q24) 25 _ _ q25) 21 _ _ q21
  · rw [if_pos (by omega)]
    by_cases c1 : (aNew T s).1 = 0
    · rw [if_pos c1]
      obtain ⟨e1, e2⟩ := aTake_g (s' := aSetM (aNew T s) (T.2.1 s.2.2.1)) c rfl rfl rfl
      exact p4.ft c e1 e2
    · rw [if_neg c1]
      exact p4
theorem xPlace (hd : zWd a k q v nm nO) (hT : zTm T m) (hK : zTK T m) (h : zXo a k q v nm nO m T τ s) (h11 : s.1 = 0 → s.2.2.2.2.2.2.1 < 11) : zXo a k q v nm nO m T (F_X11_tellPlace a τ) (aTake T 24 (if (aPlace2 T s).1 = 0 ∧ (aPlace2 T s).2.2.2.2.2.2.1 < 11 then aSetP (aPlace2 T s) (T.2.1 s.2.2.1) else aPlace2 T s)) := by
  have q21 : zQs 21 := by unfold zQs; omega
  have q22 : zQs 22 := by unfold zQs; omega
  have q23 : zQs 23 := by unfold zQs; omega
  have q24 : zQs 24 := by unfold zQs; omega
  have q25 : zQs 25 := by unfold zQs; omega
  obtain ⟨x, τ1, p1, p2, p3⟩ := xNamed hd hT hK h
  have p4 := xMust hd hT hK p2 1 22 (by decide) (by decide)
  have f := p4.1.2.1
  have g := p4.1.2.2.1
  have fin1 : ∀ t6 : zS, zXo a k q v nm nO m T t6 (aPlace2 T s) → 0 < ((F_X11_must a 4 t6).1 a 13).toInt → zXo a k q v nm nO m T (F_X11_must a 4 t6) (aTake T 24 (if (aPlace2 T s).1 = 0 ∧ (aPlace2 T s).2.2.2.2.2.2.1 < 11 then aSetP (aPlace2 T s) (T.2.1 s.2.2.1) else aPlace2 T s)) := fun t6 h6 z => by
    have p := xMust hd hT hK h6 4 24 (by decide) (by decide)
    have f := p.1.2.1
    have c : (aTake T 24 (aPlace2 T s)).1 ≠ 0 := by omega
    split
    · obtain ⟨e1, e2⟩ := aTake_g (s' := aSetP (aPlace2 T s) (T.2.1 s.2.2.1)) c rfl rfl rfl
      exact p.ft c e1 e2
    · exact p
  have fin2 : ∀ t6 : zS, zXo a k q v nm nO m T t6 (aPlace2 T s) → ¬ 0 < ((F_X11_must a 4 t6).1 a 13).toInt → zXo a k q v nm nO m T (zu (F_X11_must a 4 t6).1 a 42 ((F_X11_must a 4 t6).1 a 42 + (1 : Int32)), zu (F_X11_must a 4 t6).2.1 (((F_X11_must a 4 t6).2.2 a 20).getD 0) ((F_X11_must a 4 t6).1 a 42 + (1 : Int32)).toNatClampNeg ((F_X11_must a 4 t6).2.1 (((F_X11_must a 4 t6).2.2 a 8).getD 0) x.toNatClampNeg), (F_X11_must a 4 t6).2.2) (aTake T 24 (if (aPlace2 T s).1 = 0 ∧ (aPlace2 T s).2.2.2.2.2.2.1 < 11 then aSetP (aPlace2 T s) (T.2.1 s.2.2.1) else aPlace2 T s)) := fun t6 h6 z => by
    have p := xMust hd hT hK h6 4 24 (by decide) (by decide)
    have f := p.1.2.1
    have g := p.1.2.2.1
    have c : (aTake T 24 (aPlace2 T s)).1 = 0 := by omega
    have c1 := aTake_i c
    have c4 := aTake_400 c
    have w := aPlace2_i c1.1
    have l11 : (aPlace2 T s).2.2.2.2.2.2.1 < 11 := by rw [w.2.2]; exact h11 w.1
    rw [if_pos ⟨c1.1, l11⟩]
    have e : aTake T 24 (aSetP (aPlace2 T s) (T.2.1 s.2.2.1)) = aSetP (aTake T 24 (aPlace2 T s)) (T.2.1 s.2.2.1) := by
      rw [aTake_1 c1.1 c1.2.1 c4, aTake_1 (s := aSetP (aPlace2 T s) (T.2.1 s.2.2.1)) c1.1 c1.2.1 c4]
      rfl
    rw [e]
    have xn : x.toNatClampNeg = s.2.2.1 := by rw [ztn, p3 w.1]; rfl
    have r := h.1.2.2.2.2 w.1
    have k22 : T.1 s.2.2.1 = 22 := by
      have y := c1.1
      unfold aPlace2 at y
      exact (aNew_i (aKnown_i (aNumb_i (aNumb_i (aNumb_i y).1).1).1).1).2.1
    exact wSetP hd p c (by rw [c1.2.2.2]; exact l11) x.toNatClampNeg s.2.2.1 (by rw [xn]; exact (p.1.1.2.1 _ r.1).2.2.2) (hT.2.2 _ r.1 k22)
  unfold F_X11_tellPlace
  simp only [zlt, zlt2, p1, zu_s]
  generalize ((12 : Int32) * τ.1 a 19 + τ.1 a 42 + (1 : Int32)).toNatClampNeg = iv
  by_cases c : (aTake T 22 (aNew T s)).1 = 0
  · rw [if_neg (by omega)]
    obtain ⟨c1, c2, c3, c4⟩ := aTake_i c
    have r1 := p2.1.2.2.2.2 c1
    have en := wNum p4.1 c (τ1.1 a 11) (aNew T s).2.2.1 r1.2.1 (T.2.1 (aNew T s).2.2.1).1 (T.2.1 (aNew T s).2.2.1).2 (hT.2.2 _ r1.1 c2) (p4.1.1.2.1 _ r1.1).2.2.2
    have en2 : aNum (aTake T 22 (aNew T s)) (T.2.1 (aNew T s).2.2.1).1 = aNum (aNew T s) (T.2.1 (aNew T s).2.2.1).1 := by
      unfold aNum
      rw [c4]
    rw [en2] at en
    have nn := aNum_nn (aNew T s) (T.2.1 (aNew T s).2.2.1).1
    generalize hn : F_X11_numberOf a (τ1.1 a 11) (F_X11_must a 1 τ1) = v23 at en ⊢
    have a22 := xArr p4 22 iv v23 q22
    by_cases c5 : aNum (aNew T s) (T.2.1 (aNew T s).2.2.1).1 = -1
    · rw [if_pos (by omega)]
      have hk : zXo a k q v nm nO m T (F_X11_wrong a 4 (τ1.1 a 11) (zu (F_X11_must a 1 τ1).1 (((F_X11_must a 1 τ1).2.2 a 22).getD 0) iv v23, (F_X11_must a 1 τ1).2.1, (F_X11_must a 1 τ1).2.2)) (aKnown T (aNew T s)) := by
        unfold aKnown
        rw [if_pos ⟨c1, c2, c5⟩]
        exact ⟨wLateB hd hT hK a22.1 r1 c 4 (τ1.1 a 11) (by decide) r1.2.1, fun z => by rw [wWrong12]; exact a22.2 c⟩
      obtain ⟨x1, t1, b1, b2⟩ := xBound hd hT hK hk 1 99 1 99 (by decide) (by decide)
      have a1 := xArrB hk b2 23 iv x1 q23
      obtain ⟨x2, t2, d1, d2⟩ := xBound hd hT hK a1 0 99 0 99 (by decide) (by decide)
      have a2 := xArrB a1 d2 24 iv x2 q24
      obtain ⟨x3, t3, g1, g2⟩ := xBound hd hT hK a2 0 99 0 99 (by decide) (by decide)
      have a3 := xArrB a2 g2 25 iv x3 q25
      simp only [b1, d1, g1]
      split
      · next z => exact fin1 _ a3 z
      · next z =>
        split
        · exact fin2 _ a3 z
        · exact xArr (fin2 _ a3 z) 21 _ _ q21
    · rw [if_neg (by omega)]
      have hk : zXo a k q v nm nO m T (zu (F_X11_must a 1 τ1).1 (((F_X11_must a 1 τ1).2.2 a 22).getD 0) iv v23, (F_X11_must a 1 τ1).2.1, (F_X11_must a 1 τ1).2.2) (aKnown T (aNew T s)) := by
        unfold aKnown
        rw [if_neg (show ¬ ((aNew T s).1 = 0 ∧ T.1 (aNew T s).2.2.1 = 22 ∧ aNum (aNew T s) (T.2.1 (aNew T s).2.2.1).1 = -1) from fun z => c5 z.2.2)]
        exact a22
      obtain ⟨x1, t1, b1, b2⟩ := xBound hd hT hK hk 1 99 1 99 (by decide) (by decide)
      have a1 := xArrB hk b2 23 iv x1 q23
      obtain ⟨x2, t2, d1, d2⟩ := xBound hd hT hK a1 0 99 0 99 (by decide) (by decide)
      have a2 := xArrB a1 d2 24 iv x2 q24
      obtain ⟨x3, t3, g1, g2⟩ := xBound hd hT hK a2 0 99 0 99 (by decide) (by decide)
      have a3 := xArrB a2 g2 25 iv x3 q25
      simp only [b1, d1, g1]
      split
      · next z => exact fin1 _ a3 z
      · next z =>
        split
        · exact fin2 _ a3 z
        · exact xArr (fin2 _ a3 z) 21 _ _ q21
  · rw [if_pos (by omega)]
    have K1 : (aKnown T (aNew T s)).1 = (aTake T 22 (aNew T s)).1 ∧ (aKnown T (aNew T s)).2.1 = (aTake T 22 (aNew T s)).2.1 := by
      unfold aKnown
      split
      · next z => exact aTake_ff c z.1 4
      · exact ⟨rfl, rfl⟩
    have cK : (aKnown T (aNew T s)).1 ≠ 0 := fun z => c (K1.1.symm.trans z)
    have e : aPlace2 T s = aKnown T (aNew T s) := by
      unfold aPlace2
      rw [aNumb_f cK, aNumb_f cK, aNumb_f cK]
    rw [e, if_neg (fun z => cK z.1), aTake_f cK]
    exact p4.ft c K1.1 K1.2
theorem xTell (hd : zWd a k q v nm nO) (hT : zTm T m) (hK : zTK T m) (h : zXo a k q v nm nO m T τ s) (hs : s.1 = 0) : zXo a k q v nm nO m T (F_X11_tellOne a τ) (aTell T s) := by
  have q26 : zQs 26 := by unfold zQs; omega
  have q27 : zQs 27 := by unfold zQs; omega
  have q28 : zQs 28 := by unfold zQs; omega
  have q29 : zQs 29 := by unfold zQs; omega
  obtain ⟨r1, r2, r3, r4, r5, r6, r7, r8, r9⟩ := h.1.2.2.2.2 hs
  have e5 : (τ.2.2 a 5).getD 0 = k := by rw [h.1.1.1.1]; rfl
  have ei : (τ.1 a 11).toNatClampNeg = s.2.2.1 := by rw [ztn, r2]; rfl
  have ek := (h.1.1.2.1 _ r1).1
  have rg := hT.2.1 _ r1
  have e11 : (11 : Int32).toInt = 11 := by decide
  have e22 : (22 : Int32).toInt = 22 := by decide
  have e26 : (26 : Int32).toInt = 26 := by decide
  have h13 := h.1.2.1.trans hs
  unfold F_X11_tellOne
  simp only [zlt, zlt2, e5, ei, e11, e26]
  generalize hκ : τ.1 k s.2.2.1 = κ at ek ⊢
  have zr : ∀ i : Int, 0 ≤ i → i ≤ 34 → zrho i = zrho (T.1 s.2.2.1) → T.1 s.2.2.1 = i := fun i h1 h2 z => zrho_inj _ _ rg.1 rg.2 h1 h2 z.symm
  by_cases k0 : κ.toInt = 20
  · have c0 : T.1 s.2.2.1 = 0 := zr 0 (by decide) (by decide) (by rw [← ek, k0]; decide)
    rw [if_pos k0, r6]
    unfold aTell
    rw [if_pos c0]
    unfold aMouth
    by_cases cm : s.2.2.2.2.2.1 = 0
    · rw [if_pos cm, if_neg (by omega), if_neg (zne cm)]
      exact xMouth hd hT hK (xOn hd hT hK h 0 (fun _ => c0) (by decide))
    · have p := xFail hd h 2 2 (by decide) (by decide)
      have f : (aFail T 2 s).1 ≠ 0 := aFail_1 (by decide)
      have f2 := p.1.2.1
      have f3 := p.1.2.2.1
      rw [if_neg cm, if_pos (by omega), if_pos cm, aTake_f f, aNew_f f, if_neg f, aTake_f f]
      exact p
  rw [if_neg k0]
  have n0 : ¬ T.1 s.2.2.1 = 0 := fun z => k0 (by rw [ek, z]; decide)
  by_cases k1 : κ.toInt = 21
  · have c1 : T.1 s.2.2.1 = 1 := zr 1 (by decide) (by decide) (by rw [← ek, k1]; decide)
    rw [if_pos k1, r7]
    unfold aTell
    rw [if_neg n0, if_pos c1]
    unfold aPlace aPlace1
    by_cases cm : s.2.2.2.2.2.2.1 = 11
    · have p := xFail hd h 2 2 (by decide) (by decide)
      have f : (aFail T 2 s).1 ≠ 0 := aFail_1 (by decide)
      have f2 := p.1.2.1
      have f3 := p.1.2.2.1
      have e : aPlace2 T (aFail T 2 s) = aFail T 2 s := by
        unfold aPlace2
        rw [aNew_f f, aKnown_f f, aNumb_f f, aNumb_f f, aNumb_f f]
      rw [if_pos cm, if_pos (by omega), if_pos (show 11 ≤ s.2.2.2.2.2.2.1 by omega), aTake_f f, e, if_neg (fun z => f z.1), aTake_f f]
      exact p
    · rw [if_neg cm, if_neg (by omega), if_neg (show ¬ 11 ≤ s.2.2.2.2.2.2.1 by omega)]
      exact xPlace hd hT hK (xOn hd hT hK h 1 (fun _ => c1) (by decide)) (fun z => by rw [(aTake_i z).2.2.2]; omega)
  rw [if_neg k1]
  have n1 : ¬ T.1 s.2.2.1 = 1 := fun z => k1 (by rw [ek, z]; decide)
  by_cases k7 : κ.toInt = 27
  · have c7 : T.1 s.2.2.1 = 7 := zr 7 (by decide) (by decide) (by rw [← ek, k7]; decide)
    rw [if_neg (by omega), if_neg (by omega), if_neg (by omega), if_neg (by omega), if_neg (by omega), if_pos k7]
    unfold aTell
    rw [if_neg n0, if_neg n1, if_neg (by omega), if_pos c7]
    have a0 := xOn hd hT hK h 7 (fun _ => c7) (by decide)
    obtain ⟨x1, t1, b1, b2⟩ := xBound hd hT hK a0 0 100 0 100 (by decide) (by decide)
    have a1 := xArrB a0 b2 26 ((F_X11_goesOn a τ).1 a 19).toNatClampNeg x1 q26
    obtain ⟨x2, t2, d1, d2⟩ := xBound hd hT hK a1 0 99 0 99 (by decide) (by decide)
    simp only [b1, d1]
    exact xMust hd hT hK (xArrB a1 d2 27 _ _ q27) 4 24 (by decide) (by decide)
  by_cases k8 : κ.toInt = 28
  · have c8 : T.1 s.2.2.1 = 8 := zr 8 (by decide) (by decide) (by rw [← ek, k8]; decide)
    rw [if_neg (by omega), if_neg (by omega), if_neg (by omega), if_neg (by omega), if_neg (by omega), if_neg k7, if_pos k8]
    unfold aTell
    rw [if_neg n0, if_neg n1, if_neg (by omega), if_neg (by omega), if_pos c8]
    have a0 := xOn hd hT hK h 8 (fun _ => c8) (by decide)
    obtain ⟨x1, t1, b1, b2⟩ := xBound hd hT hK a0 0 99 0 99 (by decide) (by decide)
    simp only [b1]
    exact xMust hd hT hK (xArrB a0 b2 28 _ _ q28) 4 24 (by decide) (by decide)
  by_cases k9 : κ.toInt = 29
  · have c9 : T.1 s.2.2.1 = 9 := zr 9 (by decide) (by decide) (by rw [← ek, k9]; decide)
    rw [if_neg (by omega), if_neg (by omega), if_neg (by omega), if_neg (by omega), if_neg (by omega), if_neg k7, if_neg k8, if_pos k9]
    unfold aTell
    rw [if_neg n0, if_neg n1, if_neg (by omega), if_neg (by omega), if_neg (by omega), if_pos c9]
    have a0 := xOn hd hT hK h 9 (fun _ => c9) (by decide)
    obtain ⟨x1, t1, b1, b2⟩ := xBound hd hT hK a0 0 9999 0 9999 (by decide) (by decide)
    simp only [b1]
    exact xMust hd hT hK (xArrB a0 b2 29 _ _ q29) 4 24 (by decide) (by decide)
  have hL : zXo a k q v nm nO m T (if (κ - (22 : Int32)).toInt < 0 then (if 0 < ((F_X11_fail a 1 τ).1 a 13).toInt then F_X11_fail a 1 τ else F_X11_tellLaw a (κ - (22 : Int32)) (F_X11_goesOn a (F_X11_fail a 1 τ))) else if 26 < κ.toInt then (if 0 < ((F_X11_fail a 1 τ).1 a 13).toInt then F_X11_fail a 1 τ else F_X11_tellLaw a (κ - (22 : Int32)) (F_X11_goesOn a (F_X11_fail a 1 τ))) else if 0 < (τ.1 a 13).toInt then τ else F_X11_tellLaw a (κ - (22 : Int32)) (F_X11_goesOn a τ)) (aTell T s) := by
    have zb : ∀ b : Fin 35, 0 ≤ zrho b.val ∧ zrho b.val ≤ 41 := by decide +kernel
    have zb2 := zb ⟨(T.1 s.2.2.1).toNat, by omega⟩
    simp only at zb2
    rw [show (((T.1 s.2.2.1).toNat : Nat) : Int) = T.1 s.2.2.1 by omega, ← ek] at zb2
    have e : (κ - (22 : Int32)).toInt = κ.toInt - 22 := by rw [zb_sub (by rw [e22]; omega) (by rw [e22]; omega), e22]
    have law : ∀ b : Fin 35, 22 ≤ zrho b.val ∧ zrho b.val ≤ 26 ↔ 2 ≤ (b.val : Int) ∧ (b.val : Int) ≤ 6 := by decide +kernel
    have law2 := law ⟨(T.1 s.2.2.1).toNat, by omega⟩
    simp only at law2
    rw [show (((T.1 s.2.2.1).toNat : Nat) : Int) = T.1 s.2.2.1 by omega, ← ek] at law2
    rw [e]
    unfold aTell
    rw [if_neg n0, if_neg n1]
    have p := xFail hd h 1 1 (by decide) (by decide)
    have f : (aFail T 1 s).1 ≠ 0 := aFail_1 (by decide)
    have f2 := p.1.2.1
    have f3 := p.1.2.2.1
    by_cases c2 : 2 ≤ T.1 s.2.2.1 ∧ T.1 s.2.2.1 ≤ 6
    · have kk := law2.mpr c2
      rw [if_neg (by omega), if_neg (by omega), if_neg (by omega), if_pos c2]
      have a0 := xOn hd hT hK h (T.1 s.2.2.1) (fun _ => rfl) (by omega)
      have q := xLaw hd hT hK a0 (κ - (22 : Int32))
      unfold aLaw
      rw [show 2 + (T.1 s.2.2.1 - 2) = T.1 s.2.2.1 by omega]
      exact q
    · have kk := fun z => c2 (law2.mp z)
      rw [if_neg c2, if_neg (show ¬ T.1 s.2.2.1 = 7 from fun z => k7 (by rw [ek, z]; decide)), if_neg (show ¬ T.1 s.2.2.1 = 8 from fun z => k8 (by rw [ek, z]; decide)), if_neg (show ¬ T.1 s.2.2.1 = 9 from fun z => k9 (by rw [ek, z]; decide)), aTake_f f]
      rw [if_pos (show 0 < ((F_X11_fail a 1 τ).1 a 13).toInt by omega)]
      by_cases c3 : κ.toInt - 22 < 0
      · rw [if_pos c3]; exact p
      · rw [if_neg c3, if_pos (by omega)]
        exact p
  split
  · exact hL
  · split
    · exact hL
    · split
      · exact hL
      · split
        · exact hL
        · split
          · exact hL
          · exact hL
end ZW6
