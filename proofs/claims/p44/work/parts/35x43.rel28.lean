/-! WHAT A TELLING WRITES, to the place: the side that is told alone -/
theorem mPl_e3 {a iv : Nat} {x v23 x1 x2 x3 : Int32} {τ τ1 t0 w t1 t2 t3 : zS} (p1 : F_X11_named a τ = (x, τ1)) (p2 : F_X11_must a 1 τ1 = t0) (h0 : ¬ 0 < (t0.1 a 13).toInt) (hv : F_X11_numberOf a (τ1.1 a 11) t0 = v23) (hiv : ((12 : Int32) * τ.1 a 19 + τ.1 a 42 + (1 : Int32)).toNatClampNeg = iv) (hw : w = if v23.toInt < 0 then F_X11_wrong a 4 (τ1.1 a 11) (zu t0.1 ((t0.2.2 a 22).getD 0) iv v23, t0.2.1, t0.2.2) else (zu t0.1 ((t0.2.2 a 22).getD 0) iv v23, t0.2.1, t0.2.2)) (b1 : F_X11_bounded a 1 99 w = (x1, t1)) (d1 : F_X11_bounded a 0 99 (zu t1.1 ((w.2.2 a 23).getD 0) iv x1, t1.2.1, t1.2.2) = (x2, t2)) (g1 : F_X11_bounded a 0 99 (zu t2.1 ((t1.2.2 a 24).getD 0) iv x2, t2.2.1, t2.2.2) = (x3, t3)) : F_X11_tellPlace a τ = mPEnd a x (F_X11_must a 4 (zu t3.1 ((t2.2.2 a 25).getD 0) iv x3, t3.2.1, t3.2.2)) := by
  by_cases c : v23.toInt < 0
  · rw [if_pos c] at hw
    subst hw
    unfold F_X11_tellPlace
    simp only [zlt, zlt2, p1, p2, hv, hiv, zu_s, b1, d1, g1]
    rw [if_neg h0, if_pos c]
    unfold mPEnd
    simp only [zu_s]
  · rw [if_neg c] at hw
    subst hw
    unfold F_X11_tellPlace
    simp only [zlt, zlt2, p1, p2, hv, hiv, zu_s, b1, d1, g1]
    rw [if_neg h0, if_neg c]
    unfold mPEnd
    simp only [zu_s]
theorem mPl_e4 {a : Nat} {x : Int32} {τ τ1 t0 : zS} (p1 : F_X11_named a τ = (x, τ1)) (p2 : F_X11_must a 1 τ1 = t0) (h0 : 0 < (t0.1 a 13).toInt) : F_X11_tellPlace a τ = t0 := by
  unfold F_X11_tellPlace
  simp only [zlt, zlt2, p1, p2]
  rw [if_pos h0]
section FRM
variable {a k q v nm nO m b : Nat} {T : zTn} {τ τ' t : zS} {s s' : zA} {Y : Nat → Nat}
def aPm (Y : Nat → Nat) (a b : Nat) : Nat → Nat → Prop := fun c j => (c = a ∧ j ≠ 19 ∧ j ≠ 18 ∧ j ≠ 57 ∧ j ≠ 62) ∨ ((c = Y 22 ∨ c = Y 23 ∨ c = Y 24 ∨ c = Y 25) ∧ 12 * b ≤ j ∧ j < 12 * b + 12) ∨ (c = Y 21 ∧ j = b) ∨ ∃ i, zQs i ∧ 26 ≤ i ∧ i ≤ 43 ∧ c = Y i
theorem aPm.o {j : Nat} (h : j ≠ 19 ∧ j ≠ 18 ∧ j ≠ 57 ∧ j ≠ 62) : aPm Y a b a j := Or.inl ⟨rfl, h⟩
theorem aPm.r {j : Nat} (h : zQs j) (h2 : 26 ≤ j ∧ j ≤ 43) (i : Nat) : aPm Y a b (Y j) i := Or.inr (Or.inr (Or.inr ⟨j, h, h2.1, h2.2, rfl⟩))
theorem aPm.qq {i j : Nat} (h : j = 22 ∨ j = 23 ∨ j = 24 ∨ j = 25) (h2 : 12 * b ≤ i ∧ i < 12 * b + 12) : aPm Y a b (Y j) i := Or.inr (Or.inl ⟨by rcases h with rfl | rfl | rfl | rfl <;> simp, h2⟩)
theorem aPm.on (h : zFi (aPm Y a b) τ t) : zFi (aPm Y a b) τ (F_X11_goesOn a t) := fi_X11_goesOn h (aPm.o (by decide)) (aPm.o (by decide)) (aPm.o (by decide))
theorem aPm.fa (h : zFi (aPm Y a b) τ t) (p : Int32) : zFi (aPm Y a b) τ (F_X11_fail a p t) := fi_X11_fail h (aPm.o (by decide)) (aPm.o (by decide))
theorem aPm.mu (h : zFi (aPm Y a b) τ t) (p : Int32) : zFi (aPm Y a b) τ (F_X11_must a p t) := fi_X11_must h (aPm.o (by decide)) (aPm.o (by decide)) (aPm.o (by decide))
theorem aPm.wr (h : zFi (aPm Y a b) τ t) (p r : Int32) : zFi (aPm Y a b) τ (F_X11_wrong a p r t) := fi_X11_wrong h (aPm.o (by decide)) (aPm.o (by decide))
theorem aPm.nd (h : zFi (aPm Y a b) τ t) : zFi (aPm Y a b) τ (F_X11_named a t).2 := fi_X11_named h (aPm.o (by decide)) (aPm.o (by decide)) (aPm.o (by decide)) (aPm.o (by decide)) (aPm.o (by decide))
theorem aPm.bd (h : zFi (aPm Y a b) τ t) (lo hi : Int32) : zFi (aPm Y a b) τ (F_X11_bounded a lo hi t).2 := fi_X11_bounded h (aPm.o (by decide)) (aPm.o (by decide)) (aPm.o (by decide)) (aPm.o (by decide)) (aPm.o (by decide))
theorem aPm.b1 (hY : zYz Y a τ.2.2) (h : zFi (aPm Y a b) τ t) {j : Nat} (hj : zQs j) (h26 : 26 ≤ j ∧ j ≤ 43) (lo hi : Int32) : zFi (aPm Y a b) τ (mB1 a j lo hi t) := by
  have e : (t.2.2 a j).getD 0 = Y j := by rw [h.1]; exact (hY.1 j hj).1
  unfold mB1
  rw [e]
  exact zFi.w (s := (F_X11_bounded a lo hi t).2) (aPm.bd h lo hi) (aPm.r hj h26 _)
theorem aPm.sv (hY : zYz Y a τ.2.2) (h : zFi (aPm Y a b) τ t) : t.1 a 19 = τ.1 a 19 ∧ t.1 a 18 = τ.1 a 18 := by
  have n : ∀ j, j = 19 ∨ j = 18 → ¬ aPm Y a b a j := fun j hj => by
    rintro (z | ⟨z, -⟩ | ⟨z, -⟩ | ⟨i, z1, -, -, z⟩)
    · omega
    · rcases z with z | z | z | z
      · exact (hY.1 22 (by unfold zQs; omega)).2 z.symm
      · exact (hY.1 23 (by unfold zQs; omega)).2 z.symm
      · exact (hY.1 24 (by unfold zQs; omega)).2 z.symm
      · exact (hY.1 25 (by unfold zQs; omega)).2 z.symm
    · exact (hY.1 21 (by unfold zQs; omega)).2 z.symm
    · exact (hY.1 i z1).2 z.symm
  exact ⟨h.2 _ _ (n 19 (Or.inl rfl)), h.2 _ _ (n 18 (Or.inr rfl))⟩
theorem aPm.en (hY : zYz Y a τ.2.2) (hb : (τ.1 a 19).toNatClampNeg = b) (h : zFi (aPm Y a b) τ t) (x : Int32) : zFi (aPm Y a b) τ (mPEnd a x t) := by
  have e : (t.2.2 a 21).getD 0 = Y 21 := by rw [h.1]; exact (hY.1 21 (by unfold zQs; omega)).1
  have K1 : zFi (aPm Y a b) τ (zu t.1 a 42 (t.1 a 42 + (1 : Int32)), t.2.1, t.2.2) := h.w (aPm.o (by decide))
  unfold mPEnd
  split
  · exact h
  · split
    · exact K1
    · rw [e]
      have e19 : (zu t.1 a 42 (t.1 a 42 + (1 : Int32)) a 19).toNatClampNeg = b := by rw [zu_j _ _ _ _ _ (by decide), (aPm.sv hY h).1]; exact hb
      rw [e19]
      exact K1.w (Or.inr (Or.inr (Or.inl ⟨rfl, rfl⟩)))
theorem aPm.pl (hY : zYz Y a τ.2.2) (hb : (τ.1 a 19).toInt = b) (hb1 : b ≤ 1) (h : zFi (aPm Y a b) τ t) (h42 : 0 ≤ (t.1 a 42).toInt ∧ (t.1 a 42).toInt < 11) : zFi (aPm Y a b) τ (F_X11_tellPlace a t) := by
  have e12 : (12 : Int32).toInt = 12 := by decide
  have e1 : (1 : Int32).toInt = 1 := by decide
  have hb' : (τ.1 a 19).toNatClampNeg = b := by rw [ztn, hb]; rfl
  have t19 : (t.1 a 19).toInt = b := by rw [(aPm.sv hY h).1]; exact hb
  have em : ((12 : Int32) * t.1 a 19).toInt = 12 * b := by rw [zb_mul (by rw [e12, t19]; omega) (by rw [e12, t19]; omega), e12, t19]
  have e42 : ((12 : Int32) * t.1 a 19 + t.1 a 42).toInt = 12 * b + (t.1 a 42).toInt := by rw [zb_add (by rw [em]; omega) (by rw [em]; omega), em]
  obtain ⟨iv, hiv⟩ : ∃ iv, iv = ((12 : Int32) * t.1 a 19 + t.1 a 42 + (1 : Int32)).toNatClampNeg := ⟨_, rfl⟩
  have hi : 12 * b ≤ iv ∧ iv < 12 * b + 12 := by rw [hiv, ztn, zb_add (by rw [e42, e1]; omega) (by rw [e42, e1]; omega), e42, e1]; omega
  obtain ⟨x, τ1, p1⟩ : ∃ x τ1, F_X11_named a t = (x, τ1) := ⟨_, _, rfl⟩
  obtain ⟨t0, p2⟩ : ∃ t0, F_X11_must a 1 τ1 = t0 := ⟨_, rfl⟩
  have f0 : zFi (aPm Y a b) τ t0 := by
    have q := aPm.nd h
    rw [p1] at q
    rw [← p2]
    exact aPm.mu q 1
  by_cases h0 : 0 < (t0.1 a 13).toInt
  · rw [mPl_e4 p1 p2 h0]; exact f0
  · obtain ⟨v23, hv⟩ : ∃ v23, F_X11_numberOf a (τ1.1 a 11) t0 = v23 := ⟨_, rfl⟩
    have e : ∀ (u : zS) j, zFi (aPm Y a b) τ u → (j = 22 ∨ j = 23 ∨ j = 24 ∨ j = 25) → (u.2.2 a j).getD 0 = Y j := fun u j f hj => by rw [f.1]; exact (hY.1 j (by unfold zQs; omega)).1
    have K : zFi (aPm Y a b) τ (zu t0.1 ((t0.2.2 a 22).getD 0) iv v23, t0.2.1, t0.2.2) := by
      rw [e t0 22 f0 (by omega)]
      exact f0.w (aPm.qq (by omega) hi)
    obtain ⟨w, hw⟩ : ∃ w, w = if v23.toInt < 0 then F_X11_wrong a 4 (τ1.1 a 11) (zu t0.1 ((t0.2.2 a 22).getD 0) iv v23, t0.2.1, t0.2.2) else (zu t0.1 ((t0.2.2 a 22).getD 0) iv v23, t0.2.1, t0.2.2) := ⟨_, rfl⟩
    have fw : zFi (aPm Y a b) τ w := by
      rw [hw]
      split
      · exact aPm.wr K _ _
      · exact K
    obtain ⟨x1, t1, b1⟩ : ∃ x1 t1, F_X11_bounded a 1 99 w = (x1, t1) := ⟨_, _, rfl⟩
    have f1 : zFi (aPm Y a b) τ t1 := by have q := aPm.bd fw 1 99; rw [b1] at q; exact q
    have z1 : zFi (aPm Y a b) τ (zu t1.1 ((w.2.2 a 23).getD 0) iv x1, t1.2.1, t1.2.2) := by rw [e w 23 fw (by omega)]; exact f1.w (aPm.qq (by omega) hi)
    obtain ⟨x2, t2, d1⟩ : ∃ x2 t2, F_X11_bounded a 0 99 (zu t1.1 ((w.2.2 a 23).getD 0) iv x1, t1.2.1, t1.2.2) = (x2, t2) := ⟨_, _, rfl⟩
    have f2 : zFi (aPm Y a b) τ t2 := by have q := aPm.bd z1 0 99; rw [d1] at q; exact q
    have z2 : zFi (aPm Y a b) τ (zu t2.1 ((t1.2.2 a 24).getD 0) iv x2, t2.2.1, t2.2.2) := by rw [e t1 24 f1 (by omega)]; exact f2.w (aPm.qq (by omega) hi)
    obtain ⟨x3, t3, g1⟩ : ∃ x3 t3, F_X11_bounded a 0 99 (zu t2.1 ((t1.2.2 a 24).getD 0) iv x2, t2.2.1, t2.2.2) = (x3, t3) := ⟨_, _, rfl⟩
    have f3 : zFi (aPm Y a b) τ t3 := by have q := aPm.bd z2 0 99; rw [g1] at q; exact q
    have z3 : zFi (aPm Y a b) τ (zu t3.1 ((t2.2.2 a 25).getD 0) iv x3, t3.2.1, t3.2.2) := by rw [e t2 25 f2 (by omega)]; exact f3.w (aPm.qq (by omega) hi)
    rw [mPl_e3 p1 p2 h0 hv hiv.symm hw b1 d1 g1]
    exact aPm.en hY hb' (aPm.mu z3 4) x
theorem aPm.mo (hY : zYz Y a τ.2.2) (hb : (τ.1 a 19).toInt = b) (hb1 : b ≤ 1) (h : zFi (aPm Y a b) τ t) : zFi (aPm Y a b) τ (F_X11_tellMouth a t) := by
  have e12 : (12 : Int32).toInt = 12 := by decide
  have f1 := aPm.mu (aPm.nd h) 4
  obtain ⟨r, hr⟩ : ∃ r, r = F_X11_named a t := ⟨_, rfl⟩
  rw [← hr] at f1
  obtain ⟨u, hu⟩ : ∃ u, u = F_X11_must a 4 r.2 := ⟨_, rfl⟩
  rw [← hu] at f1
  have y : ∀ j, zQs j → (u.2.2 a j).getD 0 = Y j := fun j hj => by rw [f1.1]; exact (hY.1 j hj).1
  have n : ∀ j, 21 ≤ j → j ≤ 25 → a ≠ Y j := fun j j1 j2 z => (hY.n.2 j j1 j2) z.symm
  have u19 : u.1 a 19 = τ.1 a 19 := (aPm.sv hY f1).1
  have ev : ((12 : Int32) * τ.1 a 19).toNatClampNeg = 12 * b := by rw [ztn, zb_mul (by rw [e12, hb]; omega) (by rw [e12, hb]; omega), e12, hb]; omega
  have ew : (τ.1 a 19).toNatClampNeg = b := by rw [ztn, hb]; rfl
  unfold F_X11_tellMouth
  simp only [zlt, zlt2]
  rw [← hr, ← hu]
  split
  · exact f1
  · have q : ∀ j, 21 ≤ j → j ≤ 25 → zQs j := fun j j1 j2 => by unfold zQs; omega
    simp only [y 22 (q 22 (by decide) (by decide)), y 23 (q 23 (by decide) (by decide)), y 24 (q 24 (by decide) (by decide)), y 25 (q 25 (by decide) (by decide)), y 21 (q 21 (by decide) (by decide)), zu_n _ _ _ (n 22 (by decide) (by decide)), zu_n _ _ _ (n 23 (by decide) (by decide)), zu_n _ _ _ (n 24 (by decide) (by decide)), zu_n _ _ _ (n 25 (by decide) (by decide)), zu_j _ _ _ _ _ (by decide : ¬ 41 = 19), u19, ev, ew]
    have w : 12 * b ≤ 12 * b ∧ 12 * b < 12 * b + 12 := ⟨Nat.le_refl _, by omega⟩
    have K0 : zFi (aPm Y a b) τ (zu u.1 a 41 (1 : Int32), u.2.1, u.2.2) := f1.w (aPm.o (by decide))
    have K1 := ((((K0.w (r := Y 22) (j := 12 * b) (v := (-2 : Int32)) (aPm.qq (by omega) w)).w (r := Y 23) (j := 12 * b) (v := (0 : Int32)) (aPm.qq (by omega) w)).w (r := Y 24) (j := 12 * b) (v := (0 : Int32)) (aPm.qq (by omega) w)).w (r := Y 25) (j := 12 * b) (v := (0 : Int32)) (aPm.qq (by omega) w))
    exact ⟨(K1.w (r := Y 21) (j := b) (v := zu (zu (zu (zu (zu u.1 a 41 (1 : Int32)) (Y 22) (12 * b) (-2 : Int32)) (Y 23) (12 * b) (0 : Int32)) (Y 24) (12 * b) (0 : Int32)) (Y 25) (12 * b) (0 : Int32) a 42 + (1 : Int32)) (Or.inr (Or.inr (Or.inl ⟨rfl, rfl⟩)))).1, fun c j nn => by
      have z := (K1.w (r := Y 21) (j := b) (v := zu u.1 a 41 (1 : Int32) a 42 + (1 : Int32)) (Or.inr (Or.inr (Or.inl ⟨rfl, rfl⟩)))).2 c j nn
      exact z⟩
theorem aPm.law (hY : zYz Y a τ.2.2) (h : zFi (aPm Y a b) τ t) (p : Int32) : zFi (aPm Y a b) τ (F_X11_tellLaw a p t) := by
  have r : ∀ j, zQs j → 26 ≤ j ∧ j ≤ 43 → ∀ i : Nat, aPm Y a b ((τ.2.2 a j).getD 0) i := fun j hj h26 i => by rw [(hY.1 j hj).1]; exact aPm.r hj h26 i
  have q : ∀ j, (j = 30 ∨ j = 31 ∨ j = 33 ∨ j = 34 ∨ j = 35 ∨ j = 36 ∨ j = 37 ∨ j = 39 ∨ j = 40 ∨ j = 43) → zQs j := fun j hj => by unfold zQs; omega
  exact fi_X11_tellLaw h (aPm.o (by decide)) (aPm.o (by decide)) (aPm.o (by decide)) (r 33 (q _ (by decide)) (by decide)) (r 36 (q _ (by decide)) (by decide)) (aPm.o (by decide)) (r 39 (q _ (by decide)) (by decide)) (r 40 (q _ (by decide)) (by decide)) (aPm.o (by decide)) (r 43 (q _ (by decide)) (by decide)) (aPm.o (by decide)) (r 37 (q _ (by decide)) (by decide)) (aPm.o (by decide)) (r 30 (q _ (by decide)) (by decide)) (r 31 (q _ (by decide)) (by decide)) (r 34 (q _ (by decide)) (by decide)) (r 35 (q _ (by decide)) (by decide))
/-- one telling, by what it leaves -/
theorem xTellF (hd : zWd a k q v nm nO) (hT : zTm T m) (hK : zTK T m) (h : zXo a k q v nm nO m T t s) (hs : s.1 = 0) (hY : zYz Y a τ.2.2) (hb : (τ.1 a 19).toInt = b) (hb1 : b ≤ 1) (f : zFi (aPm Y a b) τ t) : zFi (aPm Y a b) τ (F_X11_tellOne a t) := by
  obtain ⟨D1, D2, D3, D4, D5, D6, D7, D8, D9⟩ := xDisp hd hT hK h hs
  have rg := hT.2.1 _ (h.1.2.2.2.2 hs).1
  have r42 := (h.1.2.2.2.2 hs).2.2.2.2.2.2.1
  have r10 := (h.1.2.2.2.2 hs).2.2.2.2.2.2.2.1
  have on42 : (F_X11_goesOn a t).1 a 42 = t.1 a 42 := (fi_X11_goesOn (A := fun c j => c = a ∧ j ≠ 42) zFi.id ⟨rfl, by decide⟩ ⟨rfl, by decide⟩ ⟨rfl, by decide⟩).2 _ _ (fun z => z.2 rfl)
  have q : ∀ j, (j = 26 ∨ j = 27 ∨ j = 28 ∨ j = 29) → zQs j := fun j hj => by unfold zQs; omega
  by_cases c0 : T.1 s.2.2.1 = 0
  · by_cases cm : s.2.2.2.2.2.1 = 0
    · rw [D1 c0 cm]; exact aPm.mo hY hb hb1 (aPm.on f)
    · rw [D2 c0 cm]; exact aPm.fa f _
  · by_cases c1 : T.1 s.2.2.1 = 1
    · by_cases cm : s.2.2.2.2.2.2.1 = 11
      · rw [D4 c1 cm]; exact aPm.fa f _
      · rw [D3 c1 cm]; exact aPm.pl hY hb hb1 (aPm.on f) (by rw [on42, r42]; omega)
    · by_cases c6 : T.1 s.2.2.1 ≤ 6
      · obtain ⟨p, -, e⟩ := D5 (by omega) c6
        rw [e]; exact aPm.law hY (aPm.on f) p
      · by_cases c7 : T.1 s.2.2.1 = 7
        · rw [D6 c7]; exact aPm.mu (aPm.b1 hY (aPm.b1 hY (aPm.on f) (q _ (by omega)) (by decide) _ _) (q _ (by omega)) (by decide) _ _) _
        · by_cases c8 : T.1 s.2.2.1 = 8
          · rw [D7 c8]; exact aPm.mu (aPm.b1 hY (aPm.on f) (q _ (by omega)) (by decide) _ _) _
          · by_cases c9 : T.1 s.2.2.1 = 9
            · rw [D8 c9]; exact aPm.mu (aPm.b1 hY (aPm.on f) (q _ (by omega)) (by decide) _ _) _
            · rw [D9 (by omega)]; exact aPm.fa f _
end FRM
