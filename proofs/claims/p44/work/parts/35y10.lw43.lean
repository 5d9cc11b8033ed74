/-! THE REFERENCE'S MOUTH: its way -/
section FRM2
variable {a k q v nm nO m b : Nat} {T : zTn} {τ τ' t : zS} {s s' : zA} {Y : Nat → Nat}
def aPk (Y : Nat → Nat) (a b : Nat) : Nat → Nat → Prop := fun c j => (c = a ∧ j ≠ 19 ∧ j ≠ 18 ∧ j ≠ 57 ∧ j ≠ 62) ∨ ((c = Y 22 ∨ c = Y 23 ∨ c = Y 24 ∨ c = Y 25) ∧ 12 * b + 1 ≤ j ∧ j < 12 * b + 12) ∨ (c = Y 21 ∧ j = b) ∨ ∃ i, zQs i ∧ 26 ≤ i ∧ i ≤ 43 ∧ c = Y i
theorem aPk.o {j : Nat} (h : j ≠ 19 ∧ j ≠ 18 ∧ j ≠ 57 ∧ j ≠ 62) : aPk Y a b a j := Or.inl ⟨rfl, h⟩
theorem aPk.r {j : Nat} (h : zQs j) (h2 : 26 ≤ j ∧ j ≤ 43) (i : Nat) : aPk Y a b (Y j) i := Or.inr (Or.inr (Or.inr ⟨j, h, h2.1, h2.2, rfl⟩))
theorem aPk.qq {i j : Nat} (h : j = 22 ∨ j = 23 ∨ j = 24 ∨ j = 25) (h2 : 12 * b + 1 ≤ i ∧ i < 12 * b + 12) : aPk Y a b (Y j) i := Or.inr (Or.inl ⟨by rcases h with rfl | rfl | rfl | rfl <;> simp, h2⟩)
theorem aPk.on (h : zFi (aPk Y a b) τ t) : zFi (aPk Y a b) τ (F_X11_goesOn a t) := fi_X11_goesOn h (aPk.o (by decide)) (aPk.o (by decide)) (aPk.o (by decide))
theorem aPk.fa (h : zFi (aPk Y a b) τ t) (p : Int32) : zFi (aPk Y a b) τ (F_X11_fail a p t) := fi_X11_fail h (aPk.o (by decide)) (aPk.o (by decide))
theorem aPk.mu (h : zFi (aPk Y a b) τ t) (p : Int32) : zFi (aPk Y a b) τ (F_X11_must a p t) := fi_X11_must h (aPk.o (by decide)) (aPk.o (by decide)) (aPk.o (by decide))
theorem aPk.wr (h : zFi (aPk Y a b) τ t) (p r : Int32) : zFi (aPk Y a b) τ (F_X11_wrong a p r t) := fi_X11_wrong h (aPk.o (by decide)) (aPk.o (by decide))
theorem aPk.nd (h : zFi (aPk Y a b) τ t) : zFi (aPk Y a b) τ (F_X11_named a t).2 := fi_X11_named h (aPk.o (by decide)) (aPk.o (by decide)) (aPk.o (by decide)) (aPk.o (by decide)) (aPk.o (by decide))
theorem aPk.bd (h : zFi (aPk Y a b) τ t) (lo hi : Int32) : zFi (aPk Y a b) τ (F_X11_bounded a lo hi t).2 := fi_X11_bounded h (aPk.o (by decide)) (aPk.o (by decide)) (aPk.o (by decide)) (aPk.o (by decide)) (aPk.o (by decide))
theorem aPk.b1 (hY : zYz Y a τ.2.2) (h : zFi (aPk Y a b) τ t) {j : Nat} (hj : zQs j) (h26 : 26 ≤ j ∧ j ≤ 43) (lo hi : Int32) : zFi (aPk Y a b) τ (mB1 a j lo hi t) := by
  have e : (t.2.2 a j).getD 0 = Y j := by rw [h.1]; exact (hY.1 j hj).1
  unfold mB1
  rw [e]
  exact zFi.w (s := (F_X11_bounded a lo hi t).2) (aPk.bd h lo hi) (aPk.r hj h26 _)
theorem aPk.sv (hY : zYz Y a τ.2.2) (h : zFi (aPk Y a b) τ t) : t.1 a 19 = τ.1 a 19 ∧ t.1 a 18 = τ.1 a 18 := by
  have n : ∀ j, j = 19 ∨ j = 18 → ¬ aPk Y a b a j := fun j hj => by
    rintro (z | ⟨z, -⟩ | ⟨z, -⟩ | ⟨i, z1, -, -, z⟩)
    · omega
    · rcases z with z | z | z | z
      · exact (hY.1 22 (by unfold zQs; omega)).2 z.symm
      · exact (hY.1 23 (by unfold zQs; omega)).2 z.symm
      · exact (hY.1 24 (by unfold zQs; omega)).2 z.symm
      · exact (hY.1 25 (by unfold zQs; omega)).2 z.symm
    · exact (hY.1 21 (by unfold zQs; omega)).2 z.symm
    · exact (hY.1 i z1).2 z.symm
  exact ⟨h.2 _ _ (n 19 (Or.inl rfl)), h.2 _ _ (n 18 (Or.inr rfl))⟩
theorem aPk.en (hY : zYz Y a τ.2.2) (hb : (τ.1 a 19).toNatClampNeg = b) (h : zFi (aPk Y a b) τ t) (x : Int32) : zFi (aPk Y a b) τ (mPEnd a x t) := by
  have e : (t.2.2 a 21).getD 0 = Y 21 := by rw [h.1]; exact (hY.1 21 (by unfold zQs; omega)).1
  have K1 : zFi (aPk Y a b) τ (zu t.1 a 42 (t.1 a 42 + (1 : Int32)), t.2.1, t.2.2) := h.w (aPk.o (by decide))
  unfold mPEnd
  split
  · exact h
  · split
    · exact K1
    · rw [e]
      have e19 : (zu t.1 a 42 (t.1 a 42 + (1 : Int32)) a 19).toNatClampNeg = b := by rw [zu_j _ _ _ _ _ (by decide), (aPk.sv hY h).1]; exact hb
      rw [e19]
      exact K1.w (Or.inr (Or.inr (Or.inl ⟨rfl, rfl⟩)))
theorem aPk.pl (hY : zYz Y a τ.2.2) (hb : (τ.1 a 19).toInt = b) (hb1 : b ≤ 1) (h : zFi (aPk Y a b) τ t) (h42 : 0 ≤ (t.1 a 42).toInt ∧ (t.1 a 42).toInt < 11) : zFi (aPk Y a b) τ (F_X11_tellPlace a t) := by
  have e12 : (12 : Int32).toInt = 12 := by decide
  have e1 : (1 : Int32).toInt = 1 := by decide
  have hb' : (τ.1 a 19).toNatClampNeg = b := by rw [ztn, hb]; rfl
  have t19 : (t.1 a 19).toInt = b := by rw [(aPk.sv hY h).1]; exact hb
  have em : ((12 : Int32) * t.1 a 19).toInt = 12 * b := by rw [zb_mul (by rw [e12, t19]; omega) (by rw [e12, t19]; omega), e12, t19]
  have e42 : ((12 : Int32) * t.1 a 19 + t.1 a 42).toInt = 12 * b + (t.1 a 42).toInt := by rw [zb_add (by rw [em]; omega) (by rw [em]; omega), em]
  obtain ⟨iv, hiv⟩ : ∃ iv, iv = ((12 : Int32) * t.1 a 19 + t.1 a 42 + (1 : Int32)).toNatClampNeg := ⟨_, rfl⟩
  have hi : 12 * b + 1 ≤ iv ∧ iv < 12 * b + 12 := by rw [hiv, ztn, zb_add (by rw [e42, e1]; omega) (by rw [e42, e1]; omega), e42, e1]; omega
  obtain ⟨x, τ1, p1⟩ : ∃ x τ1, F_X11_named a t = (x, τ1) := ⟨_, _, rfl⟩
  obtain ⟨t0, p2⟩ : ∃ t0, F_X11_must a 1 τ1 = t0 := ⟨_, rfl⟩
  have f0 : zFi (aPk Y a b) τ t0 := by
    have q := aPk.nd h
    rw [p1] at q
    rw [← p2]
    exact aPk.mu q 1
  by_cases h0 : 0 < (t0.1 a 13).toInt
  · rw [mPl_e4 p1 p2 h0]; exact f0
  · obtain ⟨v23, hv⟩ : ∃ v23, F_X11_numberOf a (τ1.1 a 11) t0 = v23 := ⟨_, rfl⟩
    have e : ∀ (u : zS) j, zFi (aPk Y a b) τ u → (j = 22 ∨ j = 23 ∨ j = 24 ∨ j = 25) → (u.2.2 a j).getD 0 = Y j := fun u j f hj => by rw [f.1]; exact (hY.1 j (by unfold zQs; omega)).1
    have K : zFi (aPk Y a b) τ (zu t0.1 ((t0.2.2 a 22).getD 0) iv v23, t0.2.1, t0.2.2) := by
      rw [e t0 22 f0 (by omega)]
      exact f0.w (aPk.qq (by omega) hi)
    obtain ⟨w, hw⟩ : ∃ w, w = if v23.toInt < 0 then F_X11_wrong a 4 (τ1.1 a 11) (zu t0.1 ((t0.2.2 a 22).getD 0) iv v23, t0.2.1, t0.2.2) else (zu t0.1 ((t0.2.2 a 22).getD 0) iv v23, t0.2.1, t0.2.2) := ⟨_, rfl⟩
    have fw : zFi (aPk Y a b) τ w := by
      rw [hw]
      split
      · exact aPk.wr K _ _
      · exact K
    obtain ⟨x1, t1, b1⟩ : ∃ x1 t1, F_X11_bounded a 1 99 w = (x1, t1) := ⟨_, _, rfl⟩
    have f1 : zFi (aPk Y a b) τ t1 := by have q := aPk.bd fw 1 99; rw [b1] at q; exact q
    have z1 : zFi (aPk Y a b) τ (zu t1.1 ((w.2.2 a 23).getD 0) iv x1, t1.2.1, t1.2.2) := by rw [e w 23 fw (by omega)]; exact f1.w (aPk.qq (by omega) hi)
    obtain ⟨x2, t2, d1⟩ : ∃ x2 t2, F_X11_bounded a 0 99 (zu t1.1 ((w.2.2 a 23).getD 0) iv x1, t1.2.1, t1.2.2) = (x2, t2) := ⟨_, _, rfl⟩
    have f2 : zFi (aPk Y a b) τ t2 := by have q := aPk.bd z1 0 99; rw [d1] at q; exact q
    have z2 : zFi (aPk Y a b) τ (zu t2.1 ((t1.2.2 a 24).getD 0) iv x2, t2.2.1, t2.2.2) := by rw [e t1 24 f1 (by omega)]; exact f2.w (aPk.qq (by omega) hi)
    obtain ⟨x3, t3, g1⟩ : ∃ x3 t3, F_X11_bounded a 0 99 (zu t2.1 ((t1.2.2 a 24).getD 0) iv x2, t2.2.1, t2.2.2) = (x3, t3) := ⟨_, _, rfl⟩
    have f3 : zFi (aPk Y a b) τ t3 := by have q := aPk.bd z2 0 99; rw [g1] at q; exact q
    have z3 : zFi (aPk Y a b) τ (zu t3.1 ((t2.2.2 a 25).getD 0) iv x3, t3.2.1, t3.2.2) := by rw [e t2 25 f2 (by omega)]; exact f3.w (aPk.qq (by omega) hi)
    rw [mPl_e3 p1 p2 h0 hv hiv.symm hw b1 d1 g1]
    exact aPk.en hY hb' (aPk.mu z3 4) x
theorem aPk.law (hY : zYz Y a τ.2.2) (h : zFi (aPk Y a b) τ t) (p : Int32) : zFi (aPk Y a b) τ (F_X11_tellLaw a p t) := by
  have r : ∀ j, zQs j → 26 ≤ j ∧ j ≤ 43 → ∀ i : Nat, aPk Y a b ((τ.2.2 a j).getD 0) i := fun j hj h26 i => by rw [(hY.1 j hj).1]; exact aPk.r hj h26 i
  have q : ∀ j, (j = 30 ∨ j = 31 ∨ j = 33 ∨ j = 34 ∨ j = 35 ∨ j = 36 ∨ j = 37 ∨ j = 39 ∨ j = 40 ∨ j = 43) → zQs j := fun j hj => by unfold zQs; omega
  exact fi_X11_tellLaw h (aPk.o (by decide)) (aPk.o (by decide)) (aPk.o (by decide)) (r 33 (q _ (by decide)) (by decide)) (r 36 (q _ (by decide)) (by decide)) (aPk.o (by decide)) (r 39 (q _ (by decide)) (by decide)) (r 40 (q _ (by decide)) (by decide)) (aPk.o (by decide)) (r 43 (q _ (by decide)) (by decide)) (aPk.o (by decide)) (r 37 (q _ (by decide)) (by decide)) (aPk.o (by decide)) (r 30 (q _ (by decide)) (by decide)) (r 31 (q _ (by decide)) (by decide)) (r 34 (q _ (by decide)) (by decide)) (r 35 (q _ (by decide)) (by decide))

/-- once the mouth is told, it runs nowhere -/
def zX2 (Y : Nat → Nat) (b : Nat) (τ : zS) (s : zA) : Prop := s.1 = 0 → s.2.2.2.2.2.1 ≠ 0 → τ.1 (Y 22) (12 * b) = -2
theorem zX2.fr (hY : zYz Y a τ.2.2) (f : zFi (aPk Y a b) τ t) : t.1 (Y 22) (12 * b) = τ.1 (Y 22) (12 * b) := f.2 _ _ (by
  have q22 : zQs 22 := by unfold zQs; omega
  rintro (⟨z, -⟩ | ⟨-, z, -⟩ | ⟨z, -⟩ | ⟨i, z1, z2, -, z⟩)
  · exact (hY.1 22 q22).2 z
  · omega
  · exact hY.2 22 21 q22 (by unfold zQs; omega) (by decide) z
  · exact hY.2 22 i q22 z1 (by omega) z)
theorem mouth2 (hY : zYz Y a τ.2.2) (hb : (τ.1 a 19).toInt = b) (hb1 : b ≤ 1) (h : ¬ 0 < ((F_X11_tellMouth a τ).1 a 13).toInt) : (F_X11_tellMouth a τ).1 (Y 22) (12 * b) = -2 := by
  have e12 : (12 : Int32).toInt = 12 := by decide
  have f1 := aPk.mu (aPk.nd (zFi.id (A := aPk Y a b) (σ := τ))) 4
  obtain ⟨r, hr⟩ : ∃ r, r = F_X11_named a τ := ⟨_, rfl⟩
  rw [← hr] at f1
  obtain ⟨u, hu⟩ : ∃ u, u = F_X11_must a 4 r.2 := ⟨_, rfl⟩
  rw [← hu] at f1
  have y : ∀ j, zQs j → (u.2.2 a j).getD 0 = Y j := fun j hj => by rw [f1.1]; exact (hY.1 j hj).1
  have n : ∀ j, 21 ≤ j → j ≤ 25 → a ≠ Y j := fun j j1 j2 z => (hY.n.2 j j1 j2) z.symm
  have u19 : u.1 a 19 = τ.1 a 19 := (aPk.sv hY f1).1
  have ev : ((12 : Int32) * τ.1 a 19).toNatClampNeg = 12 * b := by rw [ztn, zb_mul (by rw [e12, hb]; omega) (by rw [e12, hb]; omega), e12, hb]; omega
  have q : ∀ j, 21 ≤ j → j ≤ 25 → zQs j := fun j j1 j2 => by unfold zQs; omega
  have d : ∀ j, 21 ≤ j → j ≤ 25 → j ≠ 22 → ¬ Y 22 = Y j := fun j j1 j2 h => hY.2 22 j (q 22 (by decide) (by decide)) (q j j1 j2) (fun z => h z.symm)
  unfold F_X11_tellMouth at h ⊢
  simp only [zlt, zlt2] at h ⊢
  rw [← hr, ← hu] at h ⊢
  by_cases c : 0 < (u.1 a 13).toInt
  · rw [if_pos c] at h
    exact absurd c h
  · rw [if_neg c]
    simp only [y 22 (q 22 (by decide) (by decide)), y 23 (q 23 (by decide) (by decide)), y 24 (q 24 (by decide) (by decide)), y 25 (q 25 (by decide) (by decide)), y 21 (q 21 (by decide) (by decide)), zu_n _ _ _ (n 22 (by decide) (by decide)), zu_n _ _ _ (n 23 (by decide) (by decide)), zu_n _ _ _ (n 24 (by decide) (by decide)), zu_n _ _ _ (n 25 (by decide) (by decide)), zu_j _ _ _ _ _ (by decide : ¬ 41 = 19), u19, ev]
    rw [zu_n _ _ _ (d 21 (by decide) (by decide) (by decide)), zu_n _ _ _ (d 25 (by decide) (by decide) (by decide)), zu_n _ _ _ (d 24 (by decide) (by decide) (by decide)), zu_n _ _ _ (d 23 (by decide) (by decide) (by decide)), zu_s]
theorem xTell22 (hd : zWd a k q v nm nO) (hT : zTm T m) (hK : zTK T m) (h : zXo a k q v nm nO m T τ s) (hs : s.1 = 0) (hY : zYz Y a τ.2.2) (hb : (τ.1 a 19).toInt = b) (hb1 : b ≤ 1) (hg : zX2 Y b τ s) : zX2 Y b (F_X11_tellOne a τ) (aTell T s) := by
  obtain ⟨D1, D2, D3, D4, D5, D6, D7, D8, D9⟩ := xDisp hd hT hK h hs
  have X := xTell hd hT hK h hs
  have r42 := (h.1.2.2.2.2 hs).2.2.2.2.2.2.1
  have r10 := (h.1.2.2.2.2 hs).2.2.2.2.2.2.2.1
  have on42 : (F_X11_goesOn a τ).1 a 42 = τ.1 a 42 := (fi_X11_goesOn (A := fun c j => c = a ∧ j ≠ 42) zFi.id ⟨rfl, by decide⟩ ⟨rfl, by decide⟩ ⟨rfl, by decide⟩).2 _ _ (fun z => z.2 rfl)
  have on := aPk.on (zFi.id (A := aPk Y a b) (σ := τ))
  have q : ∀ j, (j = 26 ∨ j = 27 ∨ j = 28 ∨ j = 29) → zQs j := fun j hj => by unfold zQs; omega
  have keep : zFi (aPk Y a b) τ (F_X11_tellOne a τ) → ((aTell T s).1 = 0 → (aTell T s).2.2.2.2.2.1 = s.2.2.2.2.2.1) → zX2 Y b (F_X11_tellOne a τ) (aTell T s) := fun f hm z1 z2 => by
    rw [zX2.fr hY f]
    exact hg hs (by rw [← hm z1]; exact z2)
  have bad : ∀ t', F_X11_tellOne a τ = t' → 0 < (t'.1 a 13).toInt → zX2 Y b (F_X11_tellOne a τ) (aTell T s) := fun t' e hp z1 => by
    have := X.1.2.1
    rw [e] at this
    omega
  have f2 : 0 < ((F_X11_fail a 2 τ).1 a 13).toInt := by
    have p2 := xFail hd h 2 2 (by decide) (by decide)
    have f : (aFail T 2 s).1 ≠ 0 := aFail_1 (by decide)
    have := p2.1.2.1
    have := p2.1.2.2.1
    omega
  have f1 : 0 < ((F_X11_fail a 1 τ).1 a 13).toInt := by
    have p2 := xFail hd h 1 1 (by decide) (by decide)
    have f : (aFail T 1 s).1 ≠ 0 := aFail_1 (by decide)
    have := p2.1.2.1
    have := p2.1.2.2.1
    omega
  by_cases c0 : T.1 s.2.2.1 = 0
  · by_cases cm : s.2.2.2.2.2.1 = 0
    · by_cases hp : 0 < ((F_X11_tellOne a τ).1 a 13).toInt
      · exact bad _ rfl hp
      · intro _ _
        have e := D1 c0 cm
        rw [e] at hp ⊢
        exact mouth2 (τ := F_X11_goesOn a τ) (by rw [on.1]; exact hY) (by rw [(aPk.sv hY on).1]; exact hb) hb1 hp
    · exact bad _ (D2 c0 cm) f2
  · by_cases c1 : T.1 s.2.2.1 = 1
    · by_cases cm : s.2.2.2.2.2.2.1 = 11
      · exact bad _ (D4 c1 cm) f2
      · refine keep (by rw [D3 c1 cm]; exact aPk.pl hY hb hb1 on (by rw [on42, r42]; omega)) (fun hq => ?_)
        have e1 : aPlace1 T s = aTake T 1 s := by
          unfold aPlace1
          rw [if_neg (by omega)]
        have et : aTell T s = aTake T 24 (if (aPlace2 T (aTake T 1 s)).1 = 0 ∧ (aPlace2 T (aTake T 1 s)).2.2.2.2.2.2.1 < 11 then aSetP (aPlace2 T (aTake T 1 s)) (T.2.1 (aTake T 1 s).2.2.1) else aPlace2 T (aTake T 1 s)) := by
          unfold aTell aPlace
          rw [if_neg c0, if_pos c1, e1]
        rw [et] at hq ⊢
        have i := aTake_i hq
        have z2 : (aPlace2 T (aTake T 1 s)).1 = 0 := by
          have := i.1
          split at this
          · next c => exact c.1
          · exact this
        have w := aPlace2_i z2
        have mou : (aPlace2 T (aTake T 1 s)).2.2.2.2.2.1 = (aTake T 1 s).2.2.2.2.2.1 := congrArg (fun z => z.1) w.2.2
        have tk : (aTake T 1 s).2.2.2.2.2.1 = s.2.2.2.2.2.1 := aM_take (c := s.2.2.2.2.2.1) rfl
        have i4 := congrArg (fun z => z.2.2.1) i.2.2.2
        refine (i4.trans ?_).trans (mou.trans tk)
        split <;> rfl
    · have nm : (aTell T s).1 = 0 → (aTell T s).2.2.2.2.2.1 = s.2.2.2.2.2.1 := fun _ => aM_tell (c := s.2.2.2.2.2.1) rfl c0 c1
      have rg := hT.2.1 _ (h.1.2.2.2.2 hs).1
      by_cases c6 : T.1 s.2.2.1 ≤ 6
      · obtain ⟨p, -, e⟩ := D5 (by omega) c6
        exact keep (by rw [e]; exact aPk.law hY on p) nm
      · by_cases c7 : T.1 s.2.2.1 = 7
        · exact keep (by rw [D6 c7]; exact aPk.mu (aPk.b1 hY (aPk.b1 hY on (q _ (by omega)) (by decide) _ _) (q _ (by omega)) (by decide) _ _) _) nm
        · by_cases c8 : T.1 s.2.2.1 = 8
          · exact keep (by rw [D7 c8]; exact aPk.mu (aPk.b1 hY on (q _ (by omega)) (by decide) _ _) _) nm
          · by_cases c9 : T.1 s.2.2.1 = 9
            · exact keep (by rw [D8 c9]; exact aPk.mu (aPk.b1 hY on (q _ (by omega)) (by decide) _ _) _) nm
            · exact bad _ (D9 (by omega)) f1
end FRM2
section MREAD2
variable {κ : Int} {L2 : List Nat} {kd2 : Nat → Nat} {σ2 D0 : zS} {m0 k q v nm nO m x b : Nat} {T : zTn}
theorem mRead2 (hJ : zJ κ L2 kd2 σ2) (hm : zT L2 kd2 m0 11) (hd : zWd m0 k q v nm nO) (hT : zTm T m) (hK : zTK T m) (w0 : zXo m0 k q v nm nO m T (zRi m0 D0) aZ) (dF : zFi (fun c j => (c = m0 ∧ (j = 2 ∨ j = 4 ∨ j = 10)) ∨ c = x ∨ c = k ∨ c = q ∨ c = v) σ2 D0) (tk : zT L2 kd2 x 103 ∧ zT L2 kd2 k 105 ∧ zT L2 kd2 q 106 ∧ zT L2 kd2 v 107) (hb1 : b ≤ 1) (h18 : (σ2.1 m0 18).toInt = 1 - (b : Int)) : zX2 (mR σ2 m0) b (xEnd m0 T 500 aZ (zRi m0 D0)) (aRun T 500 aZ) := by
  have hY := zYz.of hJ hm
  have nk : ∀ c kc : Nat, zT L2 kd2 c kc → kc ≠ 103 → kc ≠ 105 → kc ≠ 106 → kc ≠ 107 → c ≠ x ∧ c ≠ k ∧ c ≠ q ∧ c ≠ v := fun c kc hc n1 n2 n3 n4 => ⟨zNk hc tk.1 n1, zNk hc tk.2.1 n2, zNk hc tk.2.2.1 n3, zNk hc tk.2.2.2 n4⟩
  have m1 := nk m0 11 hm (by decide) (by decide) (by decide) (by decide)
  have d18 : D0.1 m0 18 = σ2.1 m0 18 := dF.2 _ _ (by
    rintro (⟨-, z⟩ | z | z | z | z)
    · omega
    · exact m1.1 z
    · exact m1.2.1 z
    · exact m1.2.2.1 z
    · exact m1.2.2.2 z)
  have rD : D0.2.2 = σ2.2.2 := dF.1
  have hYD : zYz (mR σ2 m0) m0 D0.2.2 := by rw [rD]; exact hY
  obtain ⟨t5, g1, g2, g3, g4, g5, -⟩ := zRi_g (t := D0) hYD hb1 (by rw [d18]; exact h18)
  have r5 : t5.2.2 = σ2.2.2 := (congrArg Prod.snd g1).trans rD
  have hY5 : zYz (mR σ2 m0) m0 t5.2.2 := by rw [r5]; exact hY
  have X0 : zX2 (mR σ2 m0) b (zRi m0 D0) aZ := fun _ z => absurd rfl z
  exact (xEndI (γ := Unit) hd hT hK (fun τ s _ => zX2 (mR σ2 m0) b τ s ∧ zFi (aPm (mR σ2 m0) m0 b) t5 τ) (fun _ g => g) (fun τ s g h hs hi => ⟨xTell22 hd hT hK h hs (by rw [hi.2.1, r5]; exact hY) (by rw [(aPm.sv hY5 hi.2).1]; exact g2) hb1 hi.1, xTellF hd hT hK h hs hY5 g2 hb1 hi.2⟩) 500 (zRi m0 D0) aZ () w0 ⟨X0, g4⟩).2.1
end MREAD2
