/-! ONE TELLING OF THE REFERENCE: laws, all cases -/
section YT20
variable {a k q v nm nO m b : Nat} {Y : Nat → Nat} {T : zTn} {R : Nat → Nat → Option Nat} {τ τ' : zS} {s s' : zA} {g : zGl}
/-- what a telling writes that is no law -/
def aNq (Y : Nat → Nat) (a : Nat) : Nat → Nat → Prop := fun c i => (c = a ∧ i ≠ 19 ∧ i ≠ 32 ∧ i ≠ 38) ∨ ∃ j, zQs j ∧ j ≤ 29 ∧ c = Y j
theorem aNq.o {i : Nat} (h : i ≠ 19 ∧ i ≠ 32 ∧ i ≠ 38) : aNq Y a a i := Or.inl ⟨rfl, h⟩
theorem aNq.r (hY : zYz Y a R) {j : Nat} (h : zQs j) (h2 : j ≤ 29) (i : Nat) : aNq Y a ((R a j).getD 0) i := Or.inr ⟨j, h, h2, (hY.1 j h).1⟩
theorem aNq.f (hY : zYz Y a R) (h : zFi (aNq Y a) τ τ') : (∀ i, (i = 19 ∨ i = 32 ∨ i = 38) → τ'.1 a i = τ.1 a i) ∧ ∀ j, (j = 30 ∨ j = 31 ∨ (33 ≤ j ∧ j ≤ 37) ∨ j = 39 ∨ j = 40) → τ'.1 (Y j) = τ.1 (Y j) := by
  refine ⟨fun i hi => h.2 a i (by
    rintro (z | ⟨j, z1, z2, z3⟩)
    · omega
    · exact (hY.1 j z1).2 z3.symm), fun j hj => funext (fun i => h.2 (Y j) i (by
    have qj : zQs j := by unfold zQs; omega
    rintro (z | ⟨l, z1, z2, z3⟩)
    · exact (hY.1 j qj).2 z.1
    · exact hY.2 j l qj z1 (by omega) z3))⟩
theorem aNq.on (h : zFi (aNq Y a) τ τ') : zFi (aNq Y a) τ (F_X11_goesOn a τ') := fi_X11_goesOn h (aNq.o (by decide)) (aNq.o (by decide)) (aNq.o (by decide))
theorem aNq.mu (h : zFi (aNq Y a) τ τ') (p : Int32) : zFi (aNq Y a) τ (F_X11_must a p τ') := fi_X11_must h (aNq.o (by decide)) (aNq.o (by decide)) (aNq.o (by decide))
theorem aNq.b1 (hY : zYz Y a R) (hR : τ.2.2 = R) (h : zFi (aNq Y a) τ τ') {j : Nat} (hj : zQs j) (h29 : j ≤ 29) (lo hi : Int32) : zFi (aNq Y a) τ (mB1 a j lo hi τ') := by
  have e : (τ'.2.2 a j).getD 0 = Y j := by rw [h.1, hR]; exact (hY.1 j hj).1
  have f : zFj (aNq Y a) τ (F_X11_bounded a lo hi τ') := fi_X11_bounded h (aNq.o (by decide)) (aNq.o (by decide)) (aNq.o (by decide)) (aNq.o (by decide)) (aNq.o (by decide))
  unfold mB1
  rw [e]
  exact zFi.w (s := (F_X11_bounded a lo hi τ').2) f (Or.inr ⟨j, hj, h29, rfl⟩)
theorem aGL_n (hn : ¬ (2 ≤ T.1 s.2.2.1 ∧ T.1 s.2.2.1 ≤ 6)) : aGL T s g = g := by
  unfold aGL
  rw [if_neg (fun z => hn z.1)]
theorem xTellL (hd : zWd a k q v nm nO) (hT : zTm T m) (hK : zTK T m) (hY : zYz Y a R) (hb : b ≤ 1) (h : zXl a Y R b τ s g) (hx : zXo a k q v nm nO m T τ s) (hs : s.1 = 0) : zXl a Y R b (F_X11_tellOne a τ) (aTell T s) (aGL T s g) := by
  obtain ⟨D1, D2, D3, D4, D5, D6, D7, D8, D9⟩ := xDisp hd hT hK hx hs
  have rg := hT.2.1 _ (hx.1.2.2.2.2 hs).1
  have hR : τ.2.2 = R := by
    obtain ⟨-, nb, nc, hl, -⟩ := h hs
    exact hl.1
  have o : ∀ i, i ≠ 19 ∧ i ≠ 32 ∧ i ≠ 38 → aNq Y a a i := fun i hi => aNq.o hi
  have r : ∀ j, 21 ≤ j → j ≤ 25 → ∀ i, aNq Y a ((τ.2.2 a j).getD 0) i := fun j j1 j2 i => by
    rw [hR]
    exact aNq.r hY (by unfold zQs; omega) (by omega) i
  have fin : ∀ t', ¬ (2 ≤ T.1 s.2.2.1 ∧ T.1 s.2.2.1 ≤ 6) → F_X11_tellOne a τ = t' → zFi (aNq Y a) τ t' → zXl a Y R b (F_X11_tellOne a τ) (aTell T s) (aGL T s g) := fun t' hn e f => by
    rw [e, aGL_n hn]
    obtain ⟨f1, f2⟩ := aNq.f hY f
    exact h.st (fun z => ⟨hs, by have := aTell_i z; omega⟩) (fun _ => ⟨f.1, f1, f2⟩)
  have on : zFi (aNq Y a) τ (F_X11_goesOn a τ) := aNq.on zFi.id
  have fa : ∀ p : Int32, zFi (aNq Y a) τ (F_X11_fail a p τ) := fun p => fi_X11_fail zFi.id (o 13 (by decide)) (o 14 (by decide))
  have q26 : zQs 26 := by unfold zQs; omega
  have q27 : zQs 27 := by unfold zQs; omega
  have q28 : zQs 28 := by unfold zQs; omega
  have q29 : zQs 29 := by unfold zQs; omega
  by_cases c0 : T.1 s.2.2.1 = 0
  · have hn : ¬ (2 ≤ T.1 s.2.2.1 ∧ T.1 s.2.2.1 ≤ 6) := by omega
    by_cases cm : s.2.2.2.2.2.1 = 0
    · exact fin _ hn (D1 c0 cm) (fi_X11_tellMouth on (o 13 (by decide)) (o 14 (by decide)) (o 11 (by decide)) (o 15 (by decide)) (o 16 (by decide)) (o 41 (by decide)) (r 22 (by decide) (by decide)) (r 23 (by decide) (by decide)) (r 24 (by decide) (by decide)) (r 25 (by decide) (by decide)) (r 21 (by decide) (by decide)))
    · exact fin _ hn (D2 c0 cm) (fa 2)
  · by_cases c1 : T.1 s.2.2.1 = 1
    · have hn : ¬ (2 ≤ T.1 s.2.2.1 ∧ T.1 s.2.2.1 ≤ 6) := by omega
      by_cases cm : s.2.2.2.2.2.2.1 = 11
      · exact fin _ hn (D4 c1 cm) (fa 2)
      · exact fin _ hn (D3 c1 cm) (fi_X11_tellPlace on (o 13 (by decide)) (o 14 (by decide)) (o 11 (by decide)) (o 15 (by decide)) (o 16 (by decide)) (r 22 (by decide) (by decide)) (r 23 (by decide) (by decide)) (r 24 (by decide) (by decide)) (r 25 (by decide) (by decide)) (o 42 (by decide)) (r 21 (by decide) (by decide)))
    · by_cases c6 : T.1 s.2.2.1 ≤ 6
      · have c2 : 2 ≤ T.1 s.2.2.1 := by omega
        by_cases hz : (aTell T s).1 = 0
        · obtain ⟨p, hp, E⟩ := D5 c2 c6
          obtain ⟨w, hw⟩ : ∃ w : Nat, T.1 s.2.2.1 - 2 = w := ⟨(T.1 s.2.2.1 - 2).toNat, by omega⟩
          have n0 : ¬ T.1 s.2.2.1 = 0 := by omega
          have n1 : ¬ T.1 s.2.2.1 = 1 := by omega
          have Ea : aTell T s = aTake T 24 (aLaw T w s) := by
            unfold aTell
            rw [if_neg n0, if_neg n1, if_pos ⟨c2, c6⟩, hw]
          have eg : aGL T s g = fun k => if k = w then some (aLb T 10 0 (aTake T 25 (aTake T (2 + (w : Int)) s))) else g k := by
            unfold aGL
            rw [if_pos ⟨⟨c2, c6⟩, hz⟩, hw]
            funext k
            by_cases e : k = w
            · rw [if_pos (by omega), if_pos e]
            · rw [if_neg (by omega), if_neg e]
          rw [eg, E, Ea]
          rw [Ea] at hz
          exact h.law hd hT hK hY hb hx hs (by rw [hp, hw]) (by omega) (by omega) hz
        · exact fun z => absurd z hz
      · have hn : ¬ (2 ≤ T.1 s.2.2.1 ∧ T.1 s.2.2.1 ≤ 6) := fun z => c6 z.2
        by_cases c7 : T.1 s.2.2.1 = 7
        · exact fin _ hn (D6 c7) (aNq.mu (aNq.b1 hY hR (aNq.b1 hY hR on q26 (by decide) _ _) q27 (by decide) _ _) _)
        · by_cases c8 : T.1 s.2.2.1 = 8
          · exact fin _ hn (D7 c8) (aNq.mu (aNq.b1 hY hR on q28 (by decide) _ _) _)
          · by_cases c9 : T.1 s.2.2.1 = 9
            · exact fin _ hn (D8 c9) (aNq.mu (aNq.b1 hY hR on q29 (by decide) _ _) _)
            · exact fin _ hn (D9 (by omega)) (fa 1)
end YT20
