/-! ONE TELLING OF THE CLASS: laws -/
section CGT
variable {P tk kA vA qA tt N m A6 A7 A9 : Nat} {T : zTn} {σ : zS} {s : zA} {g : zGl}
theorem cTellL (hd : zVd P tk kA vA qA N) (hT : zTK T m) (hP : tt ≠ P ∧ A6 ≠ P ∧ A7 ≠ P) (hN : zNn T m) (h67 : (σ.2.2 tt 6).getD 0 = A6 ∧ (σ.2.2 tt 7).getD 0 = A7) (h9 : (σ.2.2 tt 9).getD 0 = A9) (n9 : A9 ≠ P ∧ A9 ≠ tt ∧ A9 ≠ A6 ∧ A9 ≠ A7) (nA : A6 ≠ tt ∧ A7 ≠ tt) (nr : ∀ j, 2 ≤ j → j ≤ 5 → (σ.2.2 tt j).getD 0 ≠ tt ∧ (σ.2.2 tt j).getD 0 ≠ A6 ∧ (σ.2.2 tt j).getD 0 ≠ A7 ∧ (σ.2.2 tt j).getD 0 ≠ A9) (h : zV P tk kA vA qA tt N m T σ s) (hs : s.1 = 0) (hg : zCg tt A6 A7 A9 σ s g) : zCg tt A6 A7 A9 (F_X3_telling P σ) (aTell T s) (aGL T s g) := by
  obtain ⟨D0, D1, D2, D7, D8, D9, Dx⟩ := vDisp h hs
  have tP : (σ.2.2 P 1).getD 0 = tt := vtt h
  have rg : (F_X3_telling P σ).2.2 = σ.2.2 := rf_X3_telling (R := σ.2.2) rfl
  by_cases c2 : 2 ≤ T.1 s.2.2.1 ∧ T.1 s.2.2.1 ≤ 6
  · by_cases hz : (aTell T s).1 = 0
    · obtain ⟨p, hp, E⟩ := D2 c2.1 c2.2
      obtain ⟨w, hw⟩ : ∃ w : Nat, T.1 s.2.2.1 - 2 = w := ⟨(T.1 s.2.2.1 - 2).toNat, by omega⟩
      have Ea : aTell T s = aTake T 24 (aLaw T w s) := by
        unfold aTell
        rw [if_neg (by omega), if_neg (by omega), if_pos c2, hw]
      have eg : aGL T s g = fun k => if k = w then some (aLb T 10 0 (aTake T 25 (aTake T (2 + (w : Int)) s))) else g k := by
        unfold aGL
        rw [if_pos ⟨c2, hz⟩, hw]
        funext k
        by_cases e : k = w
        · rw [if_pos (by omega), if_pos e]
        · rw [if_neg (by omega), if_neg e]
      rw [eg, E, Ea]
      rw [Ea] at hz
      exact hg.law hd hT hP hN tP h67 h9 n9 h hs (by rw [hp, hw]) (by omega) hz
    · exact fun z => absurd z hz
  · have eg : aGL T s g = g := by
      unfold aGL
      rw [if_neg (fun z => c2 z.1)]
    rw [eg]
    obtain ⟨A, hA⟩ : ∃ A : Nat → Nat → Prop, A = fun c i => c = P ∨ (c = tt ∧ i ≠ 8) ∨ ∃ j, 2 ≤ j ∧ j ≤ 5 ∧ c = (σ.2.2 tt j).getD 0 := ⟨_, rfl⟩
    have aP : ∀ i, A P i := fun i => by rw [hA]; exact Or.inl rfl
    have aT : ∀ i, i ≠ 8 → A tt i := fun i hi => by rw [hA]; exact Or.inr (Or.inl ⟨rfl, hi⟩)
    have aR : ∀ j, 2 ≤ j → j ≤ 5 → ∀ i, A ((σ.2.2 tt j).getD 0) i := fun j j1 j2 i => by rw [hA]; exact Or.inr (Or.inr ⟨j, j1, j2, rfl⟩)
    have fin : zFi A σ (F_X3_telling P σ) → zCg tt A6 A7 A9 (F_X3_telling P σ) (aTell T s) g := fun f => by
      have row : ∀ c, c ≠ P → c ≠ tt → (∀ j, 2 ≤ j → j ≤ 5 → (σ.2.2 tt j).getD 0 ≠ c) → (F_X3_telling P σ).1 c = σ.1 c := fun c n1 n2 n3 => funext (fun i => f.2 c i (by
        rw [hA]
        rintro (z | z | ⟨j, j1, j2, z⟩)
        · exact n1 z
        · exact n2 z.1
        · exact n3 j j1 j2 z.symm))
      refine hg.st (fun z => ⟨hs, by have := aTell_i z; omega⟩) rg (f.2 tt 8 (by
        rw [hA]
        rintro (z | z | ⟨j, j1, j2, z⟩)
        · exact hP.1 z
        · exact z.2 rfl
        · exact (nr j j1 j2).1 z.symm)) (row A6 hP.2.1 nA.1 (fun j j1 j2 => (nr j j1 j2).2.1)) (row A7 hP.2.2 nA.2 (fun j j1 j2 => (nr j j1 j2).2.2.1)) (row A9 n9.1 n9.2.1 (fun j j1 j2 => (nr j j1 j2).2.2.2))
    have tk : ∀ w s0, zFi A σ s0 → zFi A σ (F_X3_take P w s0) := fun w s0 q => fi_X3_take q (aP _) (aP _) (aP _) (aP _) (aP _)
    have nu : ∀ lo hi s0, zFi A σ s0 → zFi A σ (F_X3_number P lo hi s0).2 := fun lo hi s0 q => fi_X3_number q (aP _) (aP _) (aP _) (aP _) (aP _) (aP _) (aP _)
    have fa : ∀ w s0, zFi A σ s0 → zFi A σ (F_X3_fail P w s0) := fun w s0 q => fi_X3_fail q (aP _) (aP _) (aP _)
    have b1 : ∀ j lo hi s0, j ≠ 8 → zFi A σ s0 → zFi A σ (cB1 P j lo hi s0) := fun j lo hi s0 hj q => by
      unfold cB1
      exact (nu lo hi s0 q).w (by rw [q.1, tP]; exact aT _ hj)
    have w : ∀ j, 2 ≤ j → j ≤ 5 → ∀ i, A ((σ.2.2 ((σ.2.2 P 1).getD 0) j).getD 0) i := fun j j1 j2 i => by rw [tP]; exact aR j j1 j2 i
    by_cases c0 : T.1 s.2.2.1 = 0
    · refine fin ?_
      rw [D0 c0]
      exact tk _ _ (fi_X3_mouth zFi.id (aP _) (aP _) (aP _) (aP _) (aP _) (aP _) (aP _) (aP _) (w 2 (by decide) (by decide)) (w 3 (by decide) (by decide)) (w 4 (by decide) (by decide)) (w 5 (by decide) (by decide)))
    · by_cases c1 : T.1 s.2.2.1 = 1
      · refine fin ?_
        rw [D1 c1]
        exact tk _ _ (fi_X3_newPlace zFi.id (aP _) (aP _) (aP _) (aP _) (aP _) (aP _) (aP _) (aP _) (w 2 (by decide) (by decide)) (w 3 (by decide) (by decide)) (w 4 (by decide) (by decide)) (w 5 (by decide) (by decide)))
      · by_cases c7 : T.1 s.2.2.1 = 7
        · refine fin ?_
          rw [D7 c7]
          exact tk _ _ (b1 _ _ _ _ (by decide) (b1 _ _ _ _ (by decide) (tk _ _ zFi.id)))
        · by_cases c8 : T.1 s.2.2.1 = 8
          · refine fin ?_
            rw [D8 c8]
            exact tk _ _ (b1 _ _ _ _ (by decide) (tk _ _ zFi.id))
          · by_cases c9 : T.1 s.2.2.1 = 9
            · refine fin ?_
              rw [D9 c9]
              exact tk _ _ (b1 _ _ _ _ (by decide) (tk _ _ zFi.id))
            · intro z
              unfold aTell at z
              rw [if_neg c0, if_neg c1, if_neg c2, if_neg c7, if_neg c8, if_neg c9] at z
              exact absurd (aTake_z z) (aFail_1 (by decide))
end CGT
