/-! STORMS, THE PRIZE, THE SEED: told alike -/
abbrev zNf : Type := Nat → Int
def aGS (T : zTn) (s : zA) (g : zNf) : zNf := if (aTell T s).1 = 0 ∧ T.1 s.2.2.1 = 7 then (fun j => if j = 0 then T.2.2.1 (aTake T 7 s).2.2.1 else if j = 1 then T.2.2.1 (aNumb T 0 100 (aTake T 7 s)).2.2.1 else g j) else if (aTell T s).1 = 0 ∧ T.1 s.2.2.1 = 8 then (fun j => if j = 2 then T.2.2.1 (aTake T 8 s).2.2.1 else g j) else if (aTell T s).1 = 0 ∧ T.1 s.2.2.1 = 9 then (fun j => if j = 3 then T.2.2.1 (aTake T 9 s).2.2.1 else g j) else g
def zCn (tt : Nat) (τ : zS) (s : zA) (g : zNf) : Prop := s.1 = 0 → ∀ j, j < 4 → (τ.1 tt (10 + j)).toInt = g j
def zXn (Y : Nat → Nat) (b : Nat) (τ : zS) (s : zA) (g : zNf) : Prop := s.1 = 0 → ∀ j, j < 4 → (τ.1 (Y (26 + j)) b).toInt = g j
def zGn (s : zA) (g : zNf) : Prop := s.1 = 0 → s.2.2.2.1 = 0 → (0 ≤ g 0 ∧ g 0 ≤ 100) ∧ (0 ≤ g 1 ∧ g 1 ≤ 99) ∧ (0 ≤ g 2 ∧ g 2 ≤ 99) ∧ 0 ≤ g 3 ∧ g 3 ≤ 9999
section GSA
variable {T : zTn} {s : zA} {g : zNf}
theorem aTell_7 (c : T.1 s.2.2.1 = 7) : aTell T s = aTake T 24 (aNumb T 0 99 (aNumb T 0 100 (aTake T 7 s))) := by
  have n0 : ¬ T.1 s.2.2.1 = 0 := by omega
  have n1 : ¬ T.1 s.2.2.1 = 1 := by omega
  have n2 : ¬ (2 ≤ T.1 s.2.2.1 ∧ T.1 s.2.2.1 ≤ 6) := by omega
  unfold aTell
  rw [if_neg n0, if_neg n1, if_neg n2, if_pos c]
theorem aTell_8 (c : T.1 s.2.2.1 = 8) : aTell T s = aTake T 24 (aNumb T 0 99 (aTake T 8 s)) := by
  have n0 : ¬ T.1 s.2.2.1 = 0 := by omega
  have n1 : ¬ T.1 s.2.2.1 = 1 := by omega
  have n2 : ¬ (2 ≤ T.1 s.2.2.1 ∧ T.1 s.2.2.1 ≤ 6) := by omega
  have n7 : ¬ T.1 s.2.2.1 = 7 := by omega
  unfold aTell
  rw [if_neg n0, if_neg n1, if_neg n2, if_neg n7, if_pos c]
theorem aTell_9 (c : T.1 s.2.2.1 = 9) : aTell T s = aTake T 24 (aNumb T 0 9999 (aTake T 9 s)) := by
  have n0 : ¬ T.1 s.2.2.1 = 0 := by omega
  have n1 : ¬ T.1 s.2.2.1 = 1 := by omega
  have n2 : ¬ (2 ≤ T.1 s.2.2.1 ∧ T.1 s.2.2.1 ≤ 6) := by omega
  have n7 : ¬ T.1 s.2.2.1 = 7 := by omega
  have n8 : ¬ T.1 s.2.2.1 = 8 := by omega
  unfold aTell
  rw [if_neg n0, if_neg n1, if_neg n2, if_neg n7, if_neg n8, if_pos c]
theorem aGS_7 (z : (aTell T s).1 = 0) (c : T.1 s.2.2.1 = 7) : aGS T s g = fun j => if j = 0 then T.2.2.1 (aTake T 7 s).2.2.1 else if j = 1 then T.2.2.1 (aNumb T 0 100 (aTake T 7 s)).2.2.1 else g j := by
  unfold aGS
  rw [if_pos ⟨z, c⟩]
theorem aGS_8 (z : (aTell T s).1 = 0) (c : T.1 s.2.2.1 = 8) : aGS T s g = fun j => if j = 2 then T.2.2.1 (aTake T 8 s).2.2.1 else g j := by
  have n : ¬ ((aTell T s).1 = 0 ∧ T.1 s.2.2.1 = 7) := fun q => by have := q.2; omega
  unfold aGS
  rw [if_neg n, if_pos ⟨z, c⟩]
theorem aGS_9 (z : (aTell T s).1 = 0) (c : T.1 s.2.2.1 = 9) : aGS T s g = fun j => if j = 3 then T.2.2.1 (aTake T 9 s).2.2.1 else g j := by
  have n : ¬ ((aTell T s).1 = 0 ∧ T.1 s.2.2.1 = 7) := fun q => by have := q.2; omega
  have n2 : ¬ ((aTell T s).1 = 0 ∧ T.1 s.2.2.1 = 8) := fun q => by have := q.2; omega
  unfold aGS
  rw [if_neg n, if_neg n2, if_pos ⟨z, c⟩]
theorem aGS_n (c7 : ¬ T.1 s.2.2.1 = 7) (c8 : ¬ T.1 s.2.2.1 = 8) (c9 : ¬ T.1 s.2.2.1 = 9) : aGS T s g = g := by
  unfold aGS
  rw [if_neg (fun q => c7 q.2), if_neg (fun q => c8 q.2), if_neg (fun q => c9 q.2)]
/-- no late fault after a telling: none before -/
theorem aTell_l0 (hs : s.1 = 0) (q : (aTell T s).1 = 0) (l : (aTell T s).2.2.2.1 = 0) : s.2.2.2.1 = 0 := by
  by_cases ht : T.1 s.2.2.1 = 1
  · have Ea : aTell T s = aTake T 24 (aPlace T s) := by
      unfold aTell
      rw [if_neg (by omega), if_pos ht]
    rw [Ea] at q l
    have qp : (aPlace T s).1 = 0 := (aTake_i q).1
    have lp : (aPlace T s).2.2.2.1 = 0 := by rw [aTake_l] at l; exact l
    have q2 : (aPlace2 T (aPlace1 T s)).1 = 0 := by
      have qp' := qp
      unfold aPlace at qp'
      split at qp'
      · next c => exact c.1
      · exact qp'
    obtain ⟨s1z, -, i2⟩ := aPlace2_i q2
    have l2 : (aPlace2 T (aPlace1 T s)).2.2.2.1 = 0 := by
      unfold aPlace at lp
      split at lp
      · exact lp
      · exact lp
    have es1 : (aPlace1 T s).2.2.2.1 = s.2.2.2.1 := by
      by_cases c11 : s.2.2.2.2.2.2.1 < 11
      · have e : aPlace1 T s = aTake T 1 s := by
          unfold aPlace1
          rw [if_neg (by omega)]
        rw [e, aTake_l]
      · exfalso
        have s1z' := s1z
        unfold aPlace1 at s1z'
        rw [if_pos (by omega)] at s1z'
        have := (aTake_i s1z').1
        unfold aFail at this
        rw [if_neg (zne hs)] at this
        exact absurd this (by decide : ¬ (2 : Int) = 0)
    obtain ⟨z4, -, -⟩ := aNumb_i (lo := 0) (hi := 99) q2
    obtain ⟨z3, -, -⟩ := aNumb_i z4
    obtain ⟨z2, -, -⟩ := aNumb_i z3
    obtain ⟨z1, k22, -⟩ := aKnown_i z2
    have l4 := aNumb_l (lo := 0) (hi := 99) z4 l2
    have l3 := aNumb_l z3 l4
    have l1 := aNumb_l z2 l3
    obtain ⟨l0, -⟩ := aKnown_l z1 l1 k22
    have lN := aNew_l s1z l0
    rw [es1] at lN
    exact lN
  · exact (aK_tell (T := T) (l := s.2.2.2.1) (c := s.2.2.2.2.2.2.1) ⟨id, rfl⟩ ht).1 l
theorem gN_tell (hs : s.1 = 0) (h : zGn s g) : zGn (aTell T s) (aGS T s g) := by
  intro z l
  have H := h hs (aTell_l0 hs z l)
  by_cases c7 : T.1 s.2.2.1 = 7
  · rw [aGS_7 z c7]
    rw [aTell_7 c7] at z l
    have z1 := aTake_z z
    have l1 : (aNumb T 0 99 (aNumb T 0 100 (aTake T 7 s))).2.2.2.1 = 0 := by rw [aTake_l] at l; exact l
    have z2 := aNumb_z z1
    have l2 := aNumb_l z2 l1
    have z3 := aNumb_z z2
    have b1 := aNumb_in z2 z1 l1
    have b2 := aNumb_in z3 z2 l2
    exact ⟨b2, b1, H.2.2⟩
  · by_cases c8 : T.1 s.2.2.1 = 8
    · rw [aGS_8 z c8]
      rw [aTell_8 c8] at z l
      have z1 := aTake_z z
      have l1 : (aNumb T 0 99 (aTake T 8 s)).2.2.2.1 = 0 := by rw [aTake_l] at l; exact l
      exact ⟨H.1, H.2.1, aNumb_in (aNumb_z z1) z1 l1, H.2.2.2⟩
    · by_cases c9 : T.1 s.2.2.1 = 9
      · rw [aGS_9 z c9]
        rw [aTell_9 c9] at z l
        have z1 := aTake_z z
        have l1 : (aNumb T 0 9999 (aTake T 9 s)).2.2.2.1 = 0 := by rw [aTake_l] at l; exact l
        exact ⟨H.1, H.2.1, H.2.2.1, aNumb_in (aNumb_z z1) z1 l1⟩
      · rw [aGS_n c7 c8 c9]
        exact H
theorem gN_run : ∀ (l : Nat) (s : zA) (g : zNf), zGn s g → zGn (aRun T l s) (gRun T (aGS T) l s g) := by
  intro l
  induction l with
  | zero => intro s g h; exact h
  | succ l ih =>
    intro s g h
    rw [aRun, gRun]
    by_cases c : s.1 = 0
    · rw [if_neg (zne c), if_neg (zne c)]
      by_cases c1 : T.1 s.2.2.1 = 33
      · rw [if_pos c1, if_pos c1]; exact h
      · rw [if_neg c1, if_neg c1]
        exact ih _ _ (gN_tell c h)
    · rw [if_pos c, if_pos c]; exact h
end GSA
section GSC
variable {P tk kA vA qA tt N m : Nat} {T : zTn} {σ : zS} {s : zA} {g : zNf}
theorem cB1v (hd : zVd P tk kA vA qA N) (hT : zTK T m) (hP : tt ≠ P) (h : zV P tk kA vA qA tt N m T σ s) (hs : s.1 = 0) (j : Nat) (lo hi : Int32) (l u : Int) (e1 : lo.toInt = l) (e2 : hi.toInt = u) : zV P tk kA vA qA tt N m T (cB1 P j lo hi σ) (aNumb T l u s) ∧ ((cB1 P j lo hi σ).1 tt j).toInt = T.2.2.1 s.2.2.1 ∧ ∀ i, i ≠ j → (cB1 P j lo hi σ).1 tt i = σ.1 tt i := by
  obtain ⟨x, σ1, p1, p2⟩ := vNumb' hd hT h lo hi l u e1 e2
  have v := vNumbV h hs lo hi
  have f : zFi (fun c _ => c = P) σ (F_X3_number P lo hi σ).2 := fi_X3_number zFi.id rfl rfl rfl rfl rfl rfl rfl
  rw [p1] at v f
  have E : cB1 P j lo hi σ = (zu σ1.1 tt j x, σ1.2.1, σ1.2.2) := by
    unfold cB1
    rw [p1, vtt h]
  rw [E]
  exact ⟨vPutT p2 j x, by show (zu σ1.1 tt j x tt j).toInt = _; rw [zu_s]; exact v, fun i hi' => by show zu σ1.1 tt j x tt i = _; rw [zu_j _ _ _ _ _ (fun z => hi' z.symm)]; exact f.2 tt i hP⟩
theorem cTk_t {w : Int32} (hP : tt ≠ P) (i : Nat) : (F_X3_take P w σ).1 tt i = σ.1 tt i := by
  have f : zFi (fun c _ => c = P) σ (F_X3_take P w σ) := fi_X3_take zFi.id rfl rfl rfl rfl rfl
  exact f.2 tt i hP
theorem cTellN (hd : zVd P tk kA vA qA N) (hT : zTK T m) (hP : tt ≠ P) (nr : ∀ j, 2 ≤ j → j ≤ 9 → j ≠ 8 → (σ.2.2 tt j).getD 0 ≠ tt) (h : zV P tk kA vA qA tt N m T σ s) (hs : s.1 = 0) (hg : zCn tt σ s g) : zCn tt (F_X3_telling P σ) (aTell T s) (aGS T s g) := by
  obtain ⟨D0, D1, D2, D7, D8, D9, Dx⟩ := vDisp h hs
  have tP : (σ.2.2 P 1).getD 0 = tt := vtt h
  have r3 := (h.2.2.2 hs).2.2.1
  intro z j hj
  by_cases c7 : T.1 s.2.2.1 = 7
  · rw [aGS_7 z c7, D7 c7, cTk_t hP]
    rw [aTell_7 c7] at z
    have z1 := aTake_z z
    have z2 := aNumb_z z1
    have z3 := aNumb_z z2
    have a1 := vTake' hd hT h (σ.1 P 3) 7 (r3.trans c7) (by decide)
    obtain ⟨b1, b2, b3⟩ := cB1v hd hT hP a1 z3 10 0 100 0 100 (by decide) (by decide)
    obtain ⟨d1, d2, d3⟩ := cB1v hd hT hP b1 z2 11 0 99 0 99 (by decide) (by decide)
    by_cases j1 : j = 1
    · subst j1
      exact d2
    · rw [d3 (10 + j) (by omega)]
      by_cases j0 : j = 0
      · subst j0
        exact b2
      · rw [b3 (10 + j) (by omega), cTk_t hP]
        show _ = if j = 0 then _ else if j = 1 then _ else g j
        rw [if_neg j0, if_neg j1]
        exact hg hs j hj
  · by_cases c8 : T.1 s.2.2.1 = 8
    · rw [aGS_8 z c8, D8 c8, cTk_t hP]
      rw [aTell_8 c8] at z
      have z1 := aTake_z z
      have z2 := aNumb_z z1
      have a1 := vTake' hd hT h (σ.1 P 3) 8 (r3.trans c8) (by decide)
      obtain ⟨b1, b2, b3⟩ := cB1v hd hT hP a1 z2 12 0 99 0 99 (by decide) (by decide)
      by_cases j2 : j = 2
      · subst j2
        exact b2
      · rw [b3 (10 + j) (by omega), cTk_t hP]
        show _ = if j = 2 then _ else g j
        rw [if_neg j2]
        exact hg hs j hj
    · by_cases c9 : T.1 s.2.2.1 = 9
      · rw [aGS_9 z c9, D9 c9, cTk_t hP]
        rw [aTell_9 c9] at z
        have z1 := aTake_z z
        have z2 := aNumb_z z1
        have a1 := vTake' hd hT h (σ.1 P 3) 9 (r3.trans c9) (by decide)
        obtain ⟨b1, b2, b3⟩ := cB1v hd hT hP a1 z2 13 0 9999 0 9999 (by decide) (by decide)
        by_cases j3 : j = 3
        · subst j3
          exact b2
        · rw [b3 (10 + j) (by omega), cTk_t hP]
          show _ = if j = 3 then _ else g j
          rw [if_neg j3]
          exact hg hs j hj
      · rw [aGS_n c7 c8 c9]
        obtain ⟨A, hA⟩ : ∃ A : Nat → Nat → Prop, A = fun c i => ¬ (c = tt ∧ 10 ≤ i ∧ i ≤ 13) := ⟨_, rfl⟩
        have aP : ∀ i, A P i := fun i => by rw [hA]; exact fun q => hP q.1.symm
        have a8 : A ((σ.2.2 P 1).getD 0) 8 := by rw [hA]; exact fun q => by have := q.2; omega
        have aR : ∀ j, 2 ≤ j → j ≤ 9 → j ≠ 8 → ∀ i, A ((σ.2.2 ((σ.2.2 P 1).getD 0) j).getD 0) i := fun j j1 j2 j3 i => by rw [hA, tP]; exact fun q => nr j j1 j2 j3 q.1
        have fin : ∀ t', F_X3_telling P σ = t' → zFi A σ t' → ((F_X3_telling P σ).1 tt (10 + j)).toInt = g j := fun t' e f => by
          rw [e, f.2 tt (10 + j) (by rw [hA]; exact fun q => q ⟨rfl, by omega, by omega⟩)]
          exact hg hs j hj
        have tk : ∀ w s0, zFi A σ s0 → zFi A σ (F_X3_take P w s0) := fun w s0 q => fi_X3_take q (aP _) (aP _) (aP _) (aP _) (aP _)
        by_cases c0 : T.1 s.2.2.1 = 0
        · exact fin _ (D0 c0) (tk _ _ (fi_X3_mouth zFi.id (aP _) (aP _) (aP _) (aP _) (aP _) (aP _) (aP _) (aP _) (aR 2 (by decide) (by decide) (by decide)) (aR 3 (by decide) (by decide) (by decide)) (aR 4 (by decide) (by decide) (by decide)) (aR 5 (by decide) (by decide) (by decide))))
        · by_cases c1 : T.1 s.2.2.1 = 1
          · exact fin _ (D1 c1) (tk _ _ (fi_X3_newPlace zFi.id (aP _) (aP _) (aP _) (aP _) (aP _) (aP _) (aP _) (aP _) (aR 2 (by decide) (by decide) (by decide)) (aR 3 (by decide) (by decide) (by decide)) (aR 4 (by decide) (by decide) (by decide)) (aR 5 (by decide) (by decide) (by decide))))
          · by_cases c2 : 2 ≤ T.1 s.2.2.1 ∧ T.1 s.2.2.1 ≤ 6
            · obtain ⟨p, -, E⟩ := D2 c2.1 c2.2
              exact fin _ E (tk _ _ (fi_X3_law zFi.id (aP _) (aP _) (aP _) (aP _) (aP _) (aR 6 (by decide) (by decide) (by decide)) (aR 7 (by decide) (by decide) (by decide)) a8 (aR 9 (by decide) (by decide) (by decide))))
            · exfalso
              unfold aTell at z
              rw [if_neg c0, if_neg c1, if_neg c2, if_neg c7, if_neg c8, if_neg c9] at z
              exact absurd (aTake_z z) (aFail_1 (by decide))
end GSC
section GSX
variable {a k q v nm nO m b : Nat} {Y : Nat → Nat} {T : zTn} {R : Nat → Nat → Option Nat} {τ τ' : zS} {s s' : zA} {g : zNf}
theorem mB1v (hd : zWd a k q v nm nO) (hT : zTm T m) (hK : zTK T m) (hY : zYz Y a R) (hR : τ.2.2 = R) (h : zXo a k q v nm nO m T τ s) {j : Nat} (hj : zQs j) (h19 : (τ.1 a 19).toInt = b) (lo hi : Int32) (l u : Int) (e1 : lo.toInt = l) (e2 : hi.toInt = u) : zXo a k q v nm nO m T (mB1 a j lo hi τ) (aNumb T l u s) ∧ (mB1 a j lo hi τ).2.2 = R ∧ (mB1 a j lo hi τ).1 a 19 = τ.1 a 19 ∧ ((aNumb T l u s).1 = 0 → ((mB1 a j lo hi τ).1 (Y j) b).toInt = T.2.2.1 s.2.2.1) ∧ ∀ i, zQs i → i ≠ j → (mB1 a j lo hi τ).1 (Y i) = τ.1 (Y i) := by
  obtain ⟨x, τ1, p1, p2⟩ := xBound hd hT hK h lo hi l u e1 e2
  have f : zFi (fun c i => c = a ∧ i ≠ 19) τ (F_X11_bounded a lo hi τ).2 := fi_X11_bounded zFi.id ⟨rfl, by decide⟩ ⟨rfl, by decide⟩ ⟨rfl, by decide⟩ ⟨rfl, by decide⟩ ⟨rfl, by decide⟩
  have v : (aNumb T l u s).1 = 0 → (F_X11_bounded a lo hi τ).1.toInt = T.2.2.1 s.2.2.1 := fun z => xBoundV hT h lo hi z
  have n19 : (τ.1 a 19).toNatClampNeg = b := by rw [ztn, h19]; rfl
  have gY : (τ.2.2 a j).getD 0 = Y j := by rw [hR]; exact (hY.1 j hj).1
  have xA := xArrB h p2 j (τ.1 a 19).toNatClampNeg x hj
  rw [p1] at f v
  have E : mB1 a j lo hi τ = (zu τ1.1 (Y j) b x, τ1.2.1, τ1.2.2) := by
    unfold mB1
    rw [p1, gY, n19]
  rw [gY, n19] at xA
  rw [E]
  have nj := (hY.1 j hj).2
  refine ⟨xA, f.1.trans hR, ?_, fun z => ?_, fun i hi' n => funext (fun c => ?_)⟩
  · show zu τ1.1 (Y j) b x a 19 = _
    rw [zu_n _ _ _ (fun z => nj z.symm)]
    exact f.2 a 19 (fun z => z.2 rfl)
  · show (zu τ1.1 (Y j) b x (Y j) b).toInt = _
    rw [zu_s]
    exact v z
  · show zu τ1.1 (Y j) b x (Y i) c = _
    rw [zu_n _ _ _ (hY.2 i j hi' hj n)]
    exact f.2 (Y i) c (fun z => (hY.1 i hi').2 z.1)
theorem mMu_r (hY : zYz Y a R) {j : Nat} (hj : zQs j) (w : Int32) : (F_X11_must a w τ).1 (Y j) = τ.1 (Y j) := by
  have f : zFi (fun c _ => c = a) τ (F_X11_must a w τ) := fi_X11_must zFi.id rfl rfl rfl
  exact funext (fun i => f.2 (Y j) i (hY.1 j hj).2)
theorem mGo_r (hY : zYz Y a R) {j : Nat} (hj : zQs j) : (F_X11_goesOn a τ).1 (Y j) = τ.1 (Y j) := by
  have f : zFi (fun c _ => c = a) τ (F_X11_goesOn a τ) := fi_X11_goesOn zFi.id rfl rfl rfl
  exact funext (fun i => f.2 (Y j) i (hY.1 j hj).2)
theorem xTellN (hd : zWd a k q v nm nO) (hT : zTm T m) (hK : zTK T m) (hY : zYz Y a R) (hR : τ.2.2 = R) (h19 : (τ.1 a 19).toInt = b) (hx : zXo a k q v nm nO m T τ s) (hs : s.1 = 0) (hg : zXn Y b τ s g) : zXn Y b (F_X11_tellOne a τ) (aTell T s) (aGS T s g) := by
  obtain ⟨D1, D2, D3, D4, D5, D6, D7, D8, D9⟩ := xDisp hd hT hK hx hs
  have rg := hT.2.1 _ (hx.1.2.2.2.2 hs).1
  have Q : ∀ j, j < 4 → zQs (26 + j) := fun j hj => by unfold zQs; omega
  have go : zFi (fun c i => c = a ∧ i ≠ 19) τ (F_X11_goesOn a τ) := fi_X11_goesOn zFi.id ⟨rfl, by decide⟩ ⟨rfl, by decide⟩ ⟨rfl, by decide⟩
  have gR : (F_X11_goesOn a τ).2.2 = R := go.1.trans hR
  have g19 : ((F_X11_goesOn a τ).1 a 19).toInt = b := by rw [go.2 a 19 (fun z => z.2 rfl)]; exact h19
  intro z j hj
  by_cases c7 : T.1 s.2.2.1 = 7
  · rw [aGS_7 z c7, D6 c7, mMu_r hY (Q j hj)]
    rw [aTell_7 c7] at z
    have z1 := aTake_z z
    have z2 := aNumb_z z1
    obtain ⟨b1, b2, b3, b4, b5⟩ := mB1v hd hT hK hY gR (xOn hd hT hK hx 7 (fun _ => c7) (by decide)) (Q 0 (by decide)) g19 0 100 0 100 (by decide) (by decide)
    obtain ⟨d1, d2, d3, d4, d5⟩ := mB1v hd hT hK hY b2 b1 (Q 1 (by decide)) (by rw [b3]; exact g19) 0 99 0 99 (by decide) (by decide)
    by_cases j1 : j = 1
    · subst j1
      exact d4 z1
    · rw [d5 (26 + j) (Q j hj) (by omega)]
      by_cases j0 : j = 0
      · subst j0
        exact b4 z2
      · rw [b5 (26 + j) (Q j hj) (by omega), mGo_r hY (Q j hj)]
        show _ = if j = 0 then _ else if j = 1 then _ else g j
        rw [if_neg j0, if_neg j1]
        exact hg hs j hj
  · by_cases c8 : T.1 s.2.2.1 = 8
    · rw [aGS_8 z c8, D7 c8, mMu_r hY (Q j hj)]
      rw [aTell_8 c8] at z
      have z1 := aTake_z z
      obtain ⟨b1, b2, b3, b4, b5⟩ := mB1v hd hT hK hY gR (xOn hd hT hK hx 8 (fun _ => c8) (by decide)) (Q 2 (by decide)) g19 0 99 0 99 (by decide) (by decide)
      by_cases j2 : j = 2
      · subst j2
        exact b4 z1
      · rw [b5 (26 + j) (Q j hj) (by omega), mGo_r hY (Q j hj)]
        show _ = if j = 2 then _ else g j
        rw [if_neg j2]
        exact hg hs j hj
    · by_cases c9 : T.1 s.2.2.1 = 9
      · rw [aGS_9 z c9, D8 c9, mMu_r hY (Q j hj)]
        rw [aTell_9 c9] at z
        have z1 := aTake_z z
        obtain ⟨b1, b2, b3, b4, b5⟩ := mB1v hd hT hK hY gR (xOn hd hT hK hx 9 (fun _ => c9) (by decide)) (Q 3 (by decide)) g19 0 9999 0 9999 (by decide) (by decide)
        by_cases j3 : j = 3
        · subst j3
          exact b4 z1
        · rw [b5 (26 + j) (Q j hj) (by omega), mGo_r hY (Q j hj)]
          show _ = if j = 3 then _ else g j
          rw [if_neg j3]
          exact hg hs j hj
      · rw [aGS_n c7 c8 c9]
        obtain ⟨A, hA⟩ : ∃ A : Nat → Nat → Prop, A = fun c _ => c = a ∨ ∃ l, zQs l ∧ (l < 26 ∨ 29 < l) ∧ c = Y l := ⟨_, rfl⟩
        have o : ∀ i, A a i := fun i => by rw [hA]; exact Or.inl rfl
        have r : ∀ l, zQs l → (l < 26 ∨ 29 < l) → ∀ i, A ((τ.2.2 a l).getD 0) i := fun l hl h26 i => by rw [hA, hR]; exact Or.inr ⟨l, hl, h26, (hY.1 l hl).1⟩
        have qq : ∀ l, ((21 ≤ l ∧ l ≤ 25) ∨ l = 30 ∨ l = 31 ∨ l = 33 ∨ l = 34 ∨ l = 35 ∨ l = 36 ∨ l = 37 ∨ l = 39 ∨ l = 40 ∨ l = 43) → zQs l := fun l hl => by unfold zQs; omega
        have fin : ∀ t', F_X11_tellOne a τ = t' → zFi A τ t' → ((F_X11_tellOne a τ).1 (Y (26 + j)) b).toInt = g j := fun t' e f => by
          rw [e, f.2 (Y (26 + j)) b (by
            rw [hA]
            rintro (z | ⟨l, l1, l2, l3⟩)
            · exact (hY.1 _ (Q j hj)).2 z
            · exact hY.2 _ l (Q j hj) l1 (by omega) l3)]
          exact hg hs j hj
        have on : zFi A τ (F_X11_goesOn a τ) := fi_X11_goesOn zFi.id (o _) (o _) (o _)
        have fa : ∀ p : Int32, zFi A τ (F_X11_fail a p τ) := fun p => fi_X11_fail zFi.id (o _) (o _)
        by_cases c0 : T.1 s.2.2.1 = 0
        · by_cases cm : s.2.2.2.2.2.1 = 0
          · exact fin _ (D1 c0 cm) (fi_X11_tellMouth on (o _) (o _) (o _) (o _) (o _) (o _) (r 22 (qq _ (by decide)) (by decide)) (r 23 (qq _ (by decide)) (by decide)) (r 24 (qq _ (by decide)) (by decide)) (r 25 (qq _ (by decide)) (by decide)) (r 21 (qq _ (by decide)) (by decide)))
          · exact fin _ (D2 c0 cm) (fa 2)
        · by_cases c1 : T.1 s.2.2.1 = 1
          · by_cases cm : s.2.2.2.2.2.2.1 = 11
            · exact fin _ (D4 c1 cm) (fa 2)
            · exact fin _ (D3 c1 cm) (fi_X11_tellPlace on (o _) (o _) (o _) (o _) (o _) (r 22 (qq _ (by decide)) (by decide)) (r 23 (qq _ (by decide)) (by decide)) (r 24 (qq _ (by decide)) (by decide)) (r 25 (qq _ (by decide)) (by decide)) (o _) (r 21 (qq _ (by decide)) (by decide)))
          · by_cases c6 : T.1 s.2.2.1 ≤ 6
            · obtain ⟨p, -, e⟩ := D5 (by omega) c6
              exact fin _ e (fi_X11_tellLaw on (o _) (o _) (o _) (r 33 (qq _ (by decide)) (by decide)) (r 36 (qq _ (by decide)) (by decide)) (o _) (r 39 (qq _ (by decide)) (by decide)) (r 40 (qq _ (by decide)) (by decide)) (o _) (r 43 (qq _ (by decide)) (by decide)) (o _) (r 37 (qq _ (by decide)) (by decide)) (o _) (r 30 (qq _ (by decide)) (by decide)) (r 31 (qq _ (by decide)) (by decide)) (r 34 (qq _ (by decide)) (by decide)) (r 35 (qq _ (by decide)) (by decide)))
            · exact fin _ (D9 (by omega)) (fa 1)
end GSX
