section PLG
variable {P tk kA vA qA tt N m : Nat} {T : zTn} {σ σ' τ : zS} {s : zA} {W : Nat → Nat} {g : zGa}
theorem aNumb_l {lo hi : Int} (hs : s.1 = 0) (h : (aNumb T lo hi s).2.2.2.1 = 0) : s.2.2.2.1 = 0 := by
  unfold aNumb at h
  rw [aTake_l] at h
  split at h
  · exact absurd h (fun z => aLate_l z (by decide) hs)
  · exact h
theorem aNew_l (hs : s.1 = 0) (h : (aNew T s).2.2.2.1 = 0) : s.2.2.2.1 = 0 := by
  unfold aNew at h
  rw [aTake_l] at h
  split at h
  · exact absurd h (fun z => aLate_l z (by decide) hs)
  · exact h
theorem aFind_r {nm : Nat → Int64 × Int64} {pt : Int} {x : Int64} : ∀ n p, aFind nm pt x n p = -1 ∨ 0 ≤ aFind nm pt x n p := by
  intro n
  induction n with
  | zero => intro p; exact Or.inl rfl
  | succ n ih =>
    intro p
    rw [aFind]
    split
    · split
      · exact Or.inr (by omega)
      · exact ih _
    · exact Or.inl rfl
/-- the rows told of the places so far -/
def zVg (W : Nat → Nat) (σ : zS) (s : zA) (g : zGa) : Prop := s.1 = 0 → s.2.2.2.1 = 0 → ∀ p : Nat, 1 ≤ p → (p : Int) ≤ s.2.2.2.2.2.2.1 → (σ.1 (W 2) p).toInt = (g p).1 ∧ (σ.1 (W 3) p).toInt = (g p).2.1 ∧ (σ.1 (W 4) p).toInt = (g p).2.2.1 ∧ (σ.1 (W 5) p).toInt = (g p).2.2.2
def zWz (W : Nat → Nat) (P tt : Nat) (R : Nat → Nat → Option Nat) : Prop := (∀ j, 2 ≤ j → j ≤ 5 → (R tt j).getD 0 = W j ∧ W j ≠ P) ∧ ∀ i j, 2 ≤ i → i ≤ 5 → 2 ≤ j → j ≤ 5 → i ≠ j → W i ≠ W j
theorem setPV (hW : zWz W P tt τ.2.2) {i a b c d : Int32} {n : Nat} (hi : i.toInt = n) (hn : n < 12) : (F_X9_setPlace tt i a b c d τ).1 = zu (zu (zu (zu τ.1 (W 2) n a) (W 3) n b) (W 4) n c) (W 5) n d := by
  have e12 : (12 : Int32).toInt = 12 := by decide
  have en : i.toNatClampNeg = n := by rw [ztn, hi]; rfl
  unfold F_X9_setPlace
  simp only [zlt, e12, en]
  rw [if_neg (by omega), if_pos (by omega), (hW.1 2 (by omega) (by omega)).1, (hW.1 3 (by omega) (by omega)).1, (hW.1 4 (by omega) (by omega)).1, (hW.1 5 (by omega) (by omega)).1]
theorem vPlaceG (hd : zVd P tk kA vA qA N) (hT : zTK T m) (h : zV P tk kA vA qA tt N m T σ s) (hs : s.1 = 0) (ht : T.1 s.2.2.1 = 1) (hW : zWz W P tt σ.2.2) (hg : zVg W σ s g) : zVg W (F_X3_newPlace P σ) (aPlace T s) (aG T s g) := by
  intro q l p hp1 hp2
  have r9 := (h.2.2.2 hs).2.2.2.2.2.2.2.2.1
  have e11 : (11 : Int32).toInt = 11 := by decide
  have e1 : (1 : Int32).toInt = 1 := by decide
  have e0 : (0 : Int32).toInt = 0 := by decide
  have e99 : (99 : Int32).toInt = 99 := by decide
  have q2 : (aPlace2 T (aPlace1 T s)).1 = 0 := by
    unfold aPlace at q
    split at q
    · next c => exact c.1
    · exact q
  obtain ⟨s1z, -, i2⟩ := aPlace2_i q2
  have c11 : s.2.2.2.2.2.2.1 < 11 := by
    apply Classical.byContradiction
    intro n
    unfold aPlace1 at s1z
    rw [if_pos (by omega)] at s1z
    have := (aTake_i s1z).1
    unfold aFail at this
    rw [if_neg (zne hs)] at this
    exact absurd this (by decide : ¬ (2 : Int) = 0)
  have es1 : aPlace1 T s = aTake T 1 s := by
    unfold aPlace1
    rw [if_neg (by omega)]
  obtain ⟨-, -, t3, t4⟩ := aTake_i (es1 ▸ s1z)
  have cnt : (aPlace2 T (aPlace1 T s)).2.2.2.2.2.2.1 = s.2.2.2.2.2.2.1 := by
    rw [show (aPlace2 T (aPlace1 T s)).2.2.2.2.2.2.1 = (aPlace1 T s).2.2.2.2.2.2.1 from congrArg (fun z => z.2.1) i2, es1]
    exact congrArg (fun z => z.2.2.2.1) t4
  have ep : aPlace T s = aSetP (aPlace2 T (aPlace1 T s)) (T.2.1 (aPlace1 T s).2.2.1) := by
    unfold aPlace
    rw [if_pos ⟨q2, by omega⟩]
  have l2 : (aPlace2 T (aPlace1 T s)).2.2.2.1 = 0 := by rw [ep] at l; exact l
  have hp3 : (p : Int) ≤ s.2.2.2.2.2.2.1 + 1 := by rw [ep] at hp2; rw [← cnt]; exact hp2
  have eg : aG T s g = fun p : Nat => if (p : Int) = s.2.2.2.2.2.2.1 + 1 then aVals T (aPlace1 T s) else g p := by
    unfold aG
    rw [if_pos ⟨ht, q⟩]
  rw [eg]
  -- the chain
  have h1 : zV P tk kA vA qA tt N m T (F_X3_take P 1 σ) (aPlace1 T s) := by
    rw [es1]
    exact vTake' hd hT h 1 1 (by decide) (by decide)
  obtain ⟨x, s7, a1, a2, -⟩ := vNew hd hT h1
  obtain ⟨v8, s9, b1, b2⟩ := vKnown hd hT a2
  obtain ⟨v12, s13, c1, c2⟩ := vNumb hd hT b2 1 99
  obtain ⟨v16, s17, d1, d2⟩ := vNumb hd hT c2 0 99
  obtain ⟨v20, s21, f1, f2⟩ := vNumb hd hT d2 0 99
  rw [e1, e99] at c2 d2 f2
  rw [e0] at d2 f2
  have f2' : zV P tk kA vA qA tt N m T s21 (aPlace2 T (aPlace1 T s)) := f2
  obtain ⟨z4, -, -⟩ := aNumb_i (lo := 0) (hi := 99) q2
  obtain ⟨z3, -, -⟩ := aNumb_i z4
  obtain ⟨z2, -, -⟩ := aNumb_i z3
  obtain ⟨z1, k22, -⟩ := aKnown_i z2
  have l4 := aNumb_l (lo := 0) (hi := 99) z4 l2
  have l3 := aNumb_l z3 l4
  have l1 := aNumb_l z2 l3
  obtain ⟨l0, kn⟩ := aKnown_l z1 l1 k22
  have lN := aNew_l s1z l0
  have lS : s.2.2.2.1 = 0 := by rw [es1, aTake_l] at lN; exact lN
  have w8 : v8.toInt = aNum (aNew T (aPlace1 T s)) (T.2.1 (aNew T (aPlace1 T s)).2.2.1).1 := by
    have := vKnownV a2 z1
    rw [b1] at this
    rcases aFind_r (nm := (aNew T (aPlace1 T s)).2.2.2.2.2.2.2) (pt := (aNew T (aPlace1 T s)).2.2.2.2.2.2.1) (x := (T.2.1 (aNew T (aPlace1 T s)).2.2.1).1) 20 (if (aNew T (aPlace1 T s)).2.2.2.2.2.1 = 0 then 1 else 0) with z | z
    · exact absurd z kn
    · rw [if_neg (show ¬ aNum _ _ < 0 from by unfold aNum; omega)] at this
      exact this
  have w12 : v12.toInt = T.2.2.1 (aKnown T (aNew T (aPlace1 T s))).2.2.1 := by
    have := vNumbV b2 z2 1 99
    rw [c1] at this
    exact this
  have w16 : v16.toInt = T.2.2.1 (aNumb T 1 99 (aKnown T (aNew T (aPlace1 T s)))).2.2.1 := by
    have := vNumbV c2 z3 0 99
    rw [d1] at this
    exact this
  have w20 : v20.toInt = T.2.2.1 (aNumb T 0 99 (aNumb T 1 99 (aKnown T (aNew T (aPlace1 T s))))).2.2.1 := by
    have := vNumbV d2 z4 0 99
    rw [f1] at this
    exact this
  -- the frames
  have A1 : zFi (fun c _ => c = P) σ (F_X3_take P 1 σ) := fi_X3_take zFi.id rfl rfl rfl rfl rfl
  have A2 : zFi (fun c _ => c = P) σ s7 := (fi_X3_newName A1 rfl rfl rfl rfl rfl rfl rfl).of a1.symm
  have A3 : zFi (fun c _ => c = P) σ s9 := (fi_X3_knownName A2 rfl rfl rfl rfl rfl rfl rfl).of b1.symm
  have A4 : zFi (fun c _ => c = P) σ s13 := (fi_X3_number A3 rfl rfl rfl rfl rfl rfl rfl).of c1.symm
  have A5 : zFi (fun c _ => c = P) σ s17 := (fi_X3_number A4 rfl rfl rfl rfl rfl rfl rfl).of d1.symm
  have A6 : zFi (fun c _ => c = P) σ s21 := (fi_X3_number A5 rfl rfl rfl rfl rfl rfl rfl).of f1.symm
  obtain ⟨r1, r2, r3, r4, r5, r6, r7, r8, r9', r10, r11⟩ := f2'.2.2.2 q2
  have e7 : (s21.1 P 7 + (1 : Int32)).toInt = ((s.2.2.2.2.2.2.1 + 1).toNat : Nat) := by rw [zb_add (by rw [r9', e1, cnt]; omega) (by rw [r9', e1, cnt]; omega), r9', e1, cnt]; have := (h.2.2.2 hs).2.2.2.2.2.2.2.2.2.1.1; omega
  have c0 := (h.2.2.2 hs).2.2.2.2.2.2.2.2.2.1.1
  have t0 := vtt f2'
  have n0 := vnn f2'
  unfold F_X3_newPlace
  simp only [zlt, zlt2, e11, a1, b1, c1, d1, f1]
  rw [if_pos (show (σ.1 P 7).toInt < 11 by omega), if_pos (show (s21.1 P 8).toInt = 0 from f2'.2.1.trans q2), if_pos (show (s21.1 P 7).toInt < 11 by omega)]
  simp only [t0, n0, zu_s]
  have hW21 : zWz W P tt s21.2.2 := by rw [A6.1]; exact hW
  rw [setPV (τ := (zu s21.1 P 7 (s21.1 P 7 + (1 : Int32)), zu s21.2.1 N (s21.1 P 7 + (1 : Int32)).toNatClampNeg x, s21.2.2)) hW21 e7 (by omega)]
  have ne := hW.2
  have nP := fun j h1 h2 => (hW.1 j h1 h2).2
  have base : ∀ j, 2 ≤ j → j ≤ 5 → ∀ i, zu s21.1 P 7 (s21.1 P 7 + (1 : Int32)) (W j) i = σ.1 (W j) i := fun j h1 h2 i => by
    rw [zu_n _ _ _ (nP j h1 h2)]
    exact A6.2 _ _ (nP j h1 h2)
  show (zu (zu (zu (zu (zu s21.1 P 7 _) (W 2) _ v8) (W 3) _ v12) (W 4) _ v16) (W 5) _ v20 (W 2) p).toInt = _ ∧ (zu (zu (zu (zu (zu s21.1 P 7 _) (W 2) _ v8) (W 3) _ v12) (W 4) _ v16) (W 5) _ v20 (W 3) p).toInt = _ ∧ (zu (zu (zu (zu (zu s21.1 P 7 _) (W 2) _ v8) (W 3) _ v12) (W 4) _ v16) (W 5) _ v20 (W 4) p).toInt = _ ∧ (zu (zu (zu (zu (zu s21.1 P 7 _) (W 2) _ v8) (W 3) _ v12) (W 4) _ v16) (W 5) _ v20 (W 5) p).toInt = _
  rw [zu_n _ _ _ (ne 2 5 (by omega) (by omega) (by omega) (by omega) (by omega)), zu_n _ _ _ (ne 2 4 (by omega) (by omega) (by omega) (by omega) (by omega)), zu_n _ _ _ (ne 2 3 (by omega) (by omega) (by omega) (by omega) (by omega)), zu_n _ _ _ (ne 3 5 (by omega) (by omega) (by omega) (by omega) (by omega)), zu_n _ _ _ (ne 3 4 (by omega) (by omega) (by omega) (by omega) (by omega)), zu_n _ _ _ (ne 4 5 (by omega) (by omega) (by omega) (by omega) (by omega))]
  by_cases cp : (p : Int) = s.2.2.2.2.2.2.1 + 1
  · rw [if_pos cp, show (s.2.2.2.2.2.2.1 + 1).toNat = p by omega, zu_s, zu_s, zu_s, zu_s]
    exact ⟨w8, w12, w16, w20⟩
  · rw [if_neg cp]
    have np : ¬ (s.2.2.2.2.2.2.1 + 1).toNat = p := by omega
    rw [zu_j _ _ _ _ _ np, zu_j _ _ _ _ _ np, zu_j _ _ _ _ _ np, zu_j _ _ _ _ _ np, zu_n _ _ _ (ne 3 2 (by omega) (by omega) (by omega) (by omega) (by omega)), zu_n _ _ _ (ne 4 3 (by omega) (by omega) (by omega) (by omega) (by omega)), zu_n _ _ _ (ne 4 2 (by omega) (by omega) (by omega) (by omega) (by omega)), zu_n _ _ _ (ne 5 4 (by omega) (by omega) (by omega) (by omega) (by omega)), zu_n _ _ _ (ne 5 3 (by omega) (by omega) (by omega) (by omega) (by omega)), zu_n _ _ _ (ne 5 2 (by omega) (by omega) (by omega) (by omega) (by omega)), base 2 (by omega) (by omega), base 3 (by omega) (by omega), base 4 (by omega) (by omega), base 5 (by omega) (by omega)]
    exact hg hs lS p hp1 (by omega)
end PLG
