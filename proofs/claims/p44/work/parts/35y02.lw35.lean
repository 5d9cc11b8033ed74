/-! THE MONTH ENDS -/
/-- what is won then: one more, 999 at most -/
noncomputable def wonN (x : Int32) : Int32 := F_X11_within (x + (1 : Int32)) 0 999
theorem wonN_b {x : Int32} (h : 0 ≤ x.toInt ∧ x.toInt ≤ 999) : 0 ≤ (wonN x).toInt ∧ (wonN x).toInt ≤ 999 ∧ (if (999 : Int32).toInt ≤ (x + (1 : Int32)).toInt then (999 : Int32) else x + (1 : Int32)) = wonN x := by
  have e0 : (0 : Int32).toInt = 0 := by decide
  have e1 : (1 : Int32).toInt = 1 := by decide
  have e9 : (999 : Int32).toInt = 999 := by decide
  have y : (x + (1 : Int32)).toInt = x.toInt + 1 := by rw [zb_add (by rw [e1]; omega) (by rw [e1]; omega), e1]
  unfold wonN F_X11_within
  rw [e0, e9, if_neg (by omega)]
  by_cases c : 999 ≤ (x + (1 : Int32)).toInt
  · rw [if_pos c]
    by_cases c2 : 999 < (x + (1 : Int32)).toInt
    · rw [if_pos c2]
      exact ⟨by decide, by decide, rfl⟩
    · rw [if_neg c2]
      exact ⟨by omega, by omega, Int32.toInt_inj.mp (by rw [e9]; omega)⟩
  · rw [if_neg c, if_neg (by omega)]
    exact ⟨by omega, by omega, rfl⟩
section ENDM
variable {q Y : Nat → Nat} {a b N : Nat} {R : Nat → Nat → Option Nat} {s1 s2 t1 t2 τ : zS} {g : zGl} {m : Int32} {u l : Nat → Nat}
/-- the winner of the month -/
noncomputable def wnM (q : Nat → Nat) (N : Nat) (u : Nat → Nat) (s : zS) (g : zGl) (F : Nat → Int32) : Int := wn (sB N u) (fun p => clC q s g (s.1 (q 4) 5).toInt.toNat p (F p)) (-1) N
theorem wnM_r {s : zS} {F : Nat → Int32} : wnM q N u s g F = -2 ∨ ∃ W : Nat, wnM q N u s g F = W ∧ 1 ≤ W ∧ W < N := by
  unfold wnM
  rcases wn_r (S := sB N u) (C := fun p => clC q s g (s.1 (q 4) 5).toInt.toNat p (F p)) (but := -1) N with h | ⟨p, p1, p2, p3, -⟩
  · exact Or.inl h
  · exact Or.inr ⟨p, p2, (sB_t.mp p3).1, p1⟩
theorem cEndM (h : zQr q s1.2.2) (hg : 0 < N → zL5 q s1 g) (h0 : (s1.1 (q 1) 0).toInt = N) (hN : N ≤ 12) (hI : ∀ x : Int32, (F_X6_isSource (q 1) x s1).1.toInt = 0 ↔ ¬ (0 ≤ x.toInt ∧ Src N u x.toInt.toNat)) (h5 : 0 ≤ (s1.1 (q 4) 5).toInt ∧ (s1.1 (q 4) 5).toInt ≤ 2) {F : Nat → Int32} (f : zFr (zRw q) s1 t1) (hF : ∀ p, p < N → t1.1 (q 6) p = F p) : zFr (zGw q) s1 (F_X5_endMonth (q 0) t1) ∧ (F_X5_endMonth (q 0) t1).1 (q 4) 4 = s1.1 (q 4) 4 + (1 : Int32) ∧ (∀ p : Nat, (F_X5_endMonth (q 0) t1).1 (q 21) p = if wnM q N u s1 g F = p then s1.1 (q 21) p + s1.1 (q 3) 12 else s1.1 (q 21) p) ∧ ∀ p : Nat, (F_X5_endMonth (q 0) t1).1 (q 20) p = if wnM q N u s1 g F = p then (if (999 : Int32).toInt ≤ (s1.1 (q 20) p + (1 : Int32)).toInt then (999 : Int32) else s1.1 (q 20) p + (1 : Int32)) else s1.1 (q 20) p := by
  obtain ⟨⟨-, -, g3, g4, -, -, -⟩, -, -, -, -, g20, g21⟩ := id h.1
  obtain ⟨w, hw⟩ : ∃ w : Nat, (s1.1 (q 4) 5).toInt = w := ⟨(s1.1 (q 4) 5).toInt.toNat, by omega⟩
  have x5 : t1.1 (q 4) 5 = s1.1 (q 4) 5 := congrFun (zRw.r h f (by decide) (by omega)) 5
  obtain ⟨v, τ, e1, e2, e3, e4, -⟩ := cWin h hg h0 hN hI (k := s1.1 (q 4) 5) hw (by omega) f hF
  have ev : v.toInt = wnM q N u s1 g F := by
    rw [e2]
    unfold wnM
    rw [show (s1.1 (q 4) 5).toInt.toNat = w by omega]
  have rt : τ.2.2 = s1.2.2 := e3.rf
  have y4 : τ.1 (q 4) = s1.1 (q 4) := zRw.r h e3 (by decide) (by omega)
  have y3 : τ.1 (q 3) = s1.1 (q 3) := zRw.r h e3 (by decide) (by omega)
  have y20 : τ.1 (q 20) = s1.1 (q 20) := zRw.r h e3 (by decide) (by omega)
  have y21 : τ.1 (q 21) = s1.1 (q 21) := zRw.r h e3 (by decide) (by omega)
  have n4a : ¬ q 4 = q 20 := h.n (by decide) (by decide) (by decide)
  have n4b : ¬ q 4 = q 21 := h.n (by decide) (by decide) (by decide)
  have nab : ¬ q 20 = q 21 := h.n (by decide) (by decide) (by decide)
  have eS : zFr (zGw q) s1 τ := zRw.up e3
  by_cases c : 0 < v.toInt
  · obtain ⟨W, hW, W1, W2⟩ : ∃ W : Nat, wnM q N u s1 g F = W ∧ 1 ≤ W ∧ W < N := by
      rcases wnM_r (q := q) (N := N) (u := u) (s := s1) (g := g) (F := F) with z | z
      · omega
      · exact z
    have nv : v.toNatClampNeg = W := by rw [ztn, ev, hW]; rfl
    obtain ⟨A, hA⟩ : ∃ A : zS, A = (zu (zu (zu τ.1 (q 21) W (s1.1 (q 21) W + s1.1 (q 3) 12)) (q 20) W (if (999 : Int32).toInt ≤ (s1.1 (q 20) W + (1 : Int32)).toInt then (999 : Int32) else s1.1 (q 20) W + (1 : Int32))) (q 4) 4 (s1.1 (q 4) 4 + (1 : Int32)), τ.2.1, s1.2.2) := ⟨_, rfl⟩
    have X : F_X5_endMonth (q 0) t1 = A := by
      rw [hA]
      unfold F_X5_endMonth F_X1_pay
      simp only [↓zlt, ↓zlt2, f.rf, g4, x5, e1]
      rw [if_pos c]
      simp only [rt, g3, g4, g20, g21, nv, y3, y20, y21, zu_n _ _ _ nab, zu_n _ _ _ n4a, zu_n _ _ _ n4b, y4]
    have FA : zFr (zGw q) s1 A := by
      rw [hA]
      have z := ((eS.w (r := q 21) (j := W) (v := s1.1 (q 21) W + s1.1 (q 3) 12) (Or.inr (Or.inr (Or.inl rfl)))).w (r := q 20) (j := W) (v := if (999 : Int32).toInt ≤ (s1.1 (q 20) W + (1 : Int32)).toInt then (999 : Int32) else s1.1 (q 20) W + (1 : Int32)) (Or.inr (Or.inl rfl))).w (r := q 4) (j := 4) (v := s1.1 (q 4) 4 + (1 : Int32)) (Or.inr (Or.inr (Or.inr ⟨rfl, rfl⟩)))
      have z' : zFr (zGw q) s1 (zu (zu (zu τ.1 (q 21) W (s1.1 (q 21) W + s1.1 (q 3) 12)) (q 20) W (if (999 : Int32).toInt ≤ (s1.1 (q 20) W + (1 : Int32)).toInt then (999 : Int32) else s1.1 (q 20) W + (1 : Int32))) (q 4) 4 (s1.1 (q 4) 4 + (1 : Int32)), τ.2.1, τ.2.2) := z
      rw [rt] at z'
      exact z'
    rw [X]
    refine ⟨FA, ?_, fun p => ?_, fun p => ?_⟩
    · rw [hA]
      exact zu_s _ _ _ _
    · rw [hA, hW]
      show zu (zu (zu τ.1 (q 21) W _) (q 20) W _) (q 4) 4 _ (q 21) p = _
      rw [zu_n _ _ _ (fun z => n4b z.symm), zu_n _ _ _ (fun z => nab z.symm)]
      by_cases e : p = W
      · rw [e, zu_s, if_pos rfl]
      · rw [zu_j _ _ _ _ _ (fun z => e z.symm), y21, if_neg (by omega)]
    · rw [hA, hW]
      show zu (zu (zu τ.1 (q 21) W _) (q 20) W _) (q 4) 4 _ (q 20) p = _
      rw [zu_n _ _ _ (fun z => n4a z.symm)]
      by_cases e : p = W
      · rw [e, zu_s, if_pos rfl]
      · rw [zu_j _ _ _ _ _ (fun z => e z.symm), zu_n _ _ _ nab, y20, if_neg (by omega)]
  · have hm2 : wnM q N u s1 g F = -2 := by
      rcases wnM_r (q := q) (N := N) (u := u) (s := s1) (g := g) (F := F) with z | ⟨W, z, z1, -⟩
      · exact z
      · omega
    have X : F_X5_endMonth (q 0) t1 = (zu τ.1 (q 4) 4 (s1.1 (q 4) 4 + (1 : Int32)), τ.2.1, s1.2.2) := by
      unfold F_X5_endMonth
      simp only [↓zlt, ↓zlt2, f.rf, g4, x5, e1]
      rw [if_neg c]
      simp only [rt, g4, y4]
    have z' : zFr (zGw q) s1 (zu τ.1 (q 4) 4 (s1.1 (q 4) 4 + (1 : Int32)), τ.2.1, τ.2.2) := eS.w (r := q 4) (j := 4) (v := s1.1 (q 4) 4 + (1 : Int32)) (Or.inr (Or.inr (Or.inr ⟨rfl, rfl⟩)))
    rw [rt] at z'
    rw [X]
    refine ⟨z', zu_s _ _ _ _, fun p => ?_, fun p => ?_⟩
    · show zu τ.1 (q 4) 4 _ (q 21) p = _
      rw [zu_n _ _ _ (fun z => n4b z.symm), y21, hm2, if_neg (by omega)]
    · show zu τ.1 (q 4) 4 _ (q 20) p = _
      rw [zu_n _ _ _ (fun z => n4a z.symm), y20, hm2, if_neg (by omega)]
/-- the reference's, by the same winner -/
theorem mEndM (h : zYm Y a s2.2.2) (h18 : (s2.1 a 18).toInt = b) (hb : b ≤ 1) (hg : 0 < N → zW5 Y b s2 g) (hM : (F_X11_many a s2).toInt = N) (hN : N ≤ 12) (hI : ∀ x : Int32, (F_X11_isSource a x s2).toInt = 0 ↔ ¬ (0 ≤ x.toInt ∧ Src N u x.toInt.toNat)) (h5 : 0 ≤ (s2.1 (Y 49) 49).toInt ∧ (s2.1 (Y 49) 49).toInt ≤ 2) {F : Nat → Int32} (f : zFr (zVw Y a) s2 t2) (hF : ∀ p, p < N → t2.1 (Y 55) p = F p) {Z : Int} (hZ : Z = wn (sB N u) (fun p => clM Y b s2 g (s2.1 (Y 49) 49).toInt.toNat p (F p)) (-1) N) : ∃ τ, mTail a t2 = F_X11_fillsFlows a 0 τ ∧ zFr (zHw Y a) s2 τ ∧ τ.1 a 51 = s2.1 a 51 ∧ (τ.1 a 56).toInt = Z ∧ τ.1 (Y 49) 48 = s2.1 (Y 49) 48 + (1 : Int32) ∧ (∀ p : Nat, p < 12 → τ.1 (Y 49) (36 + p) = if Z = p then s2.1 (Y 49) (36 + p) + s2.1 (Y 28) b else s2.1 (Y 49) (36 + p)) ∧ ∀ p : Nat, p < 12 → τ.1 (Y 49) (24 + p) = if Z = p then wonN (s2.1 (Y 49) (24 + p)) else s2.1 (Y 49) (24 + p) := by
  have e24 : (24 : Int32).toInt = 24 := by decide
  have e36 : (36 : Int32).toInt = 36 := by decide
  have w48 : (48 : Int32).toNatClampNeg = 48 := by decide
  have w49 : (49 : Int32).toNatClampNeg = 49 := by decide
  have g49 := (h.1 49 (by unfold zYj; omega)).1
  have g28 := (h.1 28 (by unfold zYj; omega)).1
  have na : ¬ Y 49 = a := (h.1 49 (by unfold zYj; omega)).2
  have na' : ¬ a = Y 49 := fun z => na z.symm
  have n28 : ¬ Y 28 = a := (h.1 28 (by unfold zYj; omega)).2
  have n28' : ¬ Y 28 = Y 49 := h.2 28 49 (by unfold zYj; omega) (by unfold zYj; omega) (by decide)
  obtain ⟨w, hw⟩ : ∃ w : Nat, (s2.1 (Y 49) 49).toInt = w := ⟨(s2.1 (Y 49) 49).toInt.toNat, by omega⟩
  have x49 : t2.1 (Y 49) = s2.1 (Y 49) := zVw.r h f (by unfold zYj; omega) (by decide)
  obtain ⟨v, τ, e1, e2, e3, e4⟩ := mWin h h18 hb hg hM hN hI (k := s2.1 (Y 49) 49) hw (by omega) f hF
  have ev : v.toInt = Z := by
    rw [e2, hZ, show (s2.1 (Y 49) 49).toInt.toNat = w by omega]
  have rt : τ.2.2 = s2.2.2 := e3.rf
  have y49 : τ.1 (Y 49) = s2.1 (Y 49) := zVw.r h e3 (by unfold zYj; omega) (by decide)
  have y28 : τ.1 (Y 28) = s2.1 (Y 28) := zVw.r h e3 (by unfold zYj; omega) (by decide)
  have y18 : τ.1 a 18 = s2.1 a 18 := zVw.fl h e3 (by decide)
  have y51 : τ.1 a 51 = s2.1 a 51 := zVw.fl h e3 (by decide)
  have n18 : (s2.1 a 18).toNatClampNeg = b := by rw [ztn, h18]; rfl
  have eS : zFr (zHw Y a) s2 (zu τ.1 a 56 v, τ.2.1, s2.2.2) := by
    have z := (zVw.up e3).w (r := a) (j := 56) (v := v) (Or.inr (Or.inl ⟨rfl, rfl⟩))
    rw [rt] at z
    exact z
  have zr := wn_r (S := sB N u) (C := fun p => clM Y b s2 g (s2.1 (Y 49) 49).toInt.toNat p (F p)) (but := -1) N
  rw [← hZ] at zr
  by_cases c : v.toInt < 0
  · have Zm : Z < 0 := by omega
    obtain ⟨A, hA⟩ : ∃ A : zS, A = (zu (zu τ.1 a 56 v) (Y 49) 48 (s2.1 (Y 49) 48 + (1 : Int32)), τ.2.1, s2.2.2) := ⟨_, rfl⟩
    have X : mTail a t2 = F_X11_fillsFlows a 0 A := by
      rw [hA]
      unfold mTail
      simp only [↓zlt, ↓zlt2, f.rf, g49, w49, x49, e1]
      simp only [zu_s, rt, g49, w48, zu_n _ _ _ na, y49]
      rw [if_pos c]
    refine ⟨A, X, ?_, ?_, ?_, ?_, fun p hp => ?_, fun p hp => ?_⟩
    · rw [hA]
      exact eS.w (r := Y 49) (j := 48) (v := s2.1 (Y 49) 48 + (1 : Int32)) (Or.inr (Or.inr ⟨rfl, by decide, by decide⟩))
    · rw [hA]
      show zu (zu τ.1 a 56 v) (Y 49) 48 _ a 51 = _
      rw [zu_n _ _ _ na', zu_j _ _ _ _ _ (by decide)]
      exact y51
    · rw [hA]
      show (zu (zu τ.1 a 56 v) (Y 49) 48 _ a 56).toInt = _
      rw [zu_n _ _ _ na', zu_s]
      exact ev
    · rw [hA]
      exact zu_s _ _ _ _
    · rw [hA, if_neg (by omega)]
      show zu (zu τ.1 a 56 v) (Y 49) 48 _ (Y 49) (36 + p) = _
      rw [zu_j _ _ _ _ _ (by omega), zu_n _ _ _ na, y49]
    · rw [hA, if_neg (by omega)]
      show zu (zu τ.1 a 56 v) (Y 49) 48 _ (Y 49) (24 + p) = _
      rw [zu_j _ _ _ _ _ (by omega), zu_n _ _ _ na, y49]
  · obtain ⟨W, W1, hW, W3, -⟩ := zr.resolve_left (by omega)
    have vW : v.toInt = W := by omega
    have n24 : ((24 : Int32) + v).toNatClampNeg = 24 + W := by
      rw [ztn, zb_add (by rw [e24]; omega) (by rw [e24]; omega), e24, vW]
      omega
    have n36 : ((36 : Int32) + v).toNatClampNeg = 36 + W := by
      rw [ztn, zb_add (by rw [e36]; omega) (by rw [e36]; omega), e36, vW]
      omega
    obtain ⟨A, hA⟩ : ∃ A : zS, A = (zu (zu (zu (zu τ.1 a 56 v) (Y 49) (24 + W) (wonN (s2.1 (Y 49) (24 + W)))) (Y 49) (36 + W) (s2.1 (Y 49) (36 + W) + s2.1 (Y 28) b)) (Y 49) 48 (s2.1 (Y 49) 48 + (1 : Int32)), τ.2.1, s2.2.2) := ⟨_, rfl⟩
    have j1 : ∀ x : Int32, zu (zu τ.1 a 56 v) (Y 49) (24 + W) x (Y 49) (36 + W) = s2.1 (Y 49) (36 + W) := fun x => by rw [zu_j _ _ _ _ _ (by omega), zu_n _ _ _ na, y49]
    have j2 : ∀ x y : Int32, zu (zu (zu τ.1 a 56 v) (Y 49) (24 + W) x) (Y 49) (36 + W) y (Y 49) 48 = s2.1 (Y 49) 48 := fun x y => by rw [zu_j _ _ _ _ _ (by omega), zu_j _ _ _ _ _ (by omega), zu_n _ _ _ na, y49]
    have j3 : ∀ x : Int32, zu (zu τ.1 a 56 v) (Y 49) (24 + W) x a 56 = v := fun x => by rw [zu_n _ _ _ na', zu_s]
    have j4 : ∀ x : Int32, zu (zu τ.1 a 56 v) (Y 49) (24 + W) x a 18 = s2.1 a 18 := fun x => by rw [zu_n _ _ _ na', zu_j _ _ _ _ _ (by decide), y18]
    have j5 : ∀ (x : Int32) (i : Nat), zu (zu τ.1 a 56 v) (Y 49) (24 + W) x (Y 28) i = s2.1 (Y 28) i := fun x i => by rw [zu_n _ _ _ n28', zu_n _ _ _ n28, y28]
    have j6 : ∀ i : Nat, zu τ.1 a 56 v (Y 49) i = s2.1 (Y 49) i := fun i => by rw [zu_n _ _ _ na, y49]
    have X : mTail a t2 = F_X11_fillsFlows a 0 A := by
      rw [hA]
      unfold mTail
      simp only [↓zlt, ↓zlt2, f.rf, g49, w49, x49, e1]
      simp only [zu_s, rt, g49, g28, w48, n24]
      rw [if_neg c]
      simp only [j6, j3, n36, j1, j4, n18, j5, j2]
      rfl
    refine ⟨A, X, ?_, ?_, ?_, ?_, fun p hp => ?_, fun p hp => ?_⟩
    · rw [hA]
      exact ((eS.w (r := Y 49) (j := 24 + W) (v := wonN (s2.1 (Y 49) (24 + W))) (Or.inr (Or.inr ⟨rfl, by omega, by omega⟩))).w (r := Y 49) (j := 36 + W) (v := s2.1 (Y 49) (36 + W) + s2.1 (Y 28) b) (Or.inr (Or.inr ⟨rfl, by omega, by omega⟩))).w (r := Y 49) (j := 48) (v := s2.1 (Y 49) 48 + (1 : Int32)) (Or.inr (Or.inr ⟨rfl, by decide, by decide⟩))
    · rw [hA]
      show zu (zu (zu (zu τ.1 a 56 v) (Y 49) (24 + W) _) (Y 49) (36 + W) _) (Y 49) 48 _ a 51 = _
      rw [zu_n _ _ _ na', zu_n _ _ _ na', zu_n _ _ _ na', zu_j _ _ _ _ _ (by decide)]
      exact y51
    · rw [hA]
      show (zu (zu (zu (zu τ.1 a 56 v) (Y 49) (24 + W) _) (Y 49) (36 + W) _) (Y 49) 48 _ a 56).toInt = _
      rw [zu_n _ _ _ na', zu_n _ _ _ na', zu_n _ _ _ na', zu_s]
      exact ev
    · rw [hA]
      exact zu_s _ _ _ _
    · rw [hA]
      show zu (zu (zu (zu τ.1 a 56 v) (Y 49) (24 + W) _) (Y 49) (36 + W) _) (Y 49) 48 _ (Y 49) (36 + p) = _
      rw [zu_j _ _ _ _ _ (by omega)]
      by_cases e : p = W
      · rw [e, zu_s, if_pos hW]
      · rw [zu_j _ _ _ _ _ (by omega), zu_j _ _ _ _ _ (by omega), zu_n _ _ _ na, y49, if_neg (by omega)]
    · rw [hA]
      show zu (zu (zu (zu τ.1 a 56 v) (Y 49) (24 + W) _) (Y 49) (36 + W) _) (Y 49) 48 _ (Y 49) (24 + p) = _
      rw [zu_j _ _ _ _ _ (by omega), zu_j _ _ _ _ _ (by omega)]
      by_cases e : p = W
      · rw [e, zu_s, if_pos hW]
      · rw [zu_j _ _ _ _ _ (by omega), zu_n _ _ _ na, y49, if_neg (by omega)]
/-- a month ends on both sides -/
theorem zSd.endM (S : zSd q Y a b N g u l s1 s2) (Dn : zDn q Y N s1 s2) (f1 : zFr (zRw q) s1 t1) (f2 : zFr (zVw Y a) s2 t2) (hF : ∀ p, p < N → t1.1 (q 6) p = t2.1 (Y 55) p) : ∃ τ, mTail a t2 = F_X11_fillsFlows a 0 τ ∧ zSd q Y a b N g u l (F_X5_endMonth (q 0) t1) τ ∧ zDn q Y N (F_X5_endMonth (q 0) t1) τ ∧ zFr (zGw q) s1 (F_X5_endMonth (q 0) t1) ∧ zFr (zHw Y a) s2 τ ∧ τ.1 a 51 = s2.1 a 51 ∧ (τ.1 a 56).toInt = wnM q N u s1 g (fun p => t1.1 (q 6) p) ∧ (F_X5_endMonth (q 0) t1).1 (q 21) 0 = s1.1 (q 21) 0 ∧ τ.1 (Y 49) 36 = s2.1 (Y 49) 36 := by
  have E := S.eq Dn
  obtain ⟨⟨a1, a2, a3, a4, a5, a6, a7, a8⟩, ⟨b1, b2, b3, b4, b5, b6, b7, b8⟩, c, d, e⟩ := id S
  obtain ⟨d1, d2, d3, d4, d5⟩ := id Dn
  have Zq : wnM q N u s1 g (fun p => t1.1 (q 6) p) = wn (sB N u) (fun p => clM Y b s2 g (s2.1 (Y 49) 49).toInt.toNat p (t2.1 (Y 55) p)) (-1) N := by
    unfold wnM
    rw [d3]
    exact wnEq E hF
  obtain ⟨x1, x2, x3, x4⟩ := cEndM (F := fun p => t1.1 (q 6) p) a1 a2 a3 a4 a8 ⟨d4, d5⟩ f1 (fun p hp => rfl)
  obtain ⟨τ, y1, y2, y3, y4, y5, y6, y7⟩ := mEndM (F := fun p => t2.1 (Y 55) p) b1 b2 b3 b4 b5 a4 b8 (by rw [← d3]; exact ⟨d4, d5⟩) f2 (fun p hp => rfl) Zq
  have W0 : ¬ wnM q N u s1 g (fun p => t1.1 (q 6) p) = ((0 : Nat) : Int) := by
    rcases wnM_r (q := q) (N := N) (u := u) (s := s1) (g := g) (F := fun p => t1.1 (q 6) p) with z | ⟨W, z, z1, -⟩ <;> omega
  refine ⟨τ, y1, S.fr x1 y2, ⟨fun p hp => ?_, by rw [x2, y5, d2], by rw [zGw.c a1 x1 (by decide), zHw.w b1 y2 (by omega)]; exact d3, by rw [zGw.c a1 x1 (by decide)]; exact d4, by rw [zGw.c a1 x1 (by decide)]; exact d5⟩, x1, y2, y3, y4, ?_, ?_⟩
  · obtain ⟨p1, p2, p3, p4⟩ := d1 p hp
    obtain ⟨o1, o2, o3⟩ := wonN_b ⟨p3, p4⟩
    rw [x3 p, x4 p, y6 p (by omega), y7 p (by omega), o3, ← p1, ← p2, e (by omega)]
    refine ⟨rfl, rfl, ?_, ?_⟩
    · split
      · exact o1
      · exact p3
    · split
      · exact o2
      · exact p4
  · rw [x3 0, if_neg W0]
  · have := y6 0 (by decide)
    rw [if_neg W0] at this
    exact this
end ENDM
