section ZW3
variable {a k q v nm nO m : Nat} {T : zTn} {β : Int} {τ τ' : zS} {s s' : zA}
theorem zQ1 (h : zWg a k q v nm nO m T β τ s) (j : Nat) (hj : zQs j) : (τ.2.2 a j).getD 0 ≠ a := (h.1.2.2 j hj).1
theorem wEmit (hd : zWd a k q v nm nO) (h : zWg a k q v nm nO m T β τ s) (x y : Int32) : zWg a k q v nm nO m T β (F_X11_emit a x y τ) s ∧ (F_X11_emit a x y τ).1 a 12 = τ.1 a 12 := by
  have q39 : zQs 39 := by unfold zQs; omega
  have q40 : zQs 40 := by unfold zQs; omega
  refine ⟨wRow hd (wArr (wArr h 39 _ _ q39) 40 _ _ q40) 38 _ (by unfold zLv; omega), ?_⟩
  show zu (zu (zu τ.1 ((τ.2.2 a 39).getD 0) _ _) ((τ.2.2 a 40).getD 0) _ _) a 38 _ a 12 = _
  rw [zu_j _ _ _ _ _ (by decide), zu_n _ _ _ (fun z => zQ1 h 40 q40 z.symm), zu_n _ _ _ (fun z => zQ1 h 39 q39 z.symm)]
theorem wComes_l (hd : zWd a k q v nm nO) (p : Int32) : ∀ (n : Nat) (τ : zS), zWg a k q v nm nO m T β τ s → zWg a k q v nm nO m T β (F_X11_comesOut_0 a p n τ) s ∧ (F_X11_comesOut_0 a p n τ).1 a 12 = τ.1 a 12 := by
  intro n
  induction n with
  | zero => intro τ h; exact ⟨h, rfl⟩
  | succ n ih =>
    intro τ h
    have nx : ∀ x y z : Int32, zWg a k q v nm nO m T β (F_X11_comesOut_0 a p n (F_X11_emit a x y (zu τ.1 a 44 z, τ.2.1, τ.2.2))) s ∧ (F_X11_comesOut_0 a p n (F_X11_emit a x y (zu τ.1 a 44 z, τ.2.1, τ.2.2))).1 a 12 = τ.1 a 12 := fun x y z => by
      have h1 := wRow hd h 44 z (by unfold zLv; omega)
      have h2 := wEmit hd h1 x y
      have h3 := ih _ h2.1
      refine ⟨h3.1, h3.2.trans (h2.2.trans ?_)⟩
      exact zu_j _ _ _ _ _ (by decide)
    rw [F_X11_comesOut_0]
    simp only [zlt]
    (repeat' split) <;> first | exact ⟨h, rfl⟩ | exact nx _ _ _
theorem wComes (hd : zWd a k q v nm nO) (h : zWg a k q v nm nO m T β τ s) (p : Int32) : zWg a k q v nm nO m T β (F_X11_comesOut a p τ) s ∧ (F_X11_comesOut a p τ).1 a 12 = τ.1 a 12 := by
  unfold F_X11_comesOut
  exact wComes_l hd p _ _ h
/-- what goes behind on the pile of what waits -/
theorem wPush (hd : zWd a k q v nm nO) (h : zWg a k q v nm nO m T β τ s) (i : Nat) (x z : Int32) : zWg a k q v nm nO m T β (zu (zu τ.1 ((τ.2.2 a 43).getD 0) i x) a 44 z, τ.2.1, τ.2.2) s ∧ zu (zu τ.1 ((τ.2.2 a 43).getD 0) i x) a 44 z a 12 = τ.1 a 12 := by
  have q43 : zQs 43 := by unfold zQs; omega
  refine ⟨wRow hd (wArr h 43 i x q43) 44 z (by unfold zLv; omega), ?_⟩
  rw [zu_j _ _ _ _ _ (by decide), zu_n _ _ _ (fun z => zQ1 h 43 q43 z.symm)]
theorem wOn12 : (F_X11_goesOn a τ).1 a 12 = τ.1 a 12 ∨ False := by
  left
  unfold F_X11_goesOn
  simp only [zlt]
  split
  · unfold F_X11_fail
    simp only [zlt]
    split
    · rfl
    · show zu (zu τ.1 a 13 _) a 14 _ a 12 = _
      rw [zu_j _ _ _ _ _ (by decide), zu_j _ _ _ _ _ (by decide)]
  · exact zu_j _ _ _ _ _ (by decide)
theorem wOn12' : (F_X11_goesOn a τ).1 a 12 = τ.1 a 12 := by
  rcases wOn12 (a := a) (τ := τ) with z | z
  · exact z
  · exact z.elim
def aU (T : zTn) (s : zA) : zA := if s.1 ≠ 0 then s else if T.1 s.2.2.1 = 23 ∨ (13 ≤ T.1 s.2.2.1 ∧ T.1 s.2.2.1 < 22) then aOn T s else aFail T 1 s
theorem zrho_var {x : Int} (h0 : 0 ≤ x) (h1 : x ≤ 34) : (33 ≤ zrho x ∧ zrho x ≤ 41) ↔ (13 ≤ x ∧ x < 22) := by
  have key : ∀ b : Fin 35, (33 ≤ zrho b.val ∧ zrho b.val ≤ 41) ↔ (13 ≤ (b.val : Int) ∧ (b.val : Int) < 22) := by decide +kernel
  have q := key ⟨x.toNat, by omega⟩
  simp only at q
  rw [show ((x.toNat : Nat) : Int) = x by omega] at q
  exact q
theorem wUnit (hd : zWd a k q v nm nO) (hT : zTm T m) (hK : zTK T m) (h : zWo a k q v nm nO m T τ s) : zWo a k q v nm nO m T (F_X11_unit a τ) (aU T s) ∧ (F_X11_unit a τ).1 a 12 = τ.1 a 12 := by
  have e5 : (τ.2.2 a 5).getD 0 = k := by rw [h.1.1.1]; rfl
  have e33 : (33 : Int32).toInt = 33 := by decide
  have e41 : (41 : Int32).toInt = 41 := by decide
  have f12 : ∀ n : Int32, (F_X11_fail a n τ).1 a 12 = τ.1 a 12 := fun n => by
    unfold F_X11_fail
    simp only [zlt]
    split
    · rfl
    · show zu (zu τ.1 a 13 _) a 14 _ a 12 = _
      rw [zu_j _ _ _ _ _ (by decide), zu_j _ _ _ _ _ (by decide)]
  have go : ∀ x y : Int32, s.1 = 0 → T.1 s.2.2.1 < 33 → zWo a k q v nm nO m T (F_X11_goesOn a (F_X11_emit a x y τ)) (aOn T s) ∧ (F_X11_goesOn a (F_X11_emit a x y τ)).1 a 12 = τ.1 a 12 := fun x y c c2 => by
    have h1 := wEmit hd h x y
    exact ⟨wOn hd hT hK h1.1 (fun _ => by omega) (fun _ => c2), wOn12'.trans h1.2⟩
  unfold F_X11_unit aU
  simp only [zlt, wIs hT h 2 23 (by decide) (by decide), e5, e33, e41]
  by_cases c : s.1 = 0
  · rw [if_neg (fun z : s.1 ≠ 0 => z c)]
    obtain ⟨r1, r2, r3, r4, r5, r6, r7, r8, r9⟩ := h.2.2.2.2 c
    have ei : (τ.1 a 11).toNatClampNeg = s.2.2.1 := by rw [ztn, r2]; rfl
    have rg := hT.2.1 _ r1
    rw [ei, (h.1.2.1 _ r1).1]
    by_cases c1 : T.1 s.2.2.1 = 23
    · rw [if_neg (fun z => z ⟨c, c1⟩), if_pos (Or.inl c1)]
      exact go _ _ c (by omega)
    · rw [if_pos (fun z => c1 z.2), if_pos (h.2.1.trans c)]
      have zv := zrho_var rg.1 rg.2
      by_cases c2 : zrho (T.1 s.2.2.1) < 33
      · rw [if_pos c2, if_neg (by omega)]
        exact ⟨wFail' hd h 1 1 (by decide) (by decide), f12 1⟩
      · rw [if_neg c2]
        by_cases c3 : 41 < zrho (T.1 s.2.2.1)
        · rw [if_pos c3, if_neg (by omega)]
          exact ⟨wFail' hd h 1 1 (by decide) (by decide), f12 1⟩
        · rw [if_neg c3, if_pos (by omega)]
          exact go _ _ c (by omega)
  · rw [if_pos (fun z => c z.1), if_neg (fun z => c (h.2.1.symm.trans z)), if_pos c]
    have q := wFail' hd h 1 1 (by decide) (by decide)
    rw [aFail_f c] at q
    exact ⟨q, f12 1⟩
/-- what an expression brings from a state on: the place where the automaton stands still -/
def zGo (a k q v nm nO m : Nat) (T : zTn) (b : Bool) (o : Int) (s : zA) (τ' : zS) : Prop := ∃ s' : zA, zWo a k q v nm nO m T τ' s' ∧ (s'.1 = 0 → (τ'.1 a 12).toInt = 0) ∧ ∃ e, ∀ n, aE T (n + e) b o s = s'
theorem zGo.one {o o' : Int} {b b' : Bool} {s1 : zA} (h : zGo a k q v nm nO m T b' o' s1 τ') (e : ∀ n, aE T (n + 1) b o s = aE T n b' o' s1) : zGo a k q v nm nO m T b o s τ' := by
  obtain ⟨s', h1, h2, x, h3⟩ := h
  exact ⟨s', h1, h2, x + 1, fun n => by rw [← Nat.add_assoc, e, h3]⟩
theorem zGo.flt {o : Int} {b : Bool} (h : zWo a k q v nm nO m T τ' s) (c : s.1 ≠ 0) : zGo a k q v nm nO m T b o s τ' := ⟨s, h, fun z => absurd z c, 0, fun n => aE_f c _ _ _⟩
theorem x96 (hd : zWd a k q v nm nO) (hT : zTm T m) (hK : zTK T m) {x7 v5 : Int32} (hv5 : v5.toInt = 0) (K : Int32 → zS → zS) (K2 : zS → zS) (i0 : Nat)
    (hk : ∀ (x : Int32) (τ : zS) (s : zA) (o : Int), x.toInt ≠ 0 → zWo a k q v nm nO m T τ s → 0 ≤ o ∧ o ≤ 6 → (s.1 = 0 → (τ.1 a 12).toInt = o ∧ i0 < s.2.2.1) → zGo a k q v nm nO m T true o s (K x τ)) :
    ∀ (n : Nat) (τ : zS) (s : zA) (o : Int), zWo a k q v nm nO m T τ s → 0 ≤ o ∧ o ≤ 6 → (s.1 = 0 → (τ.1 a 12).toInt = o ∧ i0 ≤ s.2.2.1 ∧ 401 < n + s.2.2.1) → 0 < n → zGo a k q v nm nO m T false o s (F_X11_expression_96 x7 v5 a K K2 n τ) := by
  intro n
  induction n with
  | zero => intro τ s o _ _ _ h; exact absurd h (by omega)
  | succ n ih =>
    intro τ s o h ho hs _
    have c00 : ((0 : Int32).toInt = 0) = True := by decide
    have c10 : ((1 : Int32).toInt = 0) = False := by decide
    have i7 := wIs hT h 7 32 (by decide) (by decide)
    have i8 := wIs hT h 8 26 (by decide) (by decide)
    have i9 := wIs hT h 9 27 (by decide) (by decide)
    have i10 := wIs hT h 10 28 (by decide) (by decide)
    have i15 := wIs hT h 15 29 (by decide) (by decide)
    have sgn : ∀ (p x : Int32), x.toInt ≠ 0 → s.1 = 0 → 26 ≤ T.1 s.2.2.1 → T.1 s.2.2.1 ≤ 29 → ∀ (i : Nat) (y z : Int32), zGo a k q v nm nO m T false o s (K x (F_X11_goesOn a (zu (zu (F_X11_comesOut a p τ).1 (((F_X11_comesOut a p τ).2.2 a 43).getD 0) i y) a 44 z, (F_X11_comesOut a p τ).2.1, (F_X11_comesOut a p τ).2.2))) := fun p x hx c c1 c2 i y z => by
      have h1 := wComes hd h p
      have h2 := wPush hd h1.1 i y z
      have h3 := wOn hd hT hK h2.1 (fun _ => by omega) (fun _ => by omega)
      rw [← aTake_on (w := T.1 s.2.2.1) rfl] at h3
      refine zGo.one (hk x _ _ o hx h3 ho (fun z => ?_)) (fun n => by rw [aE, if_neg (zne c), if_pos ⟨c1, c2⟩])
      have qi := aTake_i z
      have q2 := hs c
      exact ⟨by rw [wOn12']; show (zu (zu _ _ _ _) a 44 _ a 12 : Int32).toInt = o; rw [h2.2, h1.2]; exact q2.1, by omega⟩
    have none : Unit → (s.1 = 0 → ¬ (26 ≤ T.1 s.2.2.1 ∧ T.1 s.2.2.1 ≤ 29)) → (s.1 = 0 → T.1 s.2.2.1 = 32 → o = 0) → zGo a k q v nm nO m T false o s (if v5.toInt < (τ.1 a 12).toInt then F_X11_comesOut a 0 (F_X11_fail a 1 τ) else F_X11_comesOut a 0 τ) := fun _ n1 n2 => by
      by_cases c : s.1 = 0
      · have q2 := hs c
        rw [hv5, q2.1]
        by_cases c2 : 0 < o
        · rw [if_pos c2]
          have h1 := wFail' hd h 1 1 (by decide) (by decide)
          have h2 := wComes hd h1 0
          refine ⟨_, h2.1, fun z => absurd z (aFail_1 (by decide)), 1, fun n => ?_⟩
          rw [aE, if_neg (zne c), if_neg (n1 c), if_pos c2, if_neg (fun z => by have := n2 c z; omega)]
        · rw [if_neg c2]
          have h2 := wComes hd h 0
          refine ⟨s, h2.1, fun _ => by rw [h2.2, q2.1]; omega, 1, fun n => ?_⟩
          rw [aE, if_neg (zne c), if_neg (n1 c), if_neg c2]
      · split
        · have h1 := wFail' hd h 1 1 (by decide) (by decide)
          rw [aFail_f c] at h1
          exact zGo.flt (wComes hd h1 0).1 c
        · exact zGo.flt (wComes hd h 0).1 c
    rw [F_X11_expression_96]
    simp only [zlt, c00, c10, if_true, if_false]
    by_cases d7 : s.1 = 0 ∧ T.1 s.2.2.1 = 32
    · have q2 := hs d7.1
      have j7 : ((F_X11_is a (7 : Int32) τ).toInt = 0) = False := by rw [i7]; simp [d7.1, d7.2]
      have j8 : ((F_X11_is a (8 : Int32) τ).toInt = 0) = True := by rw [i8]; simp [d7.1, d7.2]
      have j9 : ((F_X11_is a (9 : Int32) τ).toInt = 0) = True := by rw [i9]; simp [d7.1, d7.2]
      have j10 : ((F_X11_is a (10 : Int32) τ).toInt = 0) = True := by rw [i10]; simp [d7.1, d7.2]
      have j15 : ((F_X11_is a (15 : Int32) τ).toInt = 0) = True := by rw [i15]; simp [d7.1, d7.2]
      simp only [j7, j8, j9, j10, j15, if_true, if_false]
      rw [hv5, q2.1]
      by_cases c2 : 0 < o
      · rw [if_pos c2]
        have h1 := wComes hd h 0
        have h2 := wRow hd h1.1 44 ((F_X11_comesOut a 0 τ).1 a 44 - (1 : Int32)) (by unfold zLv; omega)
        have h3 := wRow hd h2 12 ((zu (F_X11_comesOut a 0 τ).1 a 44 ((F_X11_comesOut a 0 τ).1 a 44 - (1 : Int32))) a 12 - (1 : Int32)) (by unfold zLv; omega)
        have h4 := wOn hd hT hK h3 (fun _ => by omega) (fun _ => by omega)
        rw [← aTake_on (w := 32) d7.2] at h4
        refine zGo.one (ih _ _ (o - 1) h4 (by omega) (fun z => ?_) ?_) (fun n => by rw [aE, if_neg (zne d7.1), if_neg (by omega), if_pos c2, if_pos d7.2])
        · have qi := aTake_i z
          have e1 : (1 : Int32).toInt = 1 := by decide
          refine ⟨?_, by omega, by omega⟩
          rw [wOn12']
          show (zu (zu (F_X11_comesOut a 0 τ).1 a 44 _) a 12 _ a 12).toInt = _
          rw [zu_s, zu_j _ _ _ _ _ (by decide), h1.2, zb_sub (by rw [q2.1, e1]; omega) (by rw [q2.1, e1]; omega), q2.1, e1]
        · have := (h.2.2.2.2 d7.1).1
          have := hK.2.1
          omega
      · rw [if_neg c2]
        have := none () (fun _ => by omega) (fun _ _ => by omega)
        rw [hv5, q2.1] at this
        exact this
    · have j7 : ((F_X11_is a (7 : Int32) τ).toInt = 0) = True := by rw [i7]; simp [d7]
      simp only [j7, if_true]
      by_cases d8 : s.1 = 0 ∧ T.1 s.2.2.1 = 26
      · have j8 : ((F_X11_is a (8 : Int32) τ).toInt = 0) = False := by rw [i8]; simp [d8.1, d8.2]
        have j10 : ((F_X11_is a (10 : Int32) τ).toInt = 0) = True := by rw [i10]; simp [d8.1, d8.2]
        have j15 : ((F_X11_is a (15 : Int32) τ).toInt = 0) = True := by rw [i15]; simp [d8.1, d8.2]
        simp only [j8, j10, j15, if_true, if_false]
        exact sgn 0 1 (by decide) d8.1 (by omega) (by omega) _ _ _
      have j8 : ((F_X11_is a (8 : Int32) τ).toInt = 0) = True := by rw [i8]; simp [d8]
      simp only [j8, if_true]
      by_cases d9 : s.1 = 0 ∧ T.1 s.2.2.1 = 27
      · have j9 : ((F_X11_is a (9 : Int32) τ).toInt = 0) = False := by rw [i9]; simp [d9.1, d9.2]
        have j10 : ((F_X11_is a (10 : Int32) τ).toInt = 0) = True := by rw [i10]; simp [d9.1, d9.2]
        have j15 : ((F_X11_is a (15 : Int32) τ).toInt = 0) = True := by rw [i15]; simp [d9.1, d9.2]
        simp only [j9, j10, j15, if_true, if_false]
        exact sgn 0 1 (by decide) d9.1 (by omega) (by omega) _ _ _
      have j9 : ((F_X11_is a (9 : Int32) τ).toInt = 0) = True := by rw [i9]; simp [d9]
      simp only [j9, if_true]
      by_cases d10 : s.1 = 0 ∧ T.1 s.2.2.1 = 28
      · have j10 : ((F_X11_is a (10 : Int32) τ).toInt = 0) = False := by rw [i10]; simp [d10.1, d10.2]
        simp only [j10, if_false]
        exact sgn 1 1 (by decide) d10.1 (by omega) (by omega) _ _ _
      have j10 : ((F_X11_is a (10 : Int32) τ).toInt = 0) = True := by rw [i10]; simp [d10]
      simp only [j10, if_true]
      by_cases d15 : s.1 = 0 ∧ T.1 s.2.2.1 = 29
      · have j15 : ((F_X11_is a (15 : Int32) τ).toInt = 0) = False := by rw [i15]; simp [d15.1, d15.2]
        simp only [j15, if_false]
        exact sgn 1 1 (by decide) d15.1 (by omega) (by omega) _ _ _
      have j15 : ((F_X11_is a (15 : Int32) τ).toInt = 0) = True := by rw [i15]; simp [d15]
      simp only [j15, if_true]
      exact none () (fun z => by omega) (fun z1 z2 => absurd ⟨z1, z2⟩ d7)
end ZW3
