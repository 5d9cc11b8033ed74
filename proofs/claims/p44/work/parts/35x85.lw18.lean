/-! ONE TELLING OF THE REFERENCE: laws -/
/-- what the side b being told holds of laws -/
def zXl (a : Nat) (Y : Nat → Nat) (R : Nat → Nat → Option Nat) (b : Nat) (τ : zS) (s : zA) (g : zGl) : Prop := s.1 = 0 → (τ.1 a 19).toInt = b ∧ ∃ nb nc : Nat, zLs a R nb nc τ ∧ (420 * b ≤ nc ∧ 130 * b ≤ nb) ∧ nc ≤ 420 * b + s.2.2.1 ∧ 4 * nb ≤ 520 * b + s.2.2.1 ∧ ∀ k, k < 5 → zLm Y (420 * b) (130 * b) τ nc nb (5 * b + k) (g k)
section YT
variable {a k q v nm nO m nb nc b : Nat} {Y : Nat → Nat} {T : zTn} {R : Nat → Nat → Option Nat} {τ τ' : zS} {s s' : zA} {g : zGl}
theorem zLm.cg {N N' M M' w cl bl : Nat} {x : Option (List zBr)} (h : zLm Y cl bl τ N M w x) (hN : N ≤ N') (hM : M ≤ M') (e : ∀ i, cl ≤ i → i < N → τ'.1 (Y 39) i = τ.1 (Y 39) i ∧ τ'.1 (Y 40) i = τ.1 (Y 40) i) (r : ∀ j i, 33 ≤ j → j ≤ 37 → bl ≤ i → i < M → τ'.1 (Y j) i = τ.1 (Y j) i) (r30 : τ'.1 (Y 30) w = τ.1 (Y 30) w) (r31 : τ'.1 (Y 31) w = τ.1 (Y 31) w) : zLm Y cl bl τ' N' M' w x := by
  cases x with
  | none =>
    show (τ'.1 (Y 30) w).toInt = (τ'.1 (Y 31) w).toInt
    rw [r30, r31]
    exact h
  | some B =>
    obtain ⟨b, h1, h2, h3, h4, h5⟩ := h
    exact ⟨b, by rw [r30]; exact h1, by rw [r31]; exact h2, by omega, h4, zBz_cg hN e B b (fun j i j1 j2 i1 i2 => r j i j1 j2 (by omega) (by omega)) h5⟩
/-- a telling that is no law -/
theorem zXl.st (h : zXl a Y R b τ s g) (hs : s'.1 = 0 → s.1 = 0 ∧ s.2.2.1 ≤ s'.2.2.1) (f : s'.1 = 0 → τ'.2.2 = τ.2.2 ∧ (∀ i, (i = 19 ∨ i = 32 ∨ i = 38) → τ'.1 a i = τ.1 a i) ∧ ∀ j, (j = 30 ∨ j = 31 ∨ (33 ≤ j ∧ j ≤ 37) ∨ j = 39 ∨ j = 40) → τ'.1 (Y j) = τ.1 (Y j)) : zXl a Y R b τ' s' g := fun z => by
  obtain ⟨z1, z2⟩ := hs z
  obtain ⟨f1, f2, f3⟩ := f z
  obtain ⟨h19, nb, nc, ⟨l1, l2, l3⟩, h0, h1, h2, h3⟩ := h z1
  exact ⟨by rw [f2 19 (by omega)]; exact h19, nb, nc, ⟨f1.trans l1, by rw [f2 32 (by omega)]; exact l2, by rw [f2 38 (by omega)]; exact l3⟩, h0, by omega, by omega, fun k hk => (h3 k hk).cg (Nat.le_refl _) (Nat.le_refl _) (fun i _ _ => ⟨by rw [f3 39 (by omega)], by rw [f3 40 (by omega)]⟩) (fun j i j1 j2 _ _ => by rw [f3 j (by omega)]) (by rw [f3 30 (by omega)]) (by rw [f3 31 (by omega)])⟩
/-- a law told -/
theorem zXl.law (hd : zWd a k q v nm nO) (hT : zTm T m) (hK : zTK T m) (hY : zYz Y a R) (hb : b ≤ 1) (h : zXl a Y R b τ s g) (hx : zXo a k q v nm nO m T τ s) (hs : s.1 = 0) {p : Int32} {w : Nat} (hp : p.toInt = w) (hw : w < 5) (ht : T.1 s.2.2.1 = 2 + (w : Int)) (hz : (aTake T 24 (aLaw T w s)).1 = 0) : zXl a Y R b (F_X11_tellLaw a p (F_X11_goesOn a τ)) (aTake T 24 (aLaw T w s)) (fun k => if k = w then some (aLb T 10 0 (aTake T 25 (aTake T (2 + (w : Int)) s))) else g k) := fun _ => by
  obtain ⟨h19, nb, nc, hl, h0, h1, h2, h3⟩ := h hs
  have rk := hK.2.1
  have pm := (hx.1.2.2.2.2 hs).1
  have e5 : (5 : Int32).toInt = 5 := by decide
  have zl := aTake_z hz
  have tz := aTake_i hz
  unfold aLaw at zl tz hz ⊢
  obtain ⟨s1, hs1⟩ : ∃ s1, s1 = aTake T (2 + (w : Int)) s := ⟨_, rfl⟩
  obtain ⟨s2, hs2⟩ : ∃ s2, s2 = aTake T 25 s1 := ⟨_, rfl⟩
  rw [← hs1, ← hs2] at zl tz hz ⊢
  have z2 : s2.1 = 0 := aLw_z zl
  have z1 : s1.1 = 0 := by rw [hs2] at z2; exact aTake_z z2
  have t1 := aTake_i (by rw [← hs1]; exact z1 : (aTake T (2 + (w : Int)) s).1 = 0)
  have t2 := aTake_i (by rw [← hs2]; exact z2 : (aTake T 25 s1).1 = 0)
  rw [← hs1] at t1
  rw [← hs2] at t2
  have u1 := xOn hd hT hK hx (2 + (w : Int)) (fun _ => ht) (by omega)
  rw [← hs1] at u1
  obtain ⟨v1, v2, v3⟩ := ySt hY hl yGo0
  obtain ⟨τ1, ht1⟩ : ∃ t, t = F_X11_goesOn a τ := ⟨_, rfl⟩
  rw [← ht1] at u1 v1 v2 v3 ⊢
  have u2 := xMust hd hT hK u1 5 25 (by decide) (by decide)
  rw [← hs2] at u2
  obtain ⟨w1, w2, w3⟩ := ySt hY v1 (yMu0 5)
  obtain ⟨τ2, ht2⟩ : ∃ t, t = F_X11_must a 5 τ1 := ⟨_, rfl⟩
  rw [← ht2] at u2 w1 w2 w3
  obtain ⟨τ', nc', j1, j2, j3, j4, j5, j6, hnc⟩ := yLaw_l (cl := 420 * b) (v4 := τ2.1 a 32) (p1 := p) hd hT hK hY 10000 0 0 τ2 s2 nb nc (by decide) (by omega) (by omega) u2 w1 h0.1 (by omega) (by omega) 10 (by omega) hz
  have e0 : ((0 : Nat) : Int) = 0 := rfl
  rw [e0] at j2 j4 j5 j6
  have E : F_X11_tellLaw a p τ1 = (zu (zu τ'.1 (Y 30) ((5 : Int32) * τ'.1 a 19 + p).toNatClampNeg (τ2.1 a 32)) (Y 31) ((5 : Int32) * τ'.1 a 19 + p).toNatClampNeg (τ'.1 a 32), τ'.2.1, τ'.2.2) := by
    unfold F_X11_tellLaw
    simp only [zlt]
    rw [← ht2]
    exact j1
  have pre : zPx a Y nb nc τ τ' := (v2.tr w2 (Nat.le_refl _) (Nat.le_refl _)).tr j3 (Nat.le_refl _) (Nat.le_refl _)
  have n19 : (τ'.1 a 19).toInt = b := by rw [pre.2.2.2]; exact h19
  have x1 : ((5 : Int32) * τ'.1 a 19).toInt = 5 * (b : Int) := by rw [zb_mul (by rw [e5, n19]; omega) (by rw [e5, n19]; omega), e5, n19]
  have x2 : ((5 : Int32) * τ'.1 a 19 + p).toInt = ((5 * b + w : Nat) : Int) := by rw [zb_add (by rw [x1]; omega) (by rw [x1]; omega), x1, hp]; omega
  have x3 : ((5 : Int32) * τ'.1 a 19 + p).toNatClampNeg = 5 * b + w := by rw [ztn, x2]; rfl
  rw [E, x3]
  have q30 : zQs 30 := yQ (by omega)
  have q31 : zQs 31 := yQ (by omega)
  have na30 := (hY.1 30 q30).2
  have na31 := (hY.1 31 q31).2
  have fa : ∀ i, zu (zu τ'.1 (Y 30) (5 * b + w) (τ2.1 a 32)) (Y 31) (5 * b + w) (τ'.1 a 32) a i = τ'.1 a i := fun i => by rw [zu_n _ _ _ (fun z => na31 z.symm), zu_n _ _ _ (fun z => na30 z.symm)]
  have fr : ∀ j, zQs j → j ≠ 30 → j ≠ 31 → zu (zu τ'.1 (Y 30) (5 * b + w) (τ2.1 a 32)) (Y 31) (5 * b + w) (τ'.1 a 32) (Y j) = τ'.1 (Y j) := fun j hj n0 n1 => by rw [zu_n _ _ _ (hY.2 j 31 hj q31 n1), zu_n _ _ _ (hY.2 j 30 hj q30 n0)]
  have f30 : ∀ i, zu (zu τ'.1 (Y 30) (5 * b + w) (τ2.1 a 32)) (Y 31) (5 * b + w) (τ'.1 a 32) (Y 30) i = if i = 5 * b + w then τ2.1 a 32 else τ'.1 (Y 30) i := fun i => by rw [zu_n _ _ _ (hY.2 30 31 q30 q31 (by decide)), zu_if]
  have f31 : ∀ i, zu (zu τ'.1 (Y 30) (5 * b + w) (τ2.1 a 32)) (Y 31) (5 * b + w) (τ'.1 a 32) (Y 31) i = if i = 5 * b + w then τ'.1 a 32 else τ'.1 (Y 31) i := fun i => by rw [zu_if, zu_n _ _ _ (fun z => hY.2 30 31 q30 q31 (by decide) z.symm)]
  refine ⟨by show (zu (zu τ'.1 (Y 30) _ _) (Y 31) _ _ a 19).toInt = _; rw [fa]; exact n19, nb + (aLb T 10 0 s2).length, nc', ⟨j2.1, by show (zu (zu τ'.1 (Y 30) _ _) (Y 31) _ _ a 32).toInt = _; rw [fa]; exact j2.2.1, by show (zu (zu τ'.1 (Y 30) _ _) (Y 31) _ _ a 38).toInt = _; rw [fa]; exact j2.2.2⟩, by omega, by rw [tz.2.2.1]; omega, by rw [tz.2.2.1]; omega, fun k hk => ?_⟩
  have gc : ∀ i, 420 * b ≤ i → i < nc' → zu (zu τ'.1 (Y 30) (5 * b + w) (τ2.1 a 32)) (Y 31) (5 * b + w) (τ'.1 a 32) (Y 39) i = τ'.1 (Y 39) i ∧ zu (zu τ'.1 (Y 30) (5 * b + w) (τ2.1 a 32)) (Y 31) (5 * b + w) (τ'.1 a 32) (Y 40) i = τ'.1 (Y 40) i := fun i _ _ => ⟨by rw [fr 39 (yQ (by omega)) (by decide) (by decide)], by rw [fr 40 (yQ (by omega)) (by decide) (by decide)]⟩
  have gr : ∀ j i, 33 ≤ j → j ≤ 37 → zu (zu τ'.1 (Y 30) (5 * b + w) (τ2.1 a 32)) (Y 31) (5 * b + w) (τ'.1 a 32) (Y j) i = τ'.1 (Y j) i := fun j i j1 j2 => by rw [fr j (yQ (by omega)) (by omega) (by omega)]
  show zLm Y (420 * b) (130 * b) (zu (zu τ'.1 (Y 30) (5 * b + w) (τ2.1 a 32)) (Y 31) (5 * b + w) (τ'.1 a 32), τ'.2.1, τ'.2.2) nc' (nb + (aLb T 10 0 s2).length) (5 * b + k) (if k = w then some (aLb T 10 0 s2) else g k)
  by_cases e : k = w
  · rw [if_pos e]
    refine ⟨nb, ?_, ?_, Nat.le_refl _, h0.2, zBz_cg (Nat.le_refl _) gc _ nb (fun j i j1 j2 _ _ => gr j i j1 j2) j4⟩
    · show (zu (zu τ'.1 (Y 30) _ _) (Y 31) _ _ (Y 30) (5 * b + k)).toInt = _
      rw [f30, if_pos (by omega)]
      exact w1.2.1
    · show (zu (zu τ'.1 (Y 30) _ _) (Y 31) _ _ (Y 31) (5 * b + k)).toInt = _
      rw [f31, if_pos (by omega), j2.2.1]
      omega
  · rw [if_neg e]
    refine (h3 k hk).cg hnc (by omega) (fun i i0 hi => ⟨(gc i i0 (by omega)).1.trans (pre.1 i hi).1, (gc i i0 (by omega)).2.trans (pre.1 i hi).2⟩) (fun j i j1 j2 _ hi => (gr j i j1 j2).trans (pre.2.1 j i j1 j2 hi)) ?_ ?_
    · show zu (zu τ'.1 (Y 30) _ _) (Y 31) _ _ (Y 30) (5 * b + k) = _
      rw [f30, if_neg (by omega), pre.2.2.1 30 (by omega)]
    · show zu (zu τ'.1 (Y 30) _ _) (Y 31) _ _ (Y 31) (5 * b + k) = _
      rw [f31, if_neg (by omega), pre.2.2.1 31 (by omega)]
end YT
