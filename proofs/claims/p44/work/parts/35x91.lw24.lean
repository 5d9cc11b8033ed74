/-! BOTH TEXTS TELL ALIKE: laws, rains, tales, storms, the prize, the seed -/
/-- told side: what the class holds and what the reference holds on side B -/
def zLw (x0 m0 : Nat) (σ1 σ2 : zS) : Prop := ∃ (td B K : Nat) (g : zGl), (σ1.2.2 x0 10).getD 0 = td ∧ (σ2.1 m0 18).toInt.toNat = B ∧ ((σ1.1 td 8).toInt = K ∧ K ≤ 420) ∧ (∀ k, k < 5 → zLc ((σ1.2.2 td 6).getD 0) ((σ1.2.2 td 7).getD 0) ((σ1.2.2 td 9).getD 0) σ1 K k (g k) ∧ zLm (mR σ2 m0) (420 * B) (130 * B) σ2 (420 * B + 420) (130 * B + 130) (5 * B + k) (g k)) ∧ (∀ j p : Nat, 3 ≤ j → j ≤ 5 → (p : Int) < zM m0 σ2 → σ1.1 ((σ1.2.2 td j).getD 0) p = σ2.1 (mR σ2 m0 (20 + j)) (12 * B + p)) ∧ (∀ j : Nat, j < 4 → σ1.1 td (10 + j) = σ2.1 (mR σ2 m0 (26 + j)) B) ∧ 0 ≤ (σ1.1 td 11).toInt ∧ (σ1.1 td 11).toInt ≤ 99
section LWR
variable {κ : Int} {L1 : List Nat} {kd1 : Nat → Nat} {L2 : List Nat} {kd2 : Nat → Nat} {σ1 σ2 τ1 τ2 : zS} {m0 x0 : Nat} {V : zWh} {ps pc sl td tt : Nat}
theorem zLc.cg {A6 A7 A9 K v : Nat} {g : Option (List zBr)} (h : zLc A6 A7 A9 σ1 K v g) (e6 : τ1.1 A6 = σ1.1 A6) (e7 : τ1.1 A7 = σ1.1 A7) (e9 : τ1.1 A9 = σ1.1 A9) : zLc A6 A7 A9 τ1 K v g := by
  obtain ⟨ho, i, h1, h2, h3⟩ := h
  exact ⟨ho, i, by rw [e9]; exact h1, zHo_cg _ i (fun j _ _ => ⟨by rw [e6], by rw [e7]⟩) h2, h3⟩
theorem zLm.up {Y : Nat → Nat} {cl bl N N' M M' w : Nat} {x : Option (List zBr)} (h : zLm Y cl bl σ2 N M w x) (hN : N ≤ N') (hM : M ≤ M') : zLm Y cl bl σ2 N' M' w x := h.cg hN hM (fun _ _ _ => ⟨rfl, rfl⟩) (fun _ _ _ _ _ _ => rfl) rfl rfl
/-- from the walk: the live side's laws kept -/
theorem zLm.lk {B k : Nat} {x : Option (List zBr)} (hk : zLkp m0 σ2 τ2) (er : ∀ s, mR τ2 m0 s = mR σ2 m0 s) (hB : (σ2.1 m0 18).toInt = B) (k5 : k < 5) (h : zLm (mR σ2 m0) (420 * B) (130 * B) σ2 (420 * B + 420) (130 * B + 130) (5 * B + k) x) : zLm (mR σ2 m0) (420 * B) (130 * B) τ2 (420 * B + 420) (130 * B + 130) (5 * B + k) x := by
  have er' : ∀ s, (τ2.2.2 m0 s).getD 0 = (σ2.2.2 m0 s).getD 0 := er
  obtain ⟨k1, k2, k3⟩ := hk
  rw [hB] at k1 k2 k3
  have z : ∀ (s : Nat) (i : Nat) (c : Int), c = i → zp m0 τ2 s c = zp m0 σ2 s c → τ2.1 (mR σ2 m0 s) i = σ2.1 (mR σ2 m0 s) i := fun s i c hc e => by
    unfold zp at e
    rw [er' s, hc] at e
    exact Int32.toInt_inj.mp e
  refine h.cg (Nat.le_refl _) (Nat.le_refl _) (fun i i1 i2 => ?_) (fun j i j1 j2 i1 i2 => ?_) ?_ ?_
  · have q := k1 (i : Int) (by omega) (by omega)
    exact ⟨z 39 i i rfl q.1, z 40 i i rfl q.2⟩
  · have q := k2 (i : Int) (by omega) (by omega)
    rcases (show j = 33 ∨ j = 34 ∨ j = 35 ∨ j = 36 ∨ j = 37 by omega) with rfl | rfl | rfl | rfl | rfl
    · exact z 33 i i rfl q.1
    · exact z 34 i i rfl q.2.1
    · exact z 35 i i rfl q.2.2.1
    · exact z 36 i i rfl q.2.2.2.1
    · exact z 37 i i rfl q.2.2.2.2
  · exact z 30 (5 * B + k) (5 * (B : Int) + (k : Int)) (by omega) (k3 k (by omega) (by omega)).1
  · exact z 31 (5 * B + k) (5 * (B : Int) + (k : Int)) (by omega) (k3 k (by omega) (by omega)).2
end LWR
theorem gRun_2 {γ δ : Type} {T : zTn} (st1 : zA → γ → γ) (st2 : zA → δ → δ) : ∀ (l : Nat) (s : zA) (g : γ × δ), gRun T (fun s (g : γ × δ) => (st1 s g.1, st2 s g.2)) l s g = (gRun T st1 l s g.1, gRun T st2 l s g.2) := by
  intro l
  induction l with
  | zero => intro s g; rfl
  | succ l ih =>
    intro s g
    rw [gRun, gRun, gRun]
    by_cases c : s.1 = 0
    · rw [if_neg (zne c), if_neg (zne c), if_neg (zne c)]
      by_cases c1 : T.1 s.2.2.1 = 33
      · rw [if_pos c1, if_pos c1, if_pos c1]
      · rw [if_neg c1, if_neg c1, if_neg c1]
        exact ih _ _
    · rw [if_pos c, if_pos c, if_pos c]
/-- numbers as no text tells them -/
def nS : zNf := fun j => if j = 2 then 1 else 0
section NUMS
variable {P tt : Nat} {σ τ τ' : zS}
theorem cClrN : ∀ (n : Nat) (x : Int32) (v : Nat) (τ : zS), x.toInt = v → v ≤ 5 → 5 - v < n → ∀ j, j < 4 → ((F_X9_clear_12 tt n x τ).1 tt (10 + j)).toInt = nS j := by
  intro n
  induction n with
  | zero => intro x v τ _ _ h; exact absurd h (by omega)
  | succ n ih =>
    intro x v τ hx hv hn
    by_cases c : v < 5
    · obtain ⟨k, y, q1, q2, q3⟩ := cClr1 (n := n) (tt := tt) (τ := τ) hx c rfl
      rw [q3]
      exact ih _ (v + 1) _ (zp1 hx (by omega)) (by omega) (by omega)
    · have e5 : (5 : Int32).toInt = 5 := by decide
      have nx : ¬ x.toInt < 5 := by omega
      rw [F_X9_clear_12]
      simp only [zlt, e5]
      rw [if_neg nx]
      intro j hj
      rcases (show j = 0 ∨ j = 1 ∨ j = 2 ∨ j = 3 by omega) with rfl | rfl | rfl | rfl
      · show (zu (zu (zu (zu τ.1 tt 10 0) tt 11 0) tt 12 1) tt 13 0 tt 10).toInt = _
        rw [zu_j _ _ _ _ _ (by decide), zu_j _ _ _ _ _ (by decide), zu_j _ _ _ _ _ (by decide), zu_s]
        decide
      · show (zu (zu (zu (zu τ.1 tt 10 0) tt 11 0) tt 12 1) tt 13 0 tt 11).toInt = _
        rw [zu_j _ _ _ _ _ (by decide), zu_j _ _ _ _ _ (by decide), zu_s]
        decide
      · show (zu (zu (zu (zu τ.1 tt 10 0) tt 11 0) tt 12 1) tt 13 0 tt 12).toInt = _
        rw [zu_j _ _ _ _ _ (by decide), zu_s]
        decide
      · show (zu (zu (zu (zu τ.1 tt 10 0) tt 11 0) tt 12 1) tt 13 0 tt 13).toInt = _
        rw [zu_s]
        decide
theorem zCn.st0 (g : zFi (fun c _ => c = P) (F_X9_clear tt τ) τ') (hP : tt ≠ P) : zCn tt τ' aZ nS := fun _ j hj => by
  rw [g.2 tt _ hP]
  unfold F_X9_clear
  simp only [zlt]
  exact cClrN 10000 0 0 _ (by decide) (by omega) (by omega) j hj
end NUMS
section OTHER
variable {a k q v nm nO m b : Nat} {Y : Nat → Nat} {T : zTn} {R : Nat → Nat → Option Nat} {τ τ' t : zS} {s s' : zA} {g : zGl}
/-- what a telling writes: numbers on its own side alone -/
def aPn (Y : Nat → Nat) (a b : Nat) : Nat → Nat → Prop := fun c i => (c = a ∧ i ≠ 19) ∨ (∃ j, zQs j ∧ (j < 26 ∨ 29 < j) ∧ c = Y j) ∨ ∃ j, zQs j ∧ 26 ≤ j ∧ j ≤ 29 ∧ c = Y j ∧ i = b
theorem aPn.o {i : Nat} (h : i ≠ 19) : aPn Y a b a i := Or.inl ⟨rfl, h⟩
theorem aPn.r (hY : zYz Y a R) {j : Nat} (h : zQs j) (h2 : j < 26 ∨ 29 < j) (i : Nat) : aPn Y a b ((R a j).getD 0) i := Or.inr (Or.inl ⟨j, h, h2, (hY.1 j h).1⟩)
theorem aPn.s19 (hY : zYz Y a R) (h : zFi (aPn Y a b) τ τ') : τ'.1 a 19 = τ.1 a 19 := h.2 a 19 (by
  rintro (z | ⟨j, z1, -, z⟩ | ⟨j, z1, -, -, z, -⟩)
  · exact z.2 rfl
  · exact (hY.1 j z1).2 z.symm
  · exact (hY.1 j z1).2 z.symm)
theorem aPn.b1 (hY : zYz Y a R) (hR : τ.2.2 = R) (h19 : (τ.1 a 19).toInt = b) (h : zFi (aPn Y a b) τ τ') {j : Nat} (hj : zQs j) (h26 : 26 ≤ j) (h29 : j ≤ 29) (lo hi : Int32) : zFi (aPn Y a b) τ (mB1 a j lo hi τ') := by
  have e : (τ'.2.2 a j).getD 0 = Y j := by rw [h.1, hR]; exact (hY.1 j hj).1
  have f : zFj (aPn Y a b) τ (F_X11_bounded a lo hi τ') := fi_X11_bounded h (aPn.o (by decide)) (aPn.o (by decide)) (aPn.o (by decide)) (aPn.o (by decide)) (aPn.o (by decide))
  have n : (τ'.1 a 19).toNatClampNeg = b := by rw [aPn.s19 hY h, ztn, h19]; rfl
  unfold mB1
  rw [e, n]
  exact zFi.w (s := (F_X11_bounded a lo hi τ').2) f (Or.inr (Or.inr ⟨j, hj, h26, h29, rfl, rfl⟩))
theorem xTell1 (hd : zWd a k q v nm nO) (hT : zTm T m) (hK : zTK T m) (hY : zYz Y a R) (hR : τ.2.2 = R) (h19 : (τ.1 a 19).toInt = b) (hx : zXo a k q v nm nO m T τ s) (hs : s.1 = 0) : zFi (aPn Y a b) τ (F_X11_tellOne a τ) := by
  obtain ⟨D1, D2, D3, D4, D5, D6, D7, D8, D9⟩ := xDisp hd hT hK hx hs
  have rg := hT.2.1 _ (hx.1.2.2.2.2 hs).1
  have o : ∀ i, i ≠ 19 → aPn Y a b a i := fun i hi => aPn.o hi
  have qq : ∀ l, ((21 ≤ l ∧ l ≤ 31) ∨ l = 33 ∨ l = 34 ∨ l = 35 ∨ l = 36 ∨ l = 37 ∨ l = 39 ∨ l = 40 ∨ l = 43) → zQs l := fun l hl => by unfold zQs; omega
  have r : ∀ l, zQs l → (l < 26 ∨ 29 < l) → ∀ i, aPn Y a b ((τ.2.2 a l).getD 0) i := fun l hl h26 i => by rw [hR]; exact aPn.r hY hl h26 i
  have on : zFi (aPn Y a b) τ (F_X11_goesOn a τ) := fi_X11_goesOn zFi.id (o _ (by decide)) (o _ (by decide)) (o _ (by decide))
  have fa : ∀ p : Int32, zFi (aPn Y a b) τ (F_X11_fail a p τ) := fun p => fi_X11_fail zFi.id (o _ (by decide)) (o _ (by decide))
  have mu : ∀ (p : Int32) t, zFi (aPn Y a b) τ t → zFi (aPn Y a b) τ (F_X11_must a p t) := fun p t h => fi_X11_must h (o _ (by decide)) (o _ (by decide)) (o _ (by decide))
  by_cases c0 : T.1 s.2.2.1 = 0
  · by_cases cm : s.2.2.2.2.2.1 = 0
    · rw [D1 c0 cm]
      exact fi_X11_tellMouth on (o _ (by decide)) (o _ (by decide)) (o _ (by decide)) (o _ (by decide)) (o _ (by decide)) (o _ (by decide)) (r 22 (qq _ (by decide)) (by decide)) (r 23 (qq _ (by decide)) (by decide)) (r 24 (qq _ (by decide)) (by decide)) (r 25 (qq _ (by decide)) (by decide)) (r 21 (qq _ (by decide)) (by decide))
    · rw [D2 c0 cm]
      exact fa 2
  · by_cases c1 : T.1 s.2.2.1 = 1
    · by_cases cm : s.2.2.2.2.2.2.1 = 11
      · rw [D4 c1 cm]
        exact fa 2
      · rw [D3 c1 cm]
        exact fi_X11_tellPlace on (o _ (by decide)) (o _ (by decide)) (o _ (by decide)) (o _ (by decide)) (o _ (by decide)) (r 22 (qq _ (by decide)) (by decide)) (r 23 (qq _ (by decide)) (by decide)) (r 24 (qq _ (by decide)) (by decide)) (r 25 (qq _ (by decide)) (by decide)) (o _ (by decide)) (r 21 (qq _ (by decide)) (by decide))
    · by_cases c6 : T.1 s.2.2.1 ≤ 6
      · obtain ⟨p, -, e⟩ := D5 (by omega) c6
        rw [e]
        exact fi_X11_tellLaw on (o _ (by decide)) (o _ (by decide)) (o _ (by decide)) (r 33 (qq _ (by decide)) (by decide)) (r 36 (qq _ (by decide)) (by decide)) (o _ (by decide)) (r 39 (qq _ (by decide)) (by decide)) (r 40 (qq _ (by decide)) (by decide)) (o _ (by decide)) (r 43 (qq _ (by decide)) (by decide)) (o _ (by decide)) (r 37 (qq _ (by decide)) (by decide)) (o _ (by decide)) (r 30 (qq _ (by decide)) (by decide)) (r 31 (qq _ (by decide)) (by decide)) (r 34 (qq _ (by decide)) (by decide)) (r 35 (qq _ (by decide)) (by decide))
      · by_cases c7 : T.1 s.2.2.1 = 7
        · rw [D6 c7]
          exact mu _ _ (aPn.b1 hY hR h19 (aPn.b1 hY hR h19 on (qq 26 (by decide)) (by decide) (by decide) _ _) (qq 27 (by decide)) (by decide) (by decide) _ _)
        · by_cases c8 : T.1 s.2.2.1 = 8
          · rw [D7 c8]
            exact mu _ _ (aPn.b1 hY hR h19 on (qq 28 (by decide)) (by decide) (by decide) _ _)
          · by_cases c9 : T.1 s.2.2.1 = 9
            · rw [D8 c9]
              exact mu _ _ (aPn.b1 hY hR h19 on (qq 29 (by decide)) (by decide) (by decide) _ _)
            · rw [D9 (by omega)]
              exact fa 1
/-- the other side's numbers -/
def zNo (Y : Nat → Nat) (b : Nat) (t τ : zS) : Prop := ∀ j, 26 ≤ j → j ≤ 29 → ∀ i, i ≠ b → τ.1 (Y j) i = t.1 (Y j) i
theorem zNo.fi (hY : zYz Y a R) (h : zNo Y b t τ) (f : zFi (aPn Y a b) τ τ') : zNo Y b t τ' := fun j j1 j2 i hi => by
  have qj : zQs j := by unfold zQs; omega
  rw [f.2 (Y j) i (by
    rintro (z | ⟨l, z1, z2, z⟩ | ⟨l, z1, z2, z3, z4, z5⟩)
    · exact (hY.1 j qj).2 z.1
    · exact hY.2 j l qj z1 (by omega) z
    · exact hi z5)]
  exact h j j1 j2 i hi
theorem zNo.st0 (hY : zYz Y a t.2.2) (hb1 : b ≤ 1) (h18 : (t.1 a 18).toInt = 1 - (b : Int)) : zNo Y b t (zRi a t) := by
  have e1 : (1 : Int32).toInt = 1 := by decide
  have q : ∀ j, 21 ≤ j → j ≤ 31 → zQs j := fun j h1 h2 => by unfold zQs; omega
  obtain ⟨p, f, x, y, hp, hf, E⟩ := zRi_e (a := a) (t := t)
  have hpb : p.toInt = b := by rw [hp, zb_sub (by rw [e1, h18]; omega) (by rw [e1, h18]; omega), e1, h18]; omega
  have en : p.toNatClampNeg = b := by rw [ztn, hpb]; rfl
  have ef : ∀ c i, c ≠ a → f c i = t.1 c i := fun c i hc => by rw [hf, zu_n _ _ _ hc, zu_n _ _ _ hc, zu_n _ _ _ hc, zu_n _ _ _ hc, zu_n _ _ _ hc]
  have gY : ∀ j, 21 ≤ j → j ≤ 31 → (t.2.2 a j).getD 0 = Y j := fun j h1 h2 => (hY.1 j (q j h1 h2)).1
  intro j j1 j2 i hi
  have na := (hY.1 j (q j (by omega) (by omega))).2
  have d : ∀ l, 21 ≤ l → l ≤ 31 → l ≠ j → ¬ Y j = Y l := fun l l1 l2 n => hY.2 j l (q j (by omega) (by omega)) (q l l1 l2) (fun e => n e.symm)
  rw [E]
  show zu (zu (zu (zu (F_X11_plain a p (f, t.2.1, t.2.2)).1 a 32 x) a 38 y) a 41 0) a 42 0 (Y j) i = _
  rw [zu_n _ _ _ na, zu_n _ _ _ na, zu_n _ _ _ na, zu_n _ _ _ na]
  have f37 : ∀ u : zS, u.2.2 = t.2.2 → (F_X11_plain_37 a p 10000 0 u).1 (Y j) i = u.1 (Y j) i := fun u hu => by
    have z : zFi (fun c _ => c = Y 30 ∨ c = Y 31) u (F_X11_plain_37 a p 10000 0 u) := fi_X11_plain_37 (fun _ => Or.inl (by rw [hu]; exact gY 30 (by decide) (by decide))) (fun _ => Or.inr (by rw [hu]; exact gY 31 (by decide) (by decide))) _ _ _ zFi.id
    exact z.2 _ _ (by
      rintro (w | w)
      · exact d 30 (by decide) (by decide) (by omega) w
      · exact d 31 (by decide) (by decide) (by omega) w)
  unfold F_X11_plain
  simp only [zlt, en, gY 21 (by decide) (by decide), gY 26 (by decide) (by decide), gY 27 (by decide) (by decide), gY 28 (by decide) (by decide), gY 29 (by decide) (by decide)]
  rw [f37 (zu (zu (zu (zu (zu f (Y 21) b 0) (Y 26) b 0) (Y 27) b 0) (Y 28) b 1) (Y 29) b 0, t.2.1, t.2.2) rfl]
  have w : ∀ (h : Nat → Nat → Int32) (l : Nat) (z : Int32), zu h (Y l) b z (Y j) i = h (Y j) i := fun h l z => by
    by_cases e : Y j = Y l
    · rw [e, zu_j _ _ _ _ _ (fun z => hi z.symm)]
    · rw [zu_n _ _ _ e]
  show zu (zu (zu (zu (zu f (Y 21) b 0) (Y 26) b 0) (Y 27) b 0) (Y 28) b 1) (Y 29) b 0 (Y j) i = _
  rw [w, w, w, w, w]
  exact ef _ _ na
end OTHER
