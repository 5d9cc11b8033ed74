/-! A MONTH ON BOTH SIDES -/
/-- what stands while months go by -/
def zSd (q Y : Nat → Nat) (a b N : Nat) (g : zGl) (u l : Nat → Nat) (s1 s2 : zS) : Prop :=
  (zQr q s1.2.2 ∧ (0 < N → zL5 q s1 g) ∧ (s1.1 (q 1) 0).toInt = N ∧ N ≤ 12 ∧ zTr N u ∧ (∀ c, 1 ≤ c → c < N → (s1.1 (q 19) c).toInt = u c) ∧ zLnP N u (q 16) l s1 ∧ ∀ x : Int32, (F_X6_isSource (q 1) x s1).1.toInt = 0 ↔ ¬ (0 ≤ x.toInt ∧ Src N u x.toInt.toNat)) ∧
  (zYm Y a s2.2.2 ∧ (s2.1 a 18).toInt = b ∧ b ≤ 1 ∧ (0 < N → zW5 Y b s2 g) ∧ (F_X11_many a s2).toInt = N ∧ (∀ c, 1 ≤ c → c < N → (s2.1 (Y 49) c).toInt = u c) ∧ (∀ c, c < N → (s2.1 (Y 53) c).toInt = (dep N u c - 1 : Nat)) ∧ ∀ x : Int32, (F_X11_isSource a x s2).toInt = 0 ↔ ¬ (0 ≤ x.toInt ∧ Src N u x.toInt.toNat)) ∧
  (∀ p, p < N → s1.1 (q 11) p = s2.1 (Y 24) (12 * b + p) ∧ s1.1 (q 17) p = s2.1 (Y 52) p ∧ s1.1 (q 12) p = s2.1 (Y 25) (12 * b + p) ∧ s1.1 (q 10) p = s2.1 (Y 23) (12 * b + p) ∧ s1.1 (q 18) p = F_X11_bits (s2.1 (Y 54) p) - 1) ∧
  (∀ c, 1 ≤ c → c < N → dmC (s1.1 (q 4) 3) c = dmM Y s2 c) ∧ (0 < N → s1.1 (q 3) 12 = s2.1 (Y 28) b)
/-- what goes by, alike -/
def zDn (q Y : Nat → Nat) (N : Nat) (s1 s2 : zS) : Prop := (∀ p, p < N → s1.1 (q 20) p = s2.1 (Y 49) (24 + p) ∧ s1.1 (q 21) p = s2.1 (Y 49) (36 + p) ∧ 0 ≤ (s1.1 (q 20) p).toInt ∧ (s1.1 (q 20) p).toInt ≤ 999) ∧ s1.1 (q 4) 4 = s2.1 (Y 49) 48 ∧ s1.1 (q 4) 5 = s2.1 (Y 49) 49 ∧ 0 ≤ (s1.1 (q 4) 5).toInt ∧ (s1.1 (q 4) 5).toInt ≤ 2
def zGw (q : Nat → Nat) : Nat → Nat → Prop := fun c j => zRw q c j ∨ c = q 20 ∨ c = q 21 ∨ (c = q 4 ∧ j = 4)
def zHw (Y : Nat → Nat) (a : Nat) : Nat → Nat → Prop := fun c j => zVw Y a c j ∨ (c = a ∧ j = 56) ∨ (c = Y 49 ∧ 24 ≤ j ∧ j ≤ 48)
section MONTH
variable {q Y : Nat → Nat} {a b N : Nat} {R : Nat → Nat → Option Nat} {s1 s2 t1 t2 τ : zS} {g : zGl} {m : Int32} {u l : Nat → Nat}
theorem zGw.r (h : zQr q R) (f : zFr (zGw q) s1 t1) {i : Nat} (hi : i < 22) (n : i < 4 ∨ (9 < i ∧ i < 20)) : t1.1 (q i) = s1.1 (q i) := funext (fun j => f.2 (q i) j (by
  rintro ((z | z | z | z | z) | z | z | z)
  · exact h.n hi (by decide) (by omega) z
  · exact h.n hi (by decide) (by omega) z
  · exact h.n hi (by decide) (by omega) z
  · exact h.n hi (by decide) (by omega) z
  · exact h.n hi (by decide) (by omega) z
  · exact h.n hi (by decide) (by omega) z
  · exact h.n hi (by decide) (by omega) z
  · exact h.n hi (by decide) (by omega) z.1))
theorem zGw.c (h : zQr q R) (f : zFr (zGw q) s1 t1) {j : Nat} (n : j ≠ 4) : t1.1 (q 4) j = s1.1 (q 4) j := f.2 (q 4) j (by
  rintro ((z | z | z | z | z) | z | z | z)
  · exact h.n (by decide) (by decide) (by decide) z
  · exact h.n (by decide) (by decide) (by decide) z
  · exact h.n (by decide) (by decide) (by decide) z
  · exact h.n (by decide) (by decide) (by decide) z
  · exact h.n (by decide) (by decide) (by decide) z
  · exact h.n (by decide) (by decide) (by decide) z
  · exact h.n (by decide) (by decide) (by decide) z
  · exact n z.2)
theorem zHw.r (h : zYm Y a R) (f : zFr (zHw Y a) s1 t1) {j : Nat} (hj : zYj j) (n : j ≠ 45 ∧ j ≠ 46 ∧ j ≠ 55 ∧ j ≠ 49) : t1.1 (Y j) = s1.1 (Y j) := funext (fun i => f.2 (Y j) i (by
  rintro ((z | z | z | z) | z | z)
  · exact h.2 j 55 hj (by unfold zYj; omega) n.2.2.1 z
  · exact h.2 j 45 hj (by unfold zYj; omega) n.1 z
  · exact h.2 j 46 hj (by unfold zYj; omega) n.2.1 z
  · exact (h.1 j hj).2 z.1
  · exact (h.1 j hj).2 z.1
  · exact h.2 j 49 hj (by unfold zYj; omega) n.2.2.2 z.1))
theorem zHw.w (h : zYm Y a R) (f : zFr (zHw Y a) s1 t1) {i : Nat} (n : i < 24 ∨ 48 < i) : t1.1 (Y 49) i = s1.1 (Y 49) i := f.2 (Y 49) i (by
  rintro ((z | z | z | z) | z | z)
  · exact h.2 49 55 (by unfold zYj; omega) (by unfold zYj; omega) (by decide) z
  · exact h.2 49 45 (by unfold zYj; omega) (by unfold zYj; omega) (by decide) z
  · exact h.2 49 46 (by unfold zYj; omega) (by unfold zYj; omega) (by decide) z
  · exact (h.1 49 (by unfold zYj; omega)).2 z.1
  · exact (h.1 49 (by unfold zYj; omega)).2 z.1
  · omega)
theorem zHw.fl (h : zYm Y a R) (f : zFr (zHw Y a) s1 t1) {j : Nat} (n : j ≠ 47 ∧ j ≠ 56) : t1.1 a j = s1.1 a j := f.2 a j (by
  rintro ((z | z | z | z) | z | z)
  · exact (h.1 55 (by unfold zYj; omega)).2 z.symm
  · exact (h.1 45 (by unfold zYj; omega)).2 z.symm
  · exact (h.1 46 (by unfold zYj; omega)).2 z.symm
  · exact n.1 z.2
  · exact n.2 z.2
  · exact (h.1 49 (by unfold zYj; omega)).2 z.1.symm)
theorem zRw.up (f : zFr (zRw q) s1 t1) : zFr (zGw q) s1 t1 := zFr.up f (fun _ _ z => Or.inl z)
theorem zVw.up (f : zFr (zVw Y a) s1 t1) : zFr (zHw Y a) s1 t1 := zFr.up f (fun _ _ z => Or.inl z)
/-- what stands, stands on -/
theorem zSd.fr (S : zSd q Y a b N g u l s1 s2) (f1 : zFr (zGw q) s1 t1) (f2 : zFr (zHw Y a) s2 t2) : zSd q Y a b N g u l t1 t2 := by
  obtain ⟨⟨a1, a2, a3, a4, a5, a6, a7, a8⟩, ⟨b1, b2, b3, b4, b5, b6, b7, b8⟩, c, d, e⟩ := S
  have r1 := f1.rf
  have r2 := f2.rf
  have qj : ∀ j, (j = 21 ∨ j = 23 ∨ j = 24 ∨ j = 25 ∨ j = 28 ∨ j = 30 ∨ j = 31 ∨ (33 ≤ j ∧ j ≤ 37) ∨ j = 39 ∨ j = 40 ∨ j = 52 ∨ j = 53 ∨ j = 54) → t2.1 (Y j) = s2.1 (Y j) := fun j hj => zHw.r b1 f2 (by unfold zYj; omega) (by omega)
  have e18 : t2.1 a 18 = s2.1 a 18 := zHw.fl b1 f2 (by decide)
  have mM : F_X11_many a t2 = F_X11_many a s2 := by
    unfold F_X11_many
    simp only [zlt]
    rw [r2, (b1.1 21 (by unfold zYj; omega)).1, e18, qj 21 (by omega)]
  refine ⟨⟨by rw [r1]; exact a1, fun hN => (a2 hN).cg (congrFun (zGw.r a1 f1 (by decide) (by omega)) 8) (fun i hi => zGw.r a1 f1 (by omega) (by omega)), by rw [zGw.r a1 f1 (i := 1) (by decide) (by omega)]; exact a3, a4, a5, fun c c1 c2 => by rw [zGw.r a1 f1 (i := 19) (by decide) (by omega)]; exact a6 c c1 c2, a7.cg (zGw.r a1 f1 (by decide) (by omega)), fun x => ?_⟩, ⟨by rw [r2]; exact b1, by rw [e18]; exact b2, b3, fun hN => (b4 hN).cg (fun j hj => qj j (by omega)), by rw [mM]; exact b5, fun c c1 c2 => by rw [zHw.w b1 f2 (by omega)]; exact b6 c c1 c2, fun c hc => by rw [qj 53 (by omega)]; exact b7 c hc, fun x => ?_⟩, fun p hp => ?_, fun c c1 c2 => ?_, ?_⟩
  · have g18 : (s1.2.2 (q 1) 4).getD 0 = q 18 := a1.1.2.2.2.1.2.2
    have e : (F_X6_isSource (q 1) x t1).1 = (F_X6_isSource (q 1) x s1).1 := by
      have x0 : t1.1 (q 1) 0 = s1.1 (q 1) 0 := congrFun (zGw.r a1 f1 (by decide) (by omega)) 0
      have x18 : t1.1 (q 18) = s1.1 (q 18) := zGw.r a1 f1 (by decide) (by omega)
      unfold F_X6_isSource
      simp only [zlt, r1, g18, x0, x18]
      (repeat' split) <;> rfl
    rw [e]
    exact a8 x
  · have e : F_X11_isSource a x t2 = F_X11_isSource a x s2 := by
      have g54 := (b1.1 54 (by unfold zYj; omega)).1
      have x54 : t2.1 (Y 54) = s2.1 (Y 54) := qj 54 (by omega)
      unfold F_X11_isSource F_X11_isBeside
      simp only [zlt, r2, g54, x54, mM]
    rw [e]
    exact b8 x
  · rw [zGw.r a1 f1 (i := 11) (by decide) (by omega), zGw.r a1 f1 (i := 17) (by decide) (by omega), zGw.r a1 f1 (i := 12) (by decide) (by omega), zGw.r a1 f1 (i := 10) (by decide) (by omega), zGw.r a1 f1 (i := 18) (by decide) (by omega), qj 24 (by omega), qj 52 (by omega), qj 25 (by omega), qj 23 (by omega), qj 54 (by omega)]
    exact c p hp
  · have x3 : t1.1 (q 4) 3 = s1.1 (q 4) 3 := zGw.c a1 f1 (by decide)
    have xd : dmM Y t2 c = dmM Y s2 c := by
      unfold dmM
      rw [zHw.w b1 f2 (by omega)]
    rw [x3, xd]
    exact d c c1 c2
  · intro hN
    rw [zGw.r a1 f1 (i := 3) (by decide) (by omega), qj 28 (by omega)]
    exact e hN
theorem zSd.eq (S : zSd q Y a b N g u l s1 s2) (Dn : zDn q Y N s1 s2) : zEq q Y b N (s1.1 (q 4) 3) s1 s2 := by
  obtain ⟨⟨-, -, -, a4, -, -, -, -⟩, -, c, d, -⟩ := S
  obtain ⟨d1, d2, -, -, -⟩ := Dn
  refine ⟨fun p f hp => ?_, d⟩
  obtain ⟨c1, c2, c3, c4, c5⟩ := c p hp
  have np := (pI_b p (by omega)).2
  funext i
  unfold fCt fMt
  rw [np]
  match i with
  | 0 => exact c1
  | 1 => exact c2
  | 2 => exact c3
  | 3 =>
    show s1.1 (q 4) 4 - s1.1 (q 4) 4 / 12 * 12 = s2.1 (Y 49) 48 - s2.1 (Y 49) 48 / 12 * 12
    rw [d2]
  | 4 => rfl
  | 5 => exact c4
  | 6 => exact (d1 p hp).1
  | 7 => rfl
  | _ + 8 => exact c5
/-- rain and flows on both sides -/
theorem zSd.fall (S : zSd q Y a b N g u l s1 s2) (Dn : zDn q Y N s1 s2) (hm : 0 ≤ m.toInt ∧ m.toInt ≤ 99) (f1 : zFr (zRw q) s1 t1) (f2 : zFr (zVw Y a) s2 t2) : zFr (zRw q) s1 (F_X5_fall (q 0) m t1) ∧ zFr (zVw Y a) s2 (F_X11_fillsFlows a m t2) ∧ (∀ p, p < N → (F_X5_fall (q 0) m t1).1 (q 6) p = (F_X11_fillsFlows a m t2).1 (Y 55) p) ∧ (∀ p, p < N → (F_X5_fall (q 0) m t1).1 (q 5) p = rCl q s1 g m p) ∧ ∀ p, p < N → 0 ≤ ((F_X5_fall (q 0) m t1).1 (q 6) p).toInt := by
  have E := S.eq Dn
  obtain ⟨⟨a1, a2, a3, a4, a5, a6, a7, a8⟩, ⟨b1, b2, b3, b4, b5, b6, b7, b8⟩, c, d, e⟩ := S
  obtain ⟨r1, r2⟩ := cRain (m := m) a1 a2 a3 a4 f1
  have g4 : (s1.2.2 (q 0) 6).getD 0 = q 4 := a1.1.1.2.2.2.1
  have x3 : (F_X5_rainDown (q 0) m t1).1 (q 4) 3 = s1.1 (q 4) 3 := congrFun (zRw.r a1 r1 (by decide) (by omega)) 3
  have X : F_X5_fall (q 0) m t1 = F_X5_run (q 0) (s1.1 (q 4) 3) (F_X5_rainDown (q 0) m t1) := by
    unfold F_X5_fall
    simp only [↓zlt, r1.rf, g4, x3]
  have hsp : ∀ c, 1 ≤ c → c < N → dep N u c - 1 = (dep N u (u c) - 1) + 1 := fun c c1 c2 => by
    have z1 := dep_s a5 c1 c2
    have z2 := (dep_b a5 (u c) (a5.u_lt c1 c2)).1
    omega
  have h11 : ∀ c, c < N → dep N u c - 1 ≤ 11 := fun c hc => by
    have := (dep_b a5 c hc).2
    omega
  obtain ⟨v1, v2, v3, v4⟩ := cRun (D := s1.1 (q 4) 3) a1 a2 a3 a4 a5 a6 a7 r1 r2 (fun p _ => rCl_b hm)
  have w1 := (mFlow (m := m) b1 b2 b3 b4 b5 a4 a5 b6 b7 hsp h11 f2).1
  have w2 := flowEq (m := m) a1 a2 a3 a4 a5 a6 a7 b1 b2 b3 b4 b5 b6 b7 hsp h11 E hm r1 r2 f2
  rw [X]
  refine ⟨v1, w1, w2, fun p hp => ?_, v4⟩
  rw [v2.2 (q 5) p (by
    rintro (z | z | z)
    · exact a1.n (by decide) (by decide) (by decide) z
    · exact a1.n (by decide) (by decide) (by decide) z
    · exact a1.n (by decide) (by decide) (by decide) z)]
  exact r2 p hp
end MONTH
