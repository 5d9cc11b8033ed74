/-! THE REFERENCE'S RIVER: what a law tells of a place -/
def zYj (j : Nat) : Prop := (21 ≤ j ∧ j ≤ 31) ∨ (33 ≤ j ∧ j ≤ 37) ∨ j = 39 ∨ j = 40 ∨ j = 45 ∨ j = 46 ∨ j = 48 ∨ j = 49 ∨ (52 ≤ j ∧ j ≤ 55)
def zYm (Y : Nat → Nat) (a : Nat) (R : Nat → Nat → Option Nat) : Prop := (∀ j, zYj j → (R a j).getD 0 = Y j ∧ ¬ Y j = a) ∧ ∀ i j, zYj i → zYj j → i ≠ j → ¬ Y i = Y j
/-- the facts of a place p of which f flows -/
noncomputable def fMt (Y : Nat → Nat) (b : Nat) (s : zS) (p : Int32) (f : Int32) : Nat → Int32
  | 0 => s.1 (Y 24) (12 * b + p.toNatClampNeg)
  | 1 => s.1 (Y 52) p.toNatClampNeg
  | 2 => s.1 (Y 25) (12 * b + p.toNatClampNeg)
  | 3 => s.1 (Y 49) 48 - s.1 (Y 49) 48 / 12 * 12
  | 4 => f
  | 5 => s.1 (Y 23) (12 * b + p.toNatClampNeg)
  | 6 => s.1 (Y 49) (24 + p.toNatClampNeg)
  | 7 => p
  | _ => F_X11_bits (s.1 (Y 54) p.toNatClampNeg) - 1
/-- the five laws of the reference -/
def zW5 (Y : Nat → Nat) (b : Nat) (s : zS) (g : zGl) : Prop := ∀ k, k < 5 → zLm Y (420 * b) (130 * b) s (420 * b + 420) (130 * b + 130) (5 * b + k) (g k) ∧ okB (lwB k (g k))
/-- what going through a law writes -/
def zUw (Y : Nat → Nat) (a : Nat) : Nat → Nat → Prop := fun c j => c = Y 45 ∨ c = Y 46 ∨ (c = a ∧ j = 47)
section TELLSM
variable {a b : Nat} {Y : Nat → Nat} {R : Nat → Nat → Option Nat} {s t τ : zS} {g : zGl} {p f : Int32}
theorem zUw.r (h : zYm Y a R) (g : zFr (zUw Y a) s t) {j : Nat} (hj : zYj j) (n5 : j ≠ 45) (n6 : j ≠ 46) : t.1 (Y j) = s.1 (Y j) := funext (fun i => g.2 (Y j) i (by
  rintro (z | z | z)
  · exact h.2 j 45 hj (by unfold zYj; omega) n5 z
  · exact h.2 j 46 hj (by unfold zYj; omega) n6 z
  · exact (h.1 j hj).2 z.1))
theorem zUw.fl (h : zYm Y a R) (g : zFr (zUw Y a) s t) {j : Nat} (n : j ≠ 47) : t.1 a j = s.1 a j := g.2 a j (by
  rintro (z | z | z)
  · exact (h.1 45 (by unfold zYj; omega)).2 z.symm
  · exact (h.1 46 (by unfold zYj; omega)).2 z.symm
  · exact n z.2)
theorem zW5.cg (h : zW5 Y b s g) (e : ∀ j, (j = 30 ∨ j = 31 ∨ (33 ≤ j ∧ j ≤ 37) ∨ j = 39 ∨ j = 40) → t.1 (Y j) = s.1 (Y j)) : zW5 Y b t g := fun k hk => ⟨(h k hk).1.cg (Nat.le_refl _) (Nat.le_refl _) (fun i _ _ => ⟨by rw [e 39 (by omega)], by rw [e 40 (by omega)]⟩) (fun j i j1 j2 _ _ => by rw [e j (by omega)]) (by rw [e 30 (by omega)]) (by rw [e 31 (by omega)]), (h k hk).2⟩
theorem fMt.cg (e : ∀ j, (j = 23 ∨ j = 24 ∨ j = 25 ∨ j = 49 ∨ j = 52 ∨ j = 54) → t.1 (Y j) = s.1 (Y j)) : fMt Y b t p f = fMt Y b s p f := by
  funext i
  unfold fMt
  split
  · rw [e 24 (by omega)]
  · rw [e 52 (by omega)]
  · rw [e 25 (by omega)]
  · rw [e 49 (by omega)]
  · rfl
  · rw [e 23 (by omega)]
  · rw [e 49 (by omega)]
  · rfl
  · rw [e 54 (by omega)]
theorem mLooks (h : zYm Y a s.2.2) (h18 : (s.1 a 18).toInt = b) (hb : b ≤ 1) {P : Nat} (hp : p.toInt = P) (hP : P < 12) : zFr (zUw Y a) s (F_X11_looks a p f s) ∧ ∀ i, i < 9 → (F_X11_looks a p f s).1 (Y 45) i = fMt Y b s p f i := by
  have e12 : (12 : Int32).toInt = 12 := by decide
  have e24 : (24 : Int32).toInt = 24 := by decide
  have w0 : (0 : Int32).toNatClampNeg = 0 := by decide
  have w1 : (1 : Int32).toNatClampNeg = 1 := by decide
  have w2 : (2 : Int32).toNatClampNeg = 2 := by decide
  have w3 : (3 : Int32).toNatClampNeg = 3 := by decide
  have w4 : (4 : Int32).toNatClampNeg = 4 := by decide
  have w5 : (5 : Int32).toNatClampNeg = 5 := by decide
  have w6 : (6 : Int32).toNatClampNeg = 6 := by decide
  have w7 : (7 : Int32).toNatClampNeg = 7 := by decide
  have w8 : (8 : Int32).toNatClampNeg = 8 := by decide
  have w48 : (48 : Int32).toNatClampNeg = 48 := by decide
  have q : ∀ j, (j = 23 ∨ j = 24 ∨ j = 25 ∨ j = 45 ∨ j = 49 ∨ j = 52 ∨ j = 54) → zYj j := fun j hj => by unfold zYj; omega
  have g23 := (h.1 23 (q 23 (by omega))).1
  have g24 := (h.1 24 (q 24 (by omega))).1
  have g25 := (h.1 25 (q 25 (by omega))).1
  have g45 := (h.1 45 (q 45 (by omega))).1
  have g49 := (h.1 49 (q 49 (by omega))).1
  have g52 := (h.1 52 (q 52 (by omega))).1
  have g54 := (h.1 54 (q 54 (by omega))).1
  have z : ∀ j, (j = 23 ∨ j = 24 ∨ j = 25 ∨ j = 49 ∨ j = 52 ∨ j = 54) → ¬ Y j = Y 45 := fun j hj => h.2 j 45 (q j (by omega)) (q 45 (by omega)) (by omega)
  have z23 := z 23 (by omega)
  have z24 := z 24 (by omega)
  have z25 := z 25 (by omega)
  have z49 := z 49 (by omega)
  have z52 := z 52 (by omega)
  have z54 := z 54 (by omega)
  have za : ¬ a = Y 45 := fun e => (h.1 45 (q 45 (by omega))).2 e.symm
  have x1 : ((12 : Int32) * s.1 a 18).toInt = 12 * (b : Int) := by rw [zb_mul (by rw [e12, h18]; omega) (by rw [e12, h18]; omega), e12, h18]
  have x2 : ((12 : Int32) * s.1 a 18 + p).toInt = ((12 * b + P : Nat) : Int) := by rw [zb_add (by rw [x1]; omega) (by rw [x1]; omega), x1, hp]; omega
  have wp : p.toNatClampNeg = P := by rw [ztn, hp]; rfl
  have x3 : ((12 : Int32) * s.1 a 18 + p).toNatClampNeg = 12 * b + P := by rw [ztn, x2]; rfl
  have x4 : ((24 : Int32) + p).toInt = ((24 + P : Nat) : Int) := by rw [zb_add (by rw [e24]; omega) (by rw [e24]; omega), e24, hp]; omega
  have x5 : ((24 : Int32) + p).toNatClampNeg = 24 + P := by rw [ztn, x4]; rfl
  obtain ⟨ft, hft⟩ : ∃ ft, ft = fMt Y b s p f := ⟨_, rfl⟩
  have E : F_X11_looks a p f s = (zu (zu (zu (zu (zu (zu (zu (zu (zu s.1 (Y 45) 0 (ft 0)) (Y 45) 1 (ft 1)) (Y 45) 2 (ft 2)) (Y 45) 3 (ft 3)) (Y 45) 4 (ft 4)) (Y 45) 5 (ft 5)) (Y 45) 6 (ft 6)) (Y 45) 7 (ft 7)) (Y 45) 8 (ft 8), s.2.1, s.2.2) := by
    rw [hft]
    have f0 : fMt Y b s p f 0 = s.1 (Y 24) (12 * b + P) := by rw [← wp]; rfl
    have f1 : fMt Y b s p f 1 = s.1 (Y 52) P := by rw [← wp]; rfl
    have f2 : fMt Y b s p f 2 = s.1 (Y 25) (12 * b + P) := by rw [← wp]; rfl
    have f3 : fMt Y b s p f 3 = s.1 (Y 49) 48 - s.1 (Y 49) 48 / 12 * 12 := rfl
    have f4 : fMt Y b s p f 4 = f := rfl
    have f5 : fMt Y b s p f 5 = s.1 (Y 23) (12 * b + P) := by rw [← wp]; rfl
    have f6 : fMt Y b s p f 6 = s.1 (Y 49) (24 + P) := by rw [← wp]; rfl
    have f7 : fMt Y b s p f 7 = p := rfl
    have f8 : fMt Y b s p f 8 = F_X11_bits (s.1 (Y 54) P) - 1 := by rw [← wp]; rfl
    rw [f0, f1, f2, f3, f4, f5, f6, f7, f8]
    unfold F_X11_looks
    simp only [↓zlt, ↓zlt2, g23, g24, g25, g45, g49, g52, g54, w0, w1, w2, w3, w4, w5, w6, w7, w8, w48, zu_n _ _ _ z23, zu_n _ _ _ z24, zu_n _ _ _ z25, zu_n _ _ _ z49, zu_n _ _ _ z52, zu_n _ _ _ z54, zu_n _ _ _ za, x3, x5, wp]
  rw [E, hft]
  refine ⟨((((((((zFr.id.w (Or.inl rfl)).w (Or.inl rfl)).w (Or.inl rfl)).w (Or.inl rfl)).w (Or.inl rfl)).w (Or.inl rfl)).w (Or.inl rfl)).w (Or.inl rfl)).w (Or.inl rfl), fun i hi => ?_⟩
  rw [← hft]
  show zu (zu (zu (zu (zu (zu (zu (zu (zu s.1 (Y 45) 0 (ft 0)) (Y 45) 1 (ft 1)) (Y 45) 2 (ft 2)) (Y 45) 3 (ft 3)) (Y 45) 4 (ft 4)) (Y 45) 5 (ft 5)) (Y 45) 6 (ft 6)) (Y 45) 7 (ft 7)) (Y 45) 8 (ft 8) (Y 45) i = ft i
  rcases (show i = 0 ∨ i = 1 ∨ i = 2 ∨ i = 3 ∨ i = 4 ∨ i = 5 ∨ i = 6 ∨ i = 7 ∨ i = 8 by omega) with rfl | rfl | rfl | rfl | rfl | rfl | rfl | rfl | rfl
  · rw [zu_j _ _ _ _ _ (by decide), zu_j _ _ _ _ _ (by decide), zu_j _ _ _ _ _ (by decide), zu_j _ _ _ _ _ (by decide), zu_j _ _ _ _ _ (by decide), zu_j _ _ _ _ _ (by decide), zu_j _ _ _ _ _ (by decide), zu_j _ _ _ _ _ (by decide), zu_s]
  · rw [zu_j _ _ _ _ _ (by decide), zu_j _ _ _ _ _ (by decide), zu_j _ _ _ _ _ (by decide), zu_j _ _ _ _ _ (by decide), zu_j _ _ _ _ _ (by decide), zu_j _ _ _ _ _ (by decide), zu_j _ _ _ _ _ (by decide), zu_s]
  · rw [zu_j _ _ _ _ _ (by decide), zu_j _ _ _ _ _ (by decide), zu_j _ _ _ _ _ (by decide), zu_j _ _ _ _ _ (by decide), zu_j _ _ _ _ _ (by decide), zu_j _ _ _ _ _ (by decide), zu_s]
  · rw [zu_j _ _ _ _ _ (by decide), zu_j _ _ _ _ _ (by decide), zu_j _ _ _ _ _ (by decide), zu_j _ _ _ _ _ (by decide), zu_j _ _ _ _ _ (by decide), zu_s]
  · rw [zu_j _ _ _ _ _ (by decide), zu_j _ _ _ _ _ (by decide), zu_j _ _ _ _ _ (by decide), zu_j _ _ _ _ _ (by decide), zu_s]
  · rw [zu_j _ _ _ _ _ (by decide), zu_j _ _ _ _ _ (by decide), zu_j _ _ _ _ _ (by decide), zu_s]
  · rw [zu_j _ _ _ _ _ (by decide), zu_j _ _ _ _ _ (by decide), zu_s]
  · rw [zu_j _ _ _ _ _ (by decide), zu_s]
  · rw [zu_s]
/-- a law asked behind a look -/
theorem mTells (h : zYm Y a s.2.2) (h18 : (s.1 a 18).toInt = b) (hb : b ≤ 1) (hg : zW5 Y b s g) {ft : Nat → Int32} {u : zS} (hu : zFr (zUw Y a) s u) (hf : ∀ i, i < 9 → u.1 (Y 45) i = ft i) {k d : Int32} {w : Nat} (hk : k.toInt = w) (hw : w < 5) (hd : d = evB ft [(none, [dfl w])]) : ∃ τ, F_X11_lawTells a k d u = (evB ft (lwB w (g w)), τ) ∧ zFr (zUw Y a) s τ := by
  have ru := hu.rf
  have M : zMc a Y ft u := ⟨fun j hj => by
    have qj : zYj j := by unfold zMj at hj; unfold zYj; omega
    exact ⟨by rw [ru]; exact (h.1 j qj).1, (h.1 j qj).2, fun n => h.2 j 46 qj (by unfold zYj; omega) n⟩, hf⟩
  have G := zW5.cg (t := u) hg (fun j hj => zUw.r h hu (by unfold zYj; omega) (by omega) (by omega))
  obtain ⟨τ, e1, e2⟩ := mLawA (p2 := d) M (by omega) (by omega) (by rw [zUw.fl h hu (by decide)]; exact h18) hb hk hw (G w hw).1 (fun B hB => by
    have o := (G w hw).2
    rw [hB] at o
    exact o)
  refine ⟨τ, ?_, hu.tr (zFr.up e2 (fun c j z => Or.inr z))⟩
  rw [e1, lwV_e (v := w) (g w) hd]
/-- what comes down, what dries, what a law claims -/
theorem mRainsAt (h : zYm Y a s.2.2) (h18 : (s.1 a 18).toInt = b) (hb : b ≤ 1) (hg : zW5 Y b s g) {P : Nat} (hp : p.toInt = P) (hP : P < 12) : ∃ τ, F_X11_rainsAt a p s = (F_X11_within (evB (fMt Y b s p 0) (lwB 0 (g 0))) 0 999, τ) ∧ zFr (zUw Y a) s τ := by
  obtain ⟨l1, l2⟩ := mLooks (f := 0) h h18 hb hp hP
  obtain ⟨u, hu⟩ : ∃ u, u = F_X11_looks a p 0 s := ⟨_, rfl⟩
  rw [← hu] at l1 l2
  have g45 : (u.2.2 a 45).getD 0 = Y 45 := by rw [l1.rf]; exact (h.1 45 (by unfold zYj; omega)).1
  have w0 : (0 : Int32).toNatClampNeg = 0 := by decide
  obtain ⟨τ, e1, e2⟩ := mTells (k := 0) (d := fMt Y b s p 0 0) (w := 0) h h18 hb hg l1 l2 (by decide) (by decide) lwV_0.symm
  refine ⟨τ, ?_, e2⟩
  unfold F_X11_rainsAt
  simp only [zlt, zlt2]
  rw [← hu, g45, w0, l2 0 (by decide), e1]
theorem mDriesAt (h : zYm Y a s.2.2) (h18 : (s.1 a 18).toInt = b) (hb : b ≤ 1) (hg : zW5 Y b s g) {P : Nat} (hp : p.toInt = P) (hP : P < 12) : ∃ τ, F_X11_driesAt a p s = (F_X11_within (evB (fMt Y b s p (s.1 (Y 55) P)) (lwB 1 (g 1))) 0 (s.1 (Y 55) P), τ) ∧ zFr (zUw Y a) s τ := by
  have g55 : (s.2.2 a 55).getD 0 = Y 55 := (h.1 55 (by unfold zYj; omega)).1
  have wp : p.toNatClampNeg = P := by rw [ztn, hp]; rfl
  obtain ⟨l1, l2⟩ := mLooks (f := s.1 (Y 55) P) h h18 hb hp hP
  obtain ⟨u, hu⟩ : ∃ u, u = F_X11_looks a p (s.1 (Y 55) P) s := ⟨_, rfl⟩
  rw [← hu] at l1 l2
  obtain ⟨τ, e1, e2⟩ := mTells (k := 1) (d := 0) (w := 1) h h18 hb hg l1 l2 (by decide) (by decide) lwV_1.symm
  refine ⟨τ, ?_, e2⟩
  have t55 : (τ.2.2 a 55).getD 0 = Y 55 := by rw [e2.rf]; exact g55
  have r55 : τ.1 (Y 55) P = s.1 (Y 55) P := congrFun (zUw.r h e2 (j := 55) (by unfold zYj; omega) (by decide) (by decide)) P
  unfold F_X11_driesAt
  simp only [zlt, zlt2, g55, wp]
  rw [← hu, e1]
  simp only [t55, r55]
theorem mClaimOf (h : zYm Y a s.2.2) (h18 : (s.1 a 18).toInt = b) (hb : b ≤ 1) (hg : zW5 Y b s g) {P : Nat} (hp : p.toInt = P) (hP : P < 12) {k : Int32} {w : Nat} (hk : k.toInt = w) (hw : w < 3) : ∃ τ, F_X11_claimOf a p k s = (F_X11_within (evB (fMt Y b s p (s.1 (Y 55) P)) (lwB (2 + w) (g (2 + w)))) 0 99999, τ) ∧ zFr (zUw Y a) s τ := by
  have g55 : (s.2.2 a 55).getD 0 = Y 55 := (h.1 55 (by unfold zYj; omega)).1
  have wp : p.toNatClampNeg = P := by rw [ztn, hp]; rfl
  have e1' : (1 : Int32).toInt = 1 := by decide
  have e2' : (2 : Int32).toInt = 2 := by decide
  have w1 : (1 : Int32).toNatClampNeg = 1 := by decide
  have w2 : (2 : Int32).toNatClampNeg = 2 := by decide
  have w4 : (4 : Int32).toNatClampNeg = 4 := by decide
  have hk2 : ((2 : Int32) + k).toInt = ((2 + w : Nat) : Int) := by rw [zb_add (by rw [e2']; omega) (by rw [e2']; omega), e2', hk]; omega
  obtain ⟨l1, l2⟩ := mLooks (f := s.1 (Y 55) P) h h18 hb hp hP
  obtain ⟨u, hu⟩ : ∃ u, u = F_X11_looks a p (s.1 (Y 55) P) s := ⟨_, rfl⟩
  rw [← hu] at l1 l2
  have g45 : (u.2.2 a 45).getD 0 = Y 45 := by rw [l1.rf]; exact (h.1 45 (by unfold zYj; omega)).1
  have T := fun d (hd : d = evB (fMt Y b s p (s.1 (Y 55) P)) [(none, [dfl (2 + w)])]) => mTells (k := (2 : Int32) + k) (d := d) (w := 2 + w) h h18 hb hg l1 l2 hk2 (by omega) hd
  unfold F_X11_claimOf
  simp only [zlt, zlt2, g55, wp, e1']
  rw [← hu, g45, w1, w2, w4]
  rcases (show w = 0 ∨ w = 1 ∨ w = 2 by omega) with rfl | rfl | rfl
  · have c : k.toInt = 0 := hk
    rw [if_pos c, l2 1 (by decide)]
    obtain ⟨τ, e1, e2⟩ := T _ lwV_2.symm
    exact ⟨τ, by rw [e1], e2⟩
  · have c : ¬ k.toInt = 0 := by omega
    have c1 : k.toInt = 1 := hk
    rw [if_neg c, if_pos c1, l2 4 (by decide)]
    obtain ⟨τ, e1, e2⟩ := T _ lwV_3.symm
    exact ⟨τ, by rw [e1], e2⟩
  · have c : ¬ k.toInt = 0 := by omega
    have c1 : ¬ k.toInt = 1 := by omega
    rw [if_neg c, if_neg c1, l2 2 (by decide)]
    obtain ⟨τ, e1, e2⟩ := T _ lwV_4.symm
    exact ⟨τ, by rw [e1], e2⟩
end TELLSM
