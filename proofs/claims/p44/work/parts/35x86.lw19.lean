/-! WHERE A READING BEGINS: laws -/
/-- the codes of the first v laws that no text tells -/
def dC : Nat → zCs
  | 0 => []
  | v + 1 => dC v ++ [dfl v, (7, 0)]
theorem dC_l : ∀ v, (dC v).length = 2 * v := by
  intro v
  induction v with
  | zero => rfl
  | succ v ih =>
    rw [dC, List.length_append, ih]
    show 2 * v + 2 = _
    omega
section CLR
variable {P tt A6 A7 A9 : Nat} {σ τ τ' : zS}
theorem cClr1 {n : Nat} {x : Int32} {v : Nat} (hx : x.toInt = v) (hv : v < 5) (h9 : (τ.2.2 tt 9).getD 0 = A9) : ∃ k y : Int32, k.toInt = (dfl v).1 ∧ y.toInt = (dfl v).2 ∧ F_X9_clear_12 tt (n + 1) x τ = F_X9_clear_12 tt n (x + (1 : Int32)) (F_X9_addStep tt 7 0 (F_X9_addStep tt k y (zu τ.1 A9 v (τ.1 tt 8), τ.2.1, τ.2.2))) := by
  have e5 : (5 : Int32).toInt = 5 := by decide
  have w : x.toNatClampNeg = v := by rw [ztn, hx]; rfl
  have c : x.toInt < 5 := by omega
  rw [F_X9_clear_12]
  simp only [zlt, e5, h9, w]
  rw [if_pos c]
  have d0 : ¬ (0 : Int32).toInt = (-1 : Int32).toInt := by decide
  have d1 : ¬ (1 : Int32).toInt = (-1 : Int32).toInt := by decide
  have d2 : ¬ (2 : Int32).toInt = (-1 : Int32).toInt := by decide
  have d4 : ¬ (4 : Int32).toInt = (-1 : Int32).toInt := by decide
  rcases (show v = 0 ∨ v = 1 ∨ v = 2 ∨ v = 3 ∨ v = 4 by omega) with rfl | rfl | rfl | rfl | rfl
  · refine ⟨1, 0, by decide, by decide, ?_⟩
    have g : ([0, -1, 1, 4, 2] : List Int32).getD 0 0 = 0 := rfl
    rw [g, if_neg d0, if_neg d0]
  · refine ⟨0, 0, by decide, by decide, ?_⟩
    have g : ([0, -1, 1, 4, 2] : List Int32).getD 1 0 = -1 := rfl
    rw [g, if_pos rfl, if_pos rfl]
  · refine ⟨1, 1, by decide, by decide, ?_⟩
    have g : ([0, -1, 1, 4, 2] : List Int32).getD 2 0 = 1 := rfl
    rw [g, if_neg d1, if_neg d1]
  · refine ⟨1, 4, by decide, by decide, ?_⟩
    have g : ([0, -1, 1, 4, 2] : List Int32).getD 3 0 = 4 := rfl
    rw [g, if_neg d4, if_neg d4]
  · refine ⟨1, 2, by decide, by decide, ?_⟩
    have g : ([0, -1, 1, 4, 2] : List Int32).getD 4 0 = 2 := rfl
    rw [g, if_neg d2, if_neg d2]
/-- v laws put down -/
def zDc (tt A6 A7 A9 v : Nat) (τ : zS) : Prop := zCd tt A6 A7 0 τ (dC v) ∧ (τ.2.2 tt 9).getD 0 = A9 ∧ ∀ k, k < v → (τ.1 A9 k).toInt = (2 * k : Nat)
theorem zDc.st {v : Nat} {x y : Int32} (n9 : A9 ≠ tt ∧ A9 ≠ A6 ∧ A9 ≠ A7) (h : zDc tt A6 A7 A9 v τ) (hv : v < 5) (hx : x.toInt = (dfl v).1) (hy : y.toInt = (dfl v).2) : zDc tt A6 A7 A9 (v + 1) (F_X9_addStep tt 7 0 (F_X9_addStep tt x y (zu τ.1 A9 v (τ.1 tt 8), τ.2.1, τ.2.2))) := by
  obtain ⟨⟨hD, h8, hh⟩, h9, hk⟩ := h
  have l := dC_l v
  have c0 : zCd tt A6 A7 0 (zu τ.1 A9 v (τ.1 tt 8), τ.2.1, τ.2.2) (dC v) := ⟨hD, by show (zu τ.1 A9 v (τ.1 tt 8) tt 8).toInt = _; rw [zu_n _ _ _ (fun z => n9.1 z.symm)]; exact h8, zHo_cg _ 0 (fun i _ _ => ⟨by show zu τ.1 A9 v (τ.1 tt 8) A6 i = _; rw [zu_n _ _ _ (fun z => n9.2.1 z.symm)], by show zu τ.1 A9 v (τ.1 tt 8) A7 i = _; rw [zu_n _ _ _ (fun z => n9.2.2 z.symm)]⟩) hh⟩
  have c1 := cStep c0 (by omega) x y hx hy
  have l1 : (dC v ++ [((dfl v).1, (dfl v).2)]).length = (dC v).length + 1 := by rw [List.length_append]; rfl
  have c2 := cStep c1 (by omega) 7 0 (x' := 7) (y' := 0) (by decide) (by decide)
  have e : dC v ++ [((dfl v).1, (dfl v).2)] ++ [((7 : Int), (0 : Int))] = dC (v + 1) := by
    rw [List.append_assoc]
    rfl
  rw [e] at c2
  have q6 : (τ.2.2 tt 6).getD 0 = A6 := hD.1.1
  have q7 : (τ.2.2 tt 7).getD 0 = A7 := hD.1.2
  have f : zFi (fun c _ => c = A6 ∨ c = A7 ∨ c = tt) (zu τ.1 A9 v (τ.1 tt 8), τ.2.1, τ.2.2) (F_X9_addStep tt 7 0 (F_X9_addStep tt x y (zu τ.1 A9 v (τ.1 tt 8), τ.2.1, τ.2.2))) := fi_X9_addStep (fi_X9_addStep zFi.id (fun _ => Or.inl q6) (fun _ => Or.inr (Or.inl q7)) (Or.inr (Or.inr rfl))) (fun _ => Or.inl q6) (fun _ => Or.inr (Or.inl q7)) (Or.inr (Or.inr rfl))
  refine ⟨c2, by rw [f.1]; exact h9, fun k hk' => ?_⟩
  rw [f.2 A9 k (by
    rintro (z | z | z)
    · exact n9.2.1 z
    · exact n9.2.2 z
    · exact n9.1 z)]
  show (zu τ.1 A9 v (τ.1 tt 8) A9 k).toInt = _
  by_cases e2 : k = v
  · rw [e2, zu_s, h8, l]
    omega
  · rw [zu_j _ _ _ _ _ (fun z => e2 z.symm)]
    exact hk k (by omega)
theorem cClr (n9 : A9 ≠ tt ∧ A9 ≠ A6 ∧ A9 ≠ A7) : ∀ (n : Nat) (x : Int32) (v : Nat) (τ : zS), x.toInt = v → v ≤ 5 → 5 - v < n → zDc tt A6 A7 A9 v τ → zDc tt A6 A7 A9 5 (F_X9_clear_12 tt n x τ) := by
  intro n
  induction n with
  | zero => intro x v τ _ _ h; exact absurd h (by omega)
  | succ n ih =>
    intro x v τ hx hv hn h
    by_cases c : v < 5
    · obtain ⟨k, y, q1, q2, q3⟩ := cClr1 (n := n) hx c h.2.1
      rw [q3]
      exact ih _ (v + 1) _ (zp1 hx (by omega)) (by omega) (by omega) (h.st n9 c q1 q2)
    · have ev : v = 5 := by omega
      subst ev
      have e5 : (5 : Int32).toInt = 5 := by decide
      have nx : ¬ x.toInt < 5 := by omega
      rw [F_X9_clear_12]
      simp only [zlt, e5]
      rw [if_neg nx]
      obtain ⟨⟨hD, h8, hh⟩, h9, hk⟩ := h
      have r : ∀ c i (a b d e : Int32), (c ≠ tt ∨ i = 8) → zu (zu (zu (zu τ.1 tt 10 a) tt 11 b) tt 12 d) tt 13 e c i = τ.1 c i := fun c i a b d e hc => by
        rcases hc with hc | hc
        · rw [zu_n _ _ _ hc, zu_n _ _ _ hc, zu_n _ _ _ hc, zu_n _ _ _ hc]
        · subst hc
          by_cases ec : c = tt
          · rw [ec, zu_j _ _ _ _ _ (by decide), zu_j _ _ _ _ _ (by decide), zu_j _ _ _ _ _ (by decide), zu_j _ _ _ _ _ (by decide)]
          · rw [zu_n _ _ _ ec, zu_n _ _ _ ec, zu_n _ _ _ ec, zu_n _ _ _ ec]
      refine ⟨⟨hD, ?_, zHo_cg _ 0 (fun i _ _ => ⟨?_, ?_⟩) hh⟩, h9, fun k hk' => ?_⟩
      · exact (congrArg Int32.toInt (r tt 8 _ _ _ _ (Or.inr rfl))).trans h8
      · exact r A6 i _ _ _ _ (Or.inl hD.2.1.1)
      · exact r A7 i _ _ _ _ (Or.inl hD.2.1.2)
      · exact (congrArg Int32.toInt (r A9 k _ _ _ _ (Or.inl n9.1))).trans (hk k hk')
theorem cClear5 (n9 : A9 ≠ tt ∧ A9 ≠ A6 ∧ A9 ≠ A7) (nA : (A6 ≠ tt ∧ A7 ≠ tt) ∧ A6 ≠ A7) (h67 : (σ.2.2 tt 6).getD 0 = A6 ∧ (σ.2.2 tt 7).getD 0 = A7) (h9 : (σ.2.2 tt 9).getD 0 = A9) : zDc tt A6 A7 A9 5 (F_X9_clear tt σ) := by
  have e0 : (0 : Int32).toInt = 0 := by decide
  unfold F_X9_clear
  simp only [zlt]
  refine cClr n9 10000 0 0 _ e0 (by omega) (by omega) ⟨⟨⟨h67, nA.1, nA.2⟩, ?_, trivial⟩, h9, fun k hk => absurd hk (by omega)⟩
  show (zu (zu σ.1 tt 0 0) tt 8 0 tt 8).toInt = _
  rw [zu_s]
  exact e0
theorem dC_s : ∀ k, k < 5 → zSub (dC 5) (2 * k) (lwB k none) := by
  intro k hk
  rcases (show k = 0 ∨ k = 1 ∨ k = 2 ∨ k = 3 ∨ k = 4 by omega) with rfl | rfl | rfl | rfl | rfl
  · exact ⟨[], [dfl 1, (7, 0), dfl 2, (7, 0), dfl 3, (7, 0), dfl 4, (7, 0)], rfl, rfl⟩
  · exact ⟨[dfl 0, (7, 0)], [dfl 2, (7, 0), dfl 3, (7, 0), dfl 4, (7, 0)], rfl, rfl⟩
  · exact ⟨[dfl 0, (7, 0), dfl 1, (7, 0)], [dfl 3, (7, 0), dfl 4, (7, 0)], rfl, rfl⟩
  · exact ⟨[dfl 0, (7, 0), dfl 1, (7, 0), dfl 2, (7, 0)], [dfl 4, (7, 0)], rfl, rfl⟩
  · exact ⟨[dfl 0, (7, 0), dfl 1, (7, 0), dfl 2, (7, 0), dfl 3, (7, 0)], [], rfl, rfl⟩
/-- the class begins to read -/
theorem zCg.st0 (h : zDc tt A6 A7 A9 5 τ) (g : zFi (fun c _ => c = P) τ τ') (hP : tt ≠ P ∧ A6 ≠ P ∧ A7 ≠ P) (nP : A9 ≠ P) : zCg tt A6 A7 A9 τ' aZ (fun _ => none) := fun _ => ⟨dC 5, h.1.fi g hP, by rw [dC_l]; exact Nat.le_add_right _ _, fun k hk => ⟨okB_d k, 2 * k, by rw [g.2 A9 k nP]; exact h.2.2 k hk, dC_s k hk⟩⟩
end CLR
section PLN
variable {a b : Nat} {τ t : zS} {Y : Nat → Nat}
/-- rows of laws made plain -/
theorem pn_l (hY : zYz Y a τ.2.2) {p : Int32} (hp : p.toInt = b) (hb : b ≤ 1) : ∀ (n : Nat) (x : Int32) (v : Nat) (t : zS), x.toInt = v → v ≤ 5 → 5 - v < n → t.2.2 = τ.2.2 → (∀ k, k < v → t.1 (Y 30) (5 * b + k) = 0 ∧ t.1 (Y 31) (5 * b + k) = 0) → (F_X11_plain_37 a p n x t).2.2 = τ.2.2 ∧ ∀ k, k < 5 → (F_X11_plain_37 a p n x t).1 (Y 30) (5 * b + k) = 0 ∧ (F_X11_plain_37 a p n x t).1 (Y 31) (5 * b + k) = 0 := by
  have e5 : (5 : Int32).toInt = 5 := by decide
  have q30 : zQs 30 := by unfold zQs; omega
  have q31 : zQs 31 := by unfold zQs; omega
  have g30 : (τ.2.2 a 30).getD 0 = Y 30 := (hY.1 30 q30).1
  have g31 : (τ.2.2 a 31).getD 0 = Y 31 := (hY.1 31 q31).1
  have n3 : ¬ Y 30 = Y 31 := hY.2 30 31 q30 q31 (by decide)
  intro n
  induction n with
  | zero => intro x v t _ _ h; exact absurd h (by omega)
  | succ n ih =>
    intro x v t hx hv hn ht hk
    rw [F_X11_plain_37]
    simp only [zlt, e5, ht, g30, g31]
    by_cases c : v < 5
    · have cx : x.toInt < 5 := by omega
      rw [if_pos cx]
      have v1 : ((5 : Int32) * p).toInt = 5 * (b : Int) := by rw [zb_mul (by rw [e5, hp]; omega) (by rw [e5, hp]; omega), e5, hp]
      have v2 : ((5 : Int32) * p + x).toInt = ((5 * b + v : Nat) : Int) := by rw [zb_add (by rw [v1]; omega) (by rw [v1]; omega), v1, hx]; omega
      have w : ((5 : Int32) * p + x).toNatClampNeg = 5 * b + v := by rw [ztn, v2]; rfl
      rw [w]
      refine ih _ (v + 1) _ (zp1 hx (by omega)) (by omega) (by omega) rfl (fun k hk' => ⟨?_, ?_⟩)
      · show zu (zu t.1 (Y 30) (5 * b + v) 0) (Y 31) (5 * b + v) 0 (Y 30) (5 * b + k) = 0
        rw [zu_n _ _ _ n3]
        by_cases e : k = v
        · rw [e, zu_s]
        · rw [zu_j _ _ _ _ _ (by omega)]
          exact (hk k (by omega)).1
      · show zu (zu t.1 (Y 30) (5 * b + v) 0) (Y 31) (5 * b + v) 0 (Y 31) (5 * b + k) = 0
        by_cases e : k = v
        · rw [e, zu_s]
        · rw [zu_j _ _ _ _ _ (by omega), zu_n _ _ _ (fun z => n3 z.symm)]
          exact (hk k (by omega)).2
    · have cx : ¬ x.toInt < 5 := by omega
      rw [if_neg cx]
      exact ⟨ht, fun k hk' => hk k (by omega)⟩
/-- the reference begins to read -/
theorem zRi_x (hY : zYz Y a t.2.2) (hb1 : b ≤ 1) (h18 : (t.1 a 18).toInt = 1 - (b : Int)) : zXl a Y t.2.2 b (zRi a t) aZ (fun _ => none) := by
  have e1 : (1 : Int32).toInt = 1 := by decide
  have e130 : (130 : Int32).toInt = 130 := by decide
  have e420 : (420 : Int32).toInt = 420 := by decide
  have e18 : zu (zu (zu (zu t.1 a 11 0) a 12 0) a 13 0) a 15 (0 : Int32) a 18 = t.1 a 18 := by rw [zu_j _ _ _ _ _ (by decide), zu_j _ _ _ _ _ (by decide), zu_j _ _ _ _ _ (by decide), zu_j _ _ _ _ _ (by decide)]
  obtain ⟨r, hr⟩ : ∃ r, r = zRi a t := ⟨_, rfl⟩
  rw [← hr]
  unfold zRi at hr
  simp only [zlt, e18, zu_s] at hr
  have hpb : ((1 : Int32) - t.1 a 18).toInt = b := by rw [zb_sub (by rw [e1, h18]; omega) (by rw [e1, h18]; omega), e1, h18]; omega
  obtain ⟨p, hp⟩ : ∃ p, p = (1 : Int32) - t.1 a 18 := ⟨_, rfl⟩
  rw [← hp] at hr hpb
  obtain ⟨u, hu⟩ : ∃ u : zS, u = (zu (zu (zu (zu (zu t.1 a 11 0) a 12 0) a 13 0) a 15 0) a 19 p, t.2.1, t.2.2) := ⟨_, rfl⟩
  rw [← hu] at hr
  have ru : u.2.2 = t.2.2 := by rw [hu]
  have u19 : u.1 a 19 = p := by rw [hu]; exact zu_s _ _ _ _
  have hYu : zYz Y a u.2.2 := by rw [ru]; exact hY
  have q : ∀ j, (j = 21 ∨ j = 26 ∨ j = 27 ∨ j = 28 ∨ j = 29 ∨ j = 30 ∨ j = 31) → zQs j := fun j hj => by unfold zQs; omega
  have gq : ∀ j, (j = 21 ∨ j = 26 ∨ j = 27 ∨ j = 28 ∨ j = 29 ∨ j = 30 ∨ j = 31) → (u.2.2 a j).getD 0 = Y j := fun j hj => (hYu.1 j (q j hj)).1
  obtain ⟨C, hC⟩ : ∃ C, C = F_X11_plain a p u := ⟨_, rfl⟩
  rw [← hC] at hr
  have fC : zFi (fun c _ => c = Y 21 ∨ c = Y 26 ∨ c = Y 27 ∨ c = Y 28 ∨ c = Y 29 ∨ c = Y 30 ∨ c = Y 31) u C := by
    rw [hC]
    exact fi_X11_plain zFi.id (fun _ => by rw [gq 21 (by omega)]; exact Or.inl rfl) (fun _ => by rw [gq 26 (by omega)]; exact Or.inr (Or.inl rfl)) (fun _ => by rw [gq 27 (by omega)]; exact Or.inr (Or.inr (Or.inl rfl))) (fun _ => by rw [gq 28 (by omega)]; exact Or.inr (Or.inr (Or.inr (Or.inl rfl)))) (fun _ => by rw [gq 29 (by omega)]; exact Or.inr (Or.inr (Or.inr (Or.inr (Or.inl rfl))))) (fun _ => by rw [gq 30 (by omega)]; exact Or.inr (Or.inr (Or.inr (Or.inr (Or.inr (Or.inl rfl)))))) (fun _ => by rw [gq 31 (by omega)]; exact Or.inr (Or.inr (Or.inr (Or.inr (Or.inr (Or.inr rfl))))))
  have na : ∀ j, (j = 21 ∨ j = 26 ∨ j = 27 ∨ j = 28 ∨ j = 29 ∨ j = 30 ∨ j = 31) → Y j ≠ a := fun j hj => (hY.1 j (q j hj)).2
  have C19 : C.1 a 19 = p := by
    rw [fC.2 a 19 (by
      rintro (z | z | z | z | z | z | z)
      · exact na 21 (by omega) z.symm
      · exact na 26 (by omega) z.symm
      · exact na 27 (by omega) z.symm
      · exact na 28 (by omega) z.symm
      · exact na 29 (by omega) z.symm
      · exact na 30 (by omega) z.symm
      · exact na 31 (by omega) z.symm)]
    exact u19
  have C3 : ∀ k, k < 5 → C.1 (Y 30) (5 * b + k) = 0 ∧ C.1 (Y 31) (5 * b + k) = 0 := by
    rw [hC]
    unfold F_X11_plain
    simp only [zlt]
    obtain ⟨w, hw⟩ : ∃ w : zS, w = (zu (zu (zu (zu (zu u.1 ((u.2.2 a 21).getD 0) p.toNatClampNeg 0) ((u.2.2 a 26).getD 0) p.toNatClampNeg 0) ((u.2.2 a 27).getD 0) p.toNatClampNeg 0) ((u.2.2 a 28).getD 0) p.toNatClampNeg 1) ((u.2.2 a 29).getD 0) p.toNatClampNeg 0, u.2.1, u.2.2) := ⟨_, rfl⟩
    rw [← hw]
    exact (pn_l (τ := u) hYu hpb hb1 10000 0 0 w (by decide) (by omega) (by omega) (by rw [hw]) (fun k hk => absurd hk (by omega))).2
  have n30 := na 30 (by omega)
  have n31 := na 31 (by omega)
  have j19 : ∀ x : Int32, zu C.1 a 32 x a 19 = C.1 a 19 := fun x => zu_j _ _ _ _ _ (by decide)
  simp only [j19, C19] at hr
  have x1 : ((130 : Int32) * p).toInt = ((130 * b : Nat) : Int) := by rw [zb_mul (by rw [e130, hpb]; omega) (by rw [e130, hpb]; omega), e130, hpb]; omega
  have x2 : ((420 : Int32) * p).toInt = ((420 * b : Nat) : Int) := by rw [zb_mul (by rw [e420, hpb]; omega) (by rw [e420, hpb]; omega), e420, hpb]; omega
  have rr : ∀ j i, (j = 30 ∨ j = 31) → r.1 (Y j) i = C.1 (Y j) i := fun j i hj => by
    have nj : ¬ Y j = a := na j (by omega)
    rw [hr]
    show zu (zu (zu (zu C.1 a 32 _) a 38 _) a 41 0) a 42 0 (Y j) i = _
    rw [zu_n _ _ _ nj, zu_n _ _ _ nj, zu_n _ _ _ nj, zu_n _ _ _ nj]
  intro _
  refine ⟨?_, 130 * b, 420 * b, ⟨?_, ?_, ?_⟩, ⟨Nat.le_refl _, Nat.le_refl _⟩, Nat.le_add_right _ _, ?_, fun k hk => ?_⟩
  · rw [hr]
    show (zu (zu (zu (zu C.1 a 32 _) a 38 _) a 41 0) a 42 0 a 19).toInt = _
    rw [zu_j _ _ _ _ _ (by decide), zu_j _ _ _ _ _ (by decide), zu_j _ _ _ _ _ (by decide), zu_j _ _ _ _ _ (by decide), C19]
    exact hpb
  · rw [hr]
    exact fC.1.trans ru
  · rw [hr]
    show (zu (zu (zu (zu C.1 a 32 _) a 38 _) a 41 0) a 42 0 a 32).toInt = _
    rw [zu_j _ _ _ _ _ (by decide), zu_j _ _ _ _ _ (by decide), zu_j _ _ _ _ _ (by decide), zu_s]
    exact x1
  · rw [hr]
    show (zu (zu (zu (zu C.1 a 32 _) a 38 _) a 41 0) a 42 0 a 38).toInt = _
    rw [zu_j _ _ _ _ _ (by decide), zu_j _ _ _ _ _ (by decide), zu_s]
    exact x2
  · show 4 * (130 * b) ≤ 520 * b + _
    omega
  · show (r.1 (Y 30) (5 * b + k)).toInt = (r.1 (Y 31) (5 * b + k)).toInt
    rw [rr 30 _ (by omega), rr 31 _ (by omega), (C3 k hk).1, (C3 k hk).2]
end PLN
