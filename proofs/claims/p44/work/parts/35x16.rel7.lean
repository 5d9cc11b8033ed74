/-! MONTHS, BY THEIR NUMBER: the tree, the dams and the law that rules stay -/
def zit : Nat → Int32 → Int32
  | 0, v => v
  | k + 1, v => zit k (v + (1 : Int32))
/-- what a month writes of the class -/
def zAg (kd : Nat → Nat) (V : zWh) : Nat → Nat → Prop := fun c j => (kd c = 20 ∨ kd c = 21 ∨ kd c = 30 ∨ kd c = 31 ∨ kd c = 32) ∨ c = V.2.2.1 0 ∨ c = V.2.2.2 0 ∨ (c = V.1 0 ∧ j = 4)
section ZREL7
variable {κ : Int} {L1 : List Nat} {kd1 : Nat → Nat} {L2 : List Nat} {kd2 : Nat → Nat} {σ1 σ2 τ1 τ2 s : zS} {m0 x0 : Nat} {V : zWh} {ps pc sl rv sh cd : Nat}
theorem zAg.k {c k : Nat} (h : zT L1 kd1 c k) (hk : k = 20 ∨ k = 21 ∨ k = 30 ∨ k = 31 ∨ k = 32) : ∀ j, zAg kd1 V c j := fun _ => Or.inl (by rw [h.2]; exact hk)
theorem cEnd (hl : zLay L1 kd1 x0 s.2.2 V ps pc sl) (h : zRv L1 kd1 x0 rv sh cd s.2.2) (h6 : s.2.2 rv 6 = some (V.1 0)) : (F_X5_endMonth rv s).1 (V.1 0) 4 = s.1 (V.1 0) 4 + (1 : Int32) ∧ zFr (zAg kd1 V) s (F_X5_endMonth rv s) := by
  obtain ⟨⟨a1, a2, a3, a4⟩, ⟨t0, t1, t2, t3⟩, b, c, d, e, f⟩ := h
  have gc : (s.2.2 rv 1).getD 0 = cd := by rw [a4]; rfl
  have g6 : (s.2.2 rv 6).getD 0 = V.1 0 := by rw [h6]; rfl
  obtain ⟨q0, q1, q2⟩ := hl.gA (k := 0) (by decide)
  obtain ⟨⟨tA, tI, tW, tM⟩, -⟩ := hl.2.2.2.1 0 (by decide)
  have F : zFr (zAg kd1 V) s (F_X5_endMonth rv s) := fr_X5_endMonth zFr.id (zAg.k (b 4 (by omega)) (by decide)) (by rw [gc]; exact zAg.k (c 0 (Or.inl rfl)) (by decide)) (by rw [gc]; exact zAg.k (c 1 (Or.inr rfl)) (by decide)) (fun _ => by rw [g6, q2]; exact Or.inr (Or.inr (Or.inl rfl))) (fun _ => by rw [g6, q1]; exact Or.inr (Or.inl rfl)) (by rw [g6]; exact Or.inr (Or.inr (Or.inr ⟨rfl, rfl⟩)))
  refine ⟨?_, F⟩
  unfold F_X5_endMonth
  simp only [zlt, zlt2, g6]
  obtain ⟨w, hw⟩ : ∃ w, w = F_X5_winnerBy rv (s.1 (V.1 0) 5) s := ⟨_, rfl⟩
  rw [← hw]
  have fw : zFr (fun c _ => kd1 c = 20 ∨ kd1 c = 21 ∨ kd1 c = 32) s w.2 := by
    rw [hw]
    exact fr_X5_winnerBy zFr.id (fun _ => Or.inr (Or.inr (b 4 (by omega)).2)) (fun _ => by rw [gc]; exact Or.inl (c 0 (Or.inl rfl)).2) (fun _ => by rw [gc]; exact Or.inr (Or.inl (c 1 (Or.inr rfl)).2))
  have w4 : w.2.1 (V.1 0) 4 = s.1 (V.1 0) 4 := fw.2 _ _ (show ¬ (kd1 (V.1 0) = 20 ∨ kd1 (V.1 0) = 21 ∨ kd1 (V.1 0) = 32) from by rw [tA.2]; decide)
  have w6 : (w.2.2.2 rv 6).getD 0 = V.1 0 := by rw [fw.rf]; exact g6
  rw [w6]
  by_cases cw : 0 < w.1.toInt
  · rw [if_pos cw]
    obtain ⟨y, hy⟩ : ∃ y, y = F_X1_pay (V.1 0) w.1 (w.2.1 ((w.2.2.2 rv 5).getD 0) 12) w.2 := ⟨_, rfl⟩
    rw [← hy]
    have fy : zFr (fun c _ => c = V.2.2.1 0 ∨ c = V.2.2.2 0) w.2 y := by
      rw [hy]
      exact fr_X1_pay zFr.id (fun _ => by rw [fw.rf, q2]; exact Or.inr rfl) (fun _ => by rw [fw.rf, q1]; exact Or.inl rfl)
    have y4 : y.1 (V.1 0) 4 = w.2.1 (V.1 0) 4 := fy.2 _ _ (by
      rintro (z | z)
      · exact zNk tA tW (by decide) z
      · exact zNk tA tM (by decide) z)
    have y6 : (y.2.2 rv 6).getD 0 = V.1 0 := by rw [fy.rf]; exact w6
    rw [y6]
    show zu y.1 (V.1 0) 4 (y.1 (V.1 0) 4 + (1 : Int32)) (V.1 0) 4 = _
    rw [zu_s, y4, w4]
  · rw [if_neg cw]
    show zu w.2.1 (V.1 0) 4 (w.2.1 (V.1 0) 4 + (1 : Int32)) (V.1 0) 4 = _
    rw [zu_s, w4]
theorem cThr_l (hl : zLay L1 kd1 x0 s.2.2 V ps pc sl) (h : zRv L1 kd1 x0 rv sh cd s.2.2) (h6 : s.2.2 rv 6 = some (V.1 0)) {t c : Nat} {p v : Int32} {n : Nat} (hp : p.toInt = n) (hn : n ≤ 60) : ∀ (N : Nat) (x : Int32) (i : Nat) (τ : zS), x.toInt = i → i ≤ n → n - i < N → zFr (zAg kd1 V) s τ → zFr (zAg kd1 V) s (F_X5_goThrough_9 rv t c p v N x τ) ∧ (F_X5_goThrough_9 rv t c p v N x τ).1 (V.1 0) 4 = zit (n - i) (τ.1 (V.1 0) 4) := by
  intro N
  induction N with
  | zero => intro x i τ _ _ hm; exact absurd hm (by omega)
  | succ N ih =>
    intro x i τ hx hi hm g
    rw [F_X5_goThrough_9]
    simp only [zlt, zlt2]
    by_cases c0 : i < n
    · rw [if_pos (by omega)]
      have fs : zFr (zAg kd1 V) τ (F_X9_isStorm t v (τ.1 c 4) τ).2 := fr_X9_isStorm zFr.id
      have fs0 : zFr (fun _ _ => False) τ (F_X9_isStorm t v (τ.1 c 4) τ).2 := fr_X9_isStorm zFr.id
      obtain ⟨u, hu⟩ : ∃ u, u = (F_X9_isStorm t v (τ.1 c 4) τ).2 := ⟨_, rfl⟩
      rw [← hu] at fs fs0 ⊢
      obtain ⟨⟨tA, tI, tW, tM⟩, -⟩ := hl.2.2.2.1 0 (by decide)
      have key : ∀ more : Int32, zFr (zAg kd1 V) s (F_X5_goThrough_9 rv t c p v N (x + (1 : Int32)) (F_X5_endMonth rv (F_X5_fall rv more u))) ∧ (F_X5_goThrough_9 rv t c p v N (x + (1 : Int32)) (F_X5_endMonth rv (F_X5_fall rv more u))).1 (V.1 0) 4 = zit (n - i) (τ.1 (V.1 0) 4) := fun more => by
        have gu := g.tr fs
        have ru : u.2.2 = s.2.2 := gu.rf
        obtain ⟨⟨a1, a2, a3, a4⟩, ⟨t0, t1, t2, t3⟩, b, cc, d, e, f⟩ := id h
        have gc : (u.2.2 rv 1).getD 0 = cd := by rw [ru, a4]; rfl
        have ff : zFr (fun c _ => kd1 c = 20 ∨ kd1 c = 21 ∨ kd1 c = 30 ∨ kd1 c = 31 ∨ kd1 c = 32) u (F_X5_fall rv more u) := fr_X5_fall zFr.id (fun _ => by rw [gc, ru]; exact Or.inl (cc 0 (Or.inl rfl)).2) (fun _ => by rw [gc, ru]; exact Or.inr (Or.inl (cc 1 (Or.inr rfl)).2)) (fun _ => by rw [ru]; exact Or.inr (Or.inr (Or.inl (b 2 (by omega)).2))) (fun _ => by rw [ru]; exact Or.inr (Or.inr (Or.inr (Or.inl (b 3 (by omega)).2))))
        have gf := gu.tr (ff.up (B := zAg kd1 V) (fun _ _ q => Or.inl q))
        have rf : (F_X5_fall rv more u).2.2 = s.2.2 := gf.rf
        obtain ⟨e4, ge⟩ := cEnd (s := F_X5_fall rv more u) (by rw [rf]; exact hl) (by rw [rf]; exact h) (by rw [rf]; exact h6)
        have f4 : (F_X5_fall rv more u).1 (V.1 0) 4 = u.1 (V.1 0) 4 := ff.2 _ _ (show ¬ (kd1 (V.1 0) = 20 ∨ kd1 (V.1 0) = 21 ∨ kd1 (V.1 0) = 30 ∨ kd1 (V.1 0) = 31 ∨ kd1 (V.1 0) = 32) from by rw [tA.2]; decide)
        have u4 : u.1 (V.1 0) 4 = τ.1 (V.1 0) 4 := fs0.2 _ _ id
        obtain ⟨r1, r2⟩ := ih (x + (1 : Int32)) (i + 1) _ (zp1 hx (by omega)) (by omega) (by omega) (gf.tr ge)
        refine ⟨r1, r2.trans ?_⟩
        rw [e4, f4, u4]
        obtain ⟨k, hk⟩ : ∃ k, n - i = k + 1 := ⟨n - i - 1, by omega⟩
        rw [show n - (i + 1) = k by omega, hk]
        rfl
      split
      · exact key _
      · exact key _
    · rw [if_neg (by omega)]
      have : n - i = 0 := by omega
      rw [this]
      exact ⟨g, rfl⟩
/-- months gone through by now: the number of the month, and what is left as it was -/
theorem cThr (hl : zLay L1 kd1 x0 σ1.2.2 V ps pc sl) (h : zRv L1 kd1 x0 rv sh cd σ1.2.2) {t : Nat} {p v : Int32} {n : Nat} (hp : p.toInt = n) (hn : n ≤ 60) : (∀ a j, ¬ (a = rv ∧ (j = 5 ∨ j = 6)) → (F_X5_goThrough rv t (V.1 0) p v σ1).2.2 a j = σ1.2.2 a j) ∧ (F_X5_goThrough rv t (V.1 0) p v σ1).1 (V.1 0) 4 = zit n (σ1.1 (V.1 0) 4) ∧ ∀ c j, ¬ (zAg kd1 V c j ∨ kd1 c = 6 ∨ kd1 c = 33 ∨ kd1 c = 34 ∨ kd1 c = 35 ∨ kd1 c = 36 ∨ kd1 c = 37 ∨ kd1 c = 38) → (F_X5_goThrough rv t (V.1 0) p v σ1).1 c j = σ1.1 c j := by
  obtain ⟨⟨tA, tI, tW, tM⟩, -⟩ := hl.2.2.2.1 0 (by decide)
  obtain ⟨g1, g2, g3⟩ := zForm (V := V) h t (V.1 0)
  have ff : ∀ c j, ¬ (kd1 c = 6 ∨ kd1 c = 33 ∨ kd1 c = 34 ∨ kd1 c = 35 ∨ kd1 c = 36 ∨ kd1 c = 37 ∨ kd1 c = 38) → (F_X5_form rv t (V.1 0) σ1).1 c j = σ1.1 c j := fun c j hc => by
    obtain ⟨⟨a1, a2, a3, a4⟩, ⟨t0, t1, t2, t3⟩, b, cc, d, e, f⟩ := id h
    have ns : ¬ sh = rv := zNk t2 t1 (by decide)
    obtain ⟨s, hs⟩ : ∃ s : zS, s = (σ1.1, σ1.2.1, zu (zu σ1.2.2 rv 5 (some t)) rv 6 (some (V.1 0))) := ⟨_, rfl⟩
    have g0 : (s.2.2 rv 0).getD 0 = sh := by
      rw [hs]
      show (zu (zu σ1.2.2 rv 5 _) rv 6 _ rv 0).getD 0 = sh
      rw [zu_j _ _ _ _ _ (by decide), zu_j _ _ _ _ _ (by decide), a3]
      rfl
    have E : F_X5_form rv t (V.1 0) σ1 = F_X6_form sh t (V.1 0) s := by
      rw [← g0, hs]
      unfold F_X5_form
      simp only [zlt]
    have sj : ∀ j, (s.2.2 sh j) = σ1.2.2 sh j := fun j => by
      rw [hs]
      show zu (zu σ1.2.2 rv 5 _) rv 6 _ sh j = _
      rw [zu_n _ _ _ ns, zu_n _ _ _ ns]
    have P : zFr (fun c _ => kd1 c = 6 ∨ kd1 c = 33 ∨ kd1 c = 34 ∨ kd1 c = 35 ∨ kd1 c = 36 ∨ kd1 c = 37 ∨ kd1 c = 38) s (F_X6_form sh t (V.1 0) s) := fr_X6_form zFr.id (Or.inl t2.2) (fun _ => by rw [sj]; have := (d 1 (by omega) (by omega)).2; omega) (fun _ => by rw [sj]; have := (d 2 (by omega) (by omega)).2; omega) (fun _ => by rw [sj]; have := (d 3 (by omega) (by omega)).2; omega) (fun _ => by rw [sj]; have := (d 6 (by omega) (by omega)).2; omega) (fun _ => by rw [sj]; have := (d 4 (by omega) (by omega)).2; omega)
    rw [E, P.2 c j hc, hs]
  obtain ⟨k1, k2⟩ := cThr_l (s := F_X5_form rv t (V.1 0) σ1) (t := t) (c := V.1 0) (v := v) (hl.pv h.2.1.2.1 g1) (h.keep g1) g3 hp hn 10000 0 0 _ (by decide) (by omega) (by omega) zFr.id
  have E : F_X5_goThrough rv t (V.1 0) p v σ1 = F_X5_goThrough_9 rv t (V.1 0) p v 10000 0 (F_X5_form rv t (V.1 0) σ1) := by
    unfold F_X5_goThrough
    simp only [zlt]
  rw [E]
  refine ⟨fun a j n => by rw [k1.rf]; exact g1.1 a j n, k2.trans ?_, fun c j hc => (k1.2 c j (fun q => hc (Or.inl q))).trans (ff c j (fun q => hc (Or.inr q)))⟩
  rw [ff _ _ (by rw [tA.2]; decide)]
  rfl
end ZREL7
