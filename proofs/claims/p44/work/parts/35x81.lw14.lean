/-! THE REFERENCE PUTS DOWN A LAW -/
/-- what an expression writes -/
def zAx (Y : Nat → Nat) (a : Nat) : Nat → Nat → Prop := fun c i => (c = a ∧ i ≠ 32 ∧ i ≠ 19) ∨ c = Y 39 ∨ c = Y 40 ∨ c = Y 43
/-- where the putting down stands: branches, codes -/
def zLs (a : Nat) (R : Nat → Nat → Option Nat) (nb nc : Nat) (τ : zS) : Prop := τ.2.2 = R ∧ (τ.1 a 32).toInt = nb ∧ (τ.1 a 38).toInt = nc
/-- what stands ahead stays -/
def zPx (a : Nat) (Y : Nat → Nat) (nb nc : Nat) (τ τ' : zS) : Prop := (∀ i, i < nc → τ'.1 (Y 39) i = τ.1 (Y 39) i ∧ τ'.1 (Y 40) i = τ.1 (Y 40) i) ∧ (∀ j i, 33 ≤ j → j ≤ 37 → i < nb → τ'.1 (Y j) i = τ.1 (Y j) i) ∧ (∀ j, (j = 30 ∨ j = 31) → τ'.1 (Y j) = τ.1 (Y j)) ∧ τ'.1 a 19 = τ.1 a 19
section YL
variable {a k q v nm nO m nb nc cl : Nat} {Y : Nat → Nat} {T : zTn} {R : Nat → Nat → Option Nat} {τ τ' τ'' : zS} {s : zA}
theorem zPx.tr {nb' nc' : Nat} (h : zPx a Y nb nc τ τ') (g : zPx a Y nb' nc' τ' τ'') (h1 : nb ≤ nb') (h2 : nc ≤ nc') : zPx a Y nb nc τ τ'' := ⟨fun i hi => ⟨(g.1 i (by omega)).1.trans (h.1 i hi).1, (g.1 i (by omega)).2.trans (h.1 i hi).2⟩, fun j i j1 j2 hi => (g.2.1 j i j1 j2 (by omega)).trans (h.2.1 j i j1 j2 hi), fun j hj => (g.2.2.1 j hj).trans (h.2.2.1 j hj), g.2.2.2.trans h.2.2.2⟩
theorem yQ {j : Nat} (h : j = 30 ∨ j = 31 ∨ (33 ≤ j ∧ j ≤ 37) ∨ j = 39 ∨ j = 40 ∨ j = 43) : zQs j := by unfold zQs; omega
theorem yD3 (hY : zYz Y a R) (hR : τ.2.2 = R) : zD3 a (Y 43) (Y 39) (Y 40) τ.2.2 := by
  rw [hR]
  have q43 : zQs 43 := yQ (by omega)
  have q39 : zQs 39 := yQ (by omega)
  have q40 : zQs 40 := yQ (by omega)
  exact ⟨⟨(hY.1 43 q43).1, (hY.1 39 q39).1, (hY.1 40 q40).1⟩, ⟨(hY.1 43 q43).2, (hY.1 39 q39).2, (hY.1 40 q40).2⟩, hY.2 43 39 q43 q39 (by decide), hY.2 43 40 q43 q40 (by decide), hY.2 39 40 q39 q40 (by decide)⟩
/-- frames of zAx -/
theorem yAx (hY : zYz Y a R) (g : zFi (zAx Y a) τ τ') (h : zLs a R nb nc τ) : τ'.2.2 = R ∧ (τ'.1 a 32).toInt = nb ∧ τ'.1 a 19 = τ.1 a 19 ∧ ∀ j, (j = 30 ∨ j = 31 ∨ (33 ≤ j ∧ j ≤ 37)) → τ'.1 (Y j) = τ.1 (Y j) := by
  have n39 := (hY.1 39 (yQ (by omega))).2
  have n40 := (hY.1 40 (yQ (by omega))).2
  have n43 := (hY.1 43 (yQ (by omega))).2
  refine ⟨g.1.trans h.1, ?_, g.2 a 19 (by
    rintro (z | z | z | z)
    · exact z.2.2 rfl
    · exact n39 z.symm
    · exact n40 z.symm
    · exact n43 z.symm), fun j hj => funext (fun i => g.2 _ _ ?_)⟩
  · rw [g.2 a 32 (by
      rintro (z | z | z | z)
      · exact z.2.1 rfl
      · exact n39 z.symm
      · exact n40 z.symm
      · exact n43 z.symm)]
    exact h.2.1
  · have qj : zQs j := yQ (by omega)
    rintro (z | z | z | z)
    · exact (hY.1 j qj).2 z.1
    · exact hY.2 j 39 qj (yQ (by omega)) (by omega) z
    · exact hY.2 j 40 qj (yQ (by omega)) (by omega) z
    · exact hY.2 j 43 qj (yQ (by omega)) (by omega) z
theorem yMu (hY : zYz Y a R) (hR : τ.2.2 = R) (x : Int32) : zFi (zAx Y a) τ (F_X11_must a x τ) := fi_X11_must zFi.id (Or.inl ⟨rfl, by decide, by decide⟩) (Or.inl ⟨rfl, by decide, by decide⟩) (Or.inl ⟨rfl, by decide, by decide⟩)
theorem yGo : zFi (zAx Y a) τ (F_X11_goesOn a τ) := fi_X11_goesOn zFi.id (Or.inl ⟨rfl, by decide, by decide⟩) (Or.inl ⟨rfl, by decide, by decide⟩) (Or.inl ⟨rfl, by decide, by decide⟩)
/-- a step that touches no code -/
theorem ySt (hY : zYz Y a R) (h : zLs a R nb nc τ) (g : zFi (fun c i => c = a ∧ (i = 11 ∨ i = 13 ∨ i = 14)) τ τ') : zLs a R nb nc τ' ∧ zPx a Y nb nc τ τ' ∧ ∀ j, zQs j → τ'.1 (Y j) = τ.1 (Y j) := by
  have r : ∀ j, zQs j → τ'.1 (Y j) = τ.1 (Y j) := fun j hj => funext (fun i => g.2 _ _ (fun z => (hY.1 j hj).2 z.1))
  refine ⟨⟨g.1.trans h.1, by rw [g.2 a 32 (by omega)]; exact h.2.1, by rw [g.2 a 38 (by omega)]; exact h.2.2⟩, ⟨fun i _ => ⟨by rw [r 39 (yQ (by omega))], by rw [r 40 (yQ (by omega))]⟩, fun j i j1 j2 _ => by rw [r j (yQ (by omega))], fun j hj => r j (yQ (by omega)), g.2 a 19 (by omega)⟩, r⟩
theorem yMu0 (x : Int32) : zFi (fun c i => c = a ∧ (i = 11 ∨ i = 13 ∨ i = 14)) τ (F_X11_must a x τ) := fi_X11_must zFi.id ⟨rfl, by decide⟩ ⟨rfl, by decide⟩ ⟨rfl, by decide⟩
theorem yGo0 : zFi (fun c i => c = a ∧ (i = 11 ∨ i = 13 ∨ i = 14)) τ (F_X11_goesOn a τ) := fi_X11_goesOn zFi.id ⟨rfl, by decide⟩ ⟨rfl, by decide⟩ ⟨rfl, by decide⟩
/-- an expression -/
theorem yEx (hd : zWd a k q v nm nO) (hT : zTm T m) (hK : zTK T m) (hY : zYz Y a R) (h : zXo a k q v nm nO m T τ s) (hl : zLs a R nb nc τ) (hc : nc ≤ 2000) (c : s.1 = 0) (hz : (aSum T s).1 = 0) : zLs a R nb (nc + (aCo T s).length) (F_X11_expression a τ) ∧ zHo (Y 39) (Y 40) (F_X11_expression a τ) nc (aCo T s) ∧ zPx a Y nb nc τ (F_X11_expression a τ) ∧ (aCo T s).length + s.2.2.1 ≤ (aSum T s).2.2.1 ∧ ∀ j, (j = 30 ∨ j = 31 ∨ (33 ≤ j ∧ j ≤ 37)) → (F_X11_expression a τ).1 (Y j) = τ.1 (Y j) := by
  obtain ⟨e1, e2, e3, e4⟩ := yExpr hd hT hK h (yD3 hY hl.1) hl.2.2 hc c hz
  have w39 : (τ.2.2 a 39).getD 0 = Y 39 := by rw [hl.1]; exact (hY.1 39 (yQ (by omega))).1
  have w40 : (τ.2.2 a 40).getD 0 = Y 40 := by rw [hl.1]; exact (hY.1 40 (yQ (by omega))).1
  have w43 : (τ.2.2 a 43).getD 0 = Y 43 := by rw [hl.1]; exact (hY.1 43 (yQ (by omega))).1
  have g : zFi (zAx Y a) τ (F_X11_expression a τ) := fi_X11_expression zFi.id (Or.inl ⟨rfl, by decide, by decide⟩) (Or.inl ⟨rfl, by decide, by decide⟩) (Or.inl ⟨rfl, by decide, by decide⟩) (fun j => by rw [w39]; exact Or.inr (Or.inl rfl)) (fun j => by rw [w40]; exact Or.inr (Or.inr (Or.inl rfl))) (Or.inl ⟨rfl, by decide, by decide⟩) (Or.inl ⟨rfl, by decide, by decide⟩) (fun j => by rw [w43]; exact Or.inr (Or.inr (Or.inr rfl))) (Or.inl ⟨rfl, by decide, by decide⟩)
  obtain ⟨g1, g2, g19, g3⟩ := yAx hY g hl
  exact ⟨⟨g1, g2, by rw [e2]; omega⟩, e1, ⟨e4, fun j i j1 j2 _ => by rw [g3 j (by omega)], fun j hj => g3 j (by omega), g19⟩, e3, g3⟩
/-- a row written at nb -/
theorem yRw (hY : zYz Y a R) (hl : zLs a R nb nc τ) {j : Nat} (hj : 33 ≤ j ∧ j ≤ 37) (x : Int32) : zLs a R nb nc (zu τ.1 (Y j) nb x, τ.2.1, τ.2.2) ∧ zPx a Y nb nc τ (zu τ.1 (Y j) nb x, τ.2.1, τ.2.2) ∧ zu τ.1 (Y j) nb x (Y j) nb = x ∧ (∀ i, zQs i → i ≠ j → zu τ.1 (Y j) nb x (Y i) = τ.1 (Y i)) := by
  have qj : zQs j := yQ (by omega)
  have na := (hY.1 j qj).2
  have r : ∀ i, zQs i → i ≠ j → zu τ.1 (Y j) nb x (Y i) = τ.1 (Y i) := fun i hi n => zu_n _ _ _ (hY.2 i j hi qj n)
  refine ⟨⟨hl.1, ?_, ?_⟩, ⟨fun i _ => ⟨?_, ?_⟩, fun i l i1 i2 hl' => ?_, fun i hi => r i (yQ (by omega)) (by omega), by show zu τ.1 (Y j) nb x a 19 = _; rw [zu_n _ _ _ (fun z => na z.symm)]⟩, zu_s _ _ _ _, r⟩
  · show (zu τ.1 (Y j) nb x a 32).toInt = _
    rw [zu_n _ _ _ (fun z => na z.symm)]
    exact hl.2.1
  · show (zu τ.1 (Y j) nb x a 38).toInt = _
    rw [zu_n _ _ _ (fun z => na z.symm)]
    exact hl.2.2
  · show zu τ.1 (Y j) nb x (Y 39) i = _
    rw [r 39 (yQ (by omega)) (by omega)]
  · show zu τ.1 (Y j) nb x (Y 40) i = _
    rw [r 40 (yQ (by omega)) (by omega)]
  · show zu τ.1 (Y j) nb x (Y i) l = _
    by_cases e : i = j
    · rw [e, zu_j _ _ _ _ _ (by omega)]
    · rw [r i (yQ (by omega)) e]
/-- a value of a branch -/
theorem yTm (hd : zWd a k q v nm nO) (hT : zTm T m) (hK : zTK T m) (hY : zYz Y a R) (h : zXo a k q v nm nO m T τ s) (hl : zLs a R nb nc τ) (hl0 : cl ≤ nc) (hc : nc ≤ 2000) (hb : nb ≤ 2000) (c : s.1 = 0) (hz : (aSum T s).1 = 0) : zLs a R (nb + 1) (nc + (aCo T s).length) (F_X11_term a τ) ∧ zSg Y cl (F_X11_term a τ) (nc + (aCo T s).length) ((F_X11_term a τ).1 (Y 36) nb) ((F_X11_term a τ).1 (Y 37) nb) (aCo T s) ∧ ((F_X11_term a τ).1 (Y 36) nb).toInt = nc ∧ zPx a Y nb nc τ (F_X11_term a τ) ∧ (aCo T s).length + s.2.2.1 ≤ (aSum T s).2.2.1 ∧ ∀ j, (33 ≤ j ∧ j ≤ 35) → (F_X11_term a τ).1 (Y j) = τ.1 (Y j) := by
  have e1 : (1 : Int32).toInt = 1 := by decide
  have q36 : zQs 36 := yQ (by omega)
  have q37 : zQs 37 := yQ (by omega)
  have g36 : (R a 36).getD 0 = Y 36 := (hY.1 36 q36).1
  have g37 : (R a 37).getD 0 = Y 37 := (hY.1 37 q37).1
  have n36 := (hY.1 36 q36).2
  have n37 := (hY.1 37 q37).2
  have nn : (τ.1 a 32).toNatClampNeg = nb := by rw [ztn, hl.2.1]; rfl
  obtain ⟨a1, a2, a3, a4⟩ := yRw hY hl (j := 36) (by omega) (τ.1 a 38)
  have h1 := xArr h 36 nb (τ.1 a 38) q36
  have w36 : (τ.2.2 a 36).getD 0 = Y 36 := by rw [hl.1]; exact g36
  rw [w36] at h1
  have z13 : (zu τ.1 (Y 36) nb (τ.1 a 38) a 13).toInt = 0 := h1.1.2.1.trans c
  obtain ⟨b1, b2, b3, b4, b5⟩ := yEx hd hT hK hY h1 a1 hc c hz
  obtain ⟨t, ht⟩ : ∃ t, t = F_X11_expression a (zu τ.1 (Y 36) nb (τ.1 a 38), τ.2.1, τ.2.2) := ⟨_, rfl⟩
  rw [← ht] at b1 b2 b3 b5
  obtain ⟨c1, c2, c3, c4⟩ := yRw hY b1 (j := 37) (by omega) (t.1 a 38)
  have tn : (t.1 a 32).toNatClampNeg = nb := by rw [ztn, b1.2.1]; rfl
  have tw : (t.2.2 a 37).getD 0 = Y 37 := by rw [b1.1]; exact g37
  have E : F_X11_term a τ = (zu (zu t.1 (Y 37) nb (t.1 a 38)) a 32 (t.1 a 32 + (1 : Int32)), t.2.1, t.2.2) := by
    unfold F_X11_term
    simp only [zlt, w36, nn]
    rw [if_pos z13, ← ht]
    simp only [tw, tn, zu_n _ _ _ (fun z : a = Y 37 => n37 z.symm)]
  rw [E]
  have fr : ∀ j, zQs j → zu (zu t.1 (Y 37) nb (t.1 a 38)) a 32 (t.1 a 32 + (1 : Int32)) (Y j) = zu t.1 (Y 37) nb (t.1 a 38) (Y j) := fun j hj => zu_n _ _ _ (hY.1 j hj).2
  have r36 : zu (zu t.1 (Y 37) nb (t.1 a 38)) a 32 (t.1 a 32 + (1 : Int32)) (Y 36) nb = τ.1 a 38 := by rw [fr 36 q36, c4 36 q36 (by decide), b5 36 (by omega)]; exact a3
  have r37 : zu (zu t.1 (Y 37) nb (t.1 a 38)) a 32 (t.1 a 32 + (1 : Int32)) (Y 37) nb = t.1 a 38 := by rw [fr 37 q37]; exact c3
  have q39 : zQs 39 := yQ (by omega)
  have q40 : zQs 40 := yQ (by omega)
  have p2 : zPx a Y nb nc τ (zu (zu t.1 (Y 37) nb (t.1 a 38)) a 32 (t.1 a 32 + (1 : Int32)), t.2.1, t.2.2) := by
    refine ((a2.tr b3 (Nat.le_refl _) (Nat.le_refl _)).tr c2 (Nat.le_refl _) (by omega)).tr (nb' := nb) (nc' := nc) ⟨fun i _ => ⟨?_, ?_⟩, fun j i j1 j2 _ => ?_, fun j hj => fr j (yQ (by omega)), ?_⟩ (Nat.le_refl _) (Nat.le_refl _)
    · show zu (zu t.1 (Y 37) nb (t.1 a 38)) a 32 (t.1 a 32 + (1 : Int32)) (Y 39) i = _
      rw [fr 39 q39]
    · show zu (zu t.1 (Y 37) nb (t.1 a 38)) a 32 (t.1 a 32 + (1 : Int32)) (Y 40) i = _
      rw [fr 40 q40]
    · show zu (zu t.1 (Y 37) nb (t.1 a 38)) a 32 (t.1 a 32 + (1 : Int32)) (Y j) i = _
      rw [fr j (yQ (by omega))]
    · show zu (zu t.1 (Y 37) nb (t.1 a 38)) a 32 (t.1 a 32 + (1 : Int32)) a 19 = zu t.1 (Y 37) nb (t.1 a 38) a 19
      rw [zu_j _ _ _ _ _ (by decide)]
  refine ⟨⟨b1.1, ?_, ?_⟩, ⟨nc, ?_, ?_, ?_, Nat.le_refl _, hl0⟩, ?_, p2, b4, fun j hj => ?_⟩
  · show (zu (zu t.1 (Y 37) nb (t.1 a 38)) a 32 (t.1 a 32 + (1 : Int32)) a 32).toInt = _
    rw [zu_s, zb_add (by rw [e1, b1.2.1]; omega) (by rw [e1, b1.2.1]; omega), e1, b1.2.1]
    omega
  · show (zu (zu t.1 (Y 37) nb (t.1 a 38)) a 32 (t.1 a 32 + (1 : Int32)) a 38).toInt = _
    rw [zu_j _ _ _ _ _ (by decide), zu_n _ _ _ (fun z => n37 z.symm)]
    exact b1.2.2
  · show (zu (zu t.1 (Y 37) nb (t.1 a 38)) a 32 (t.1 a 32 + (1 : Int32)) (Y 36) nb).toInt = _
    rw [r36]
    exact hl.2.2
  · show (zu (zu t.1 (Y 37) nb (t.1 a 38)) a 32 (t.1 a 32 + (1 : Int32)) (Y 37) nb).toInt = _
    rw [r37, b1.2.2]
    omega
  · refine zHo_cg _ _ (fun i _ _ => ⟨?_, ?_⟩) b2
    · show zu (zu t.1 (Y 37) nb (t.1 a 38)) a 32 (t.1 a 32 + (1 : Int32)) (Y 39) i = _
      rw [fr 39 q39, c4 39 q39 (by decide)]
    · show zu (zu t.1 (Y 37) nb (t.1 a 38)) a 32 (t.1 a 32 + (1 : Int32)) (Y 40) i = _
      rw [fr 40 q40, c4 40 q40 (by decide)]
  · show (zu (zu t.1 (Y 37) nb (t.1 a 38)) a 32 (t.1 a 32 + (1 : Int32)) (Y 36) nb).toInt = _
    rw [r36]
    exact hl.2.2
  · show zu (zu t.1 (Y 37) nb (t.1 a 38)) a 32 (t.1 a 32 + (1 : Int32)) (Y j) = _
    have qj : zQs j := yQ (by omega)
    rw [fr j qj, c4 j qj (by omega), b5 j (by omega)]
    exact a4 j qj (by omega)
end YL
