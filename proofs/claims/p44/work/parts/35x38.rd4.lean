/-! WHICH TELLING IT IS, the reference's side -/
/-- a number told, put down on the side that is told -/
noncomputable def mB1 (a j : Nat) (lo hi : Int32) (t : zS) : zS := (zu (F_X11_bounded a lo hi t).2.1 ((t.2.2 a j).getD 0) (t.1 a 19).toNatClampNeg (F_X11_bounded a lo hi t).1, (F_X11_bounded a lo hi t).2.2.1, (F_X11_bounded a lo hi t).2.2.2)
section XDISP
variable {a k q v nm nO m : Nat} {T : zTn} {τ : zS} {s : zA}
theorem xDisp (hd : zWd a k q v nm nO) (hT : zTm T m) (hK : zTK T m) (h : zXo a k q v nm nO m T τ s) (hs : s.1 = 0) :
    (T.1 s.2.2.1 = 0 → s.2.2.2.2.2.1 = 0 → F_X11_tellOne a τ = F_X11_tellMouth a (F_X11_goesOn a τ)) ∧
    (T.1 s.2.2.1 = 0 → s.2.2.2.2.2.1 ≠ 0 → F_X11_tellOne a τ = F_X11_fail a 2 τ) ∧
    (T.1 s.2.2.1 = 1 → s.2.2.2.2.2.2.1 ≠ 11 → F_X11_tellOne a τ = F_X11_tellPlace a (F_X11_goesOn a τ)) ∧
    (T.1 s.2.2.1 = 1 → s.2.2.2.2.2.2.1 = 11 → F_X11_tellOne a τ = F_X11_fail a 2 τ) ∧
    (2 ≤ T.1 s.2.2.1 → T.1 s.2.2.1 ≤ 6 → ∃ p : Int32, p.toInt = T.1 s.2.2.1 - 2 ∧ F_X11_tellOne a τ = F_X11_tellLaw a p (F_X11_goesOn a τ)) ∧
    (T.1 s.2.2.1 = 7 → F_X11_tellOne a τ = F_X11_must a 4 (mB1 a 27 0 99 (mB1 a 26 0 100 (F_X11_goesOn a τ)))) ∧
    (T.1 s.2.2.1 = 8 → F_X11_tellOne a τ = F_X11_must a 4 (mB1 a 28 0 99 (F_X11_goesOn a τ))) ∧
    (T.1 s.2.2.1 = 9 → F_X11_tellOne a τ = F_X11_must a 4 (mB1 a 29 0 9999 (F_X11_goesOn a τ))) ∧
    (T.1 s.2.2.1 > 9 → F_X11_tellOne a τ = F_X11_fail a 1 τ) := by
  obtain ⟨r1, r2, r3, r4, r5, r6, r7, r8, r9⟩ := h.1.2.2.2.2 hs
  have e5 : (τ.2.2 a 5).getD 0 = k := by rw [h.1.1.1.1]; rfl
  have ei : (τ.1 a 11).toNatClampNeg = s.2.2.1 := by rw [ztn, r2]; rfl
  have ek := (h.1.1.2.1 _ r1).1
  have rg := hT.2.1 _ r1
  have e11 : (11 : Int32).toInt = 11 := by decide
  have e22 : (22 : Int32).toInt = 22 := by decide
  have e26 : (26 : Int32).toInt = 26 := by decide
  have h13 := h.1.2.1.trans hs
  have zr : ∀ i : Int, 0 ≤ i → i ≤ 34 → zrho i = zrho (T.1 s.2.2.1) → T.1 s.2.2.1 = i := fun i h1 h2 z => zrho_inj _ _ rg.1 rg.2 h1 h2 z.symm
  have p2 := xFail hd h 2 2 (by decide) (by decide)
  have f2 : 0 < ((F_X11_fail a 2 τ).1 a 13).toInt := by
    have f : (aFail T 2 s).1 ≠ 0 := aFail_1 (by decide)
    have := p2.1.2.1
    have := p2.1.2.2.1
    omega
  have p1 := xFail hd h 1 1 (by decide) (by decide)
  have f1 : 0 < ((F_X11_fail a 1 τ).1 a 13).toInt := by
    have f : (aFail T 1 s).1 ≠ 0 := aFail_1 (by decide)
    have := p1.1.2.1
    have := p1.1.2.2.1
    omega
  obtain ⟨r, hr⟩ : ∃ r, r = F_X11_tellOne a τ := ⟨_, rfl⟩
  rw [← hr]
  unfold F_X11_tellOne at hr
  simp only [zlt, zlt2, e5, ei, e11, e26, r6, r7] at hr
  generalize hκ : τ.1 k s.2.2.1 = κ at ek hr
  have e : (κ - (22 : Int32)).toInt = κ.toInt - 22 := by
    have zb : ∀ b : Fin 35, 0 ≤ zrho b.val ∧ zrho b.val ≤ 41 := by decide +kernel
    have zb2 := zb ⟨(T.1 s.2.2.1).toNat, by omega⟩
    simp only at zb2
    rw [show (((T.1 s.2.2.1).toNat : Nat) : Int) = T.1 s.2.2.1 by omega, ← ek] at zb2
    rw [zb_sub (by rw [e22]; omega) (by rw [e22]; omega), e22]
  refine ⟨fun c0 cm => ?_, fun c0 cm => ?_, fun c1 cm => ?_, fun c1 cm => ?_, fun c2 c6 => ?_, fun c7 => ?_, fun c8 => ?_, fun c9 => ?_, fun c10 => ?_⟩
  · have k0 : κ.toInt = 20 := by rw [ek, c0]; decide
    rw [if_pos k0, if_pos cm, if_neg (by omega)] at hr
    exact hr
  · have k0 : κ.toInt = 20 := by rw [ek, c0]; decide
    rw [if_pos k0, if_neg cm, if_pos f2] at hr
    exact hr
  · have k1 : κ.toInt = 21 := by rw [ek, c1]; decide
    rw [if_neg (by omega), if_pos k1, if_neg cm, if_neg (by omega)] at hr
    exact hr
  · have k1 : κ.toInt = 21 := by rw [ek, c1]; decide
    rw [if_neg (by omega), if_pos k1, if_pos cm, if_pos f2] at hr
    exact hr
  · have kk : κ.toInt = T.1 s.2.2.1 + 20 := by
      rw [ek]
      rcases (show T.1 s.2.2.1 = 2 ∨ T.1 s.2.2.1 = 3 ∨ T.1 s.2.2.1 = 4 ∨ T.1 s.2.2.1 = 5 ∨ T.1 s.2.2.1 = 6 by omega) with z | z | z | z | z <;> (rw [z]; decide)
    refine ⟨κ - (22 : Int32), by omega, ?_⟩
    have L : (if (κ - (22 : Int32)).toInt < 0 then (if 0 < ((F_X11_fail a 1 τ).1 a 13).toInt then F_X11_fail a 1 τ else F_X11_tellLaw a (κ - (22 : Int32)) (F_X11_goesOn a (F_X11_fail a 1 τ))) else if 26 < κ.toInt then (if 0 < ((F_X11_fail a 1 τ).1 a 13).toInt then F_X11_fail a 1 τ else F_X11_tellLaw a (κ - (22 : Int32)) (F_X11_goesOn a (F_X11_fail a 1 τ))) else if 0 < (τ.1 a 13).toInt then τ else F_X11_tellLaw a (κ - (22 : Int32)) (F_X11_goesOn a τ)) = F_X11_tellLaw a (κ - (22 : Int32)) (F_X11_goesOn a τ) := by rw [if_neg (by omega), if_neg (by omega), if_neg (by omega)]
    rw [if_neg (by omega), if_neg (by omega)] at hr
    rcases (show κ.toInt = 22 ∨ κ.toInt = 23 ∨ κ.toInt = 24 ∨ κ.toInt = 25 ∨ κ.toInt = 26 by omega) with z | z | z | z | z
    · rw [if_pos z] at hr; exact hr.trans L
    · rw [if_neg (by omega), if_pos z] at hr; exact hr.trans L
    · rw [if_neg (by omega), if_neg (by omega), if_pos z] at hr; exact hr.trans L
    · rw [if_neg (by omega), if_neg (by omega), if_neg (by omega), if_pos z] at hr; exact hr.trans L
    · rw [if_neg (by omega), if_neg (by omega), if_neg (by omega), if_neg (by omega), if_pos z] at hr; exact hr.trans L
  · have k7 : κ.toInt = 27 := by rw [ek, c7]; decide
    rw [if_neg (by omega), if_neg (by omega), if_neg (by omega), if_neg (by omega), if_neg (by omega), if_neg (by omega), if_neg (by omega), if_pos k7] at hr
    rw [hr]
    rfl
  · have k8 : κ.toInt = 28 := by rw [ek, c8]; decide
    rw [if_neg (by omega), if_neg (by omega), if_neg (by omega), if_neg (by omega), if_neg (by omega), if_neg (by omega), if_neg (by omega), if_neg (by omega), if_pos k8] at hr
    rw [hr]
    rfl
  · have k9 : κ.toInt = 29 := by rw [ek, c9]; decide
    rw [if_neg (by omega), if_neg (by omega), if_neg (by omega), if_neg (by omega), if_neg (by omega), if_neg (by omega), if_neg (by omega), if_neg (by omega), if_neg (by omega), if_pos k9] at hr
    rw [hr]
    rfl
  · have kk : κ.toInt < 20 ∨ 30 ≤ κ.toInt := by
      have law : ∀ b : Fin 35, (b.val : Int) > 9 → zrho b.val < 20 ∨ 30 ≤ zrho b.val := by decide +kernel
      have law2 := law ⟨(T.1 s.2.2.1).toNat, by omega⟩
      simp only at law2
      rw [show (((T.1 s.2.2.1).toNat : Nat) : Int) = T.1 s.2.2.1 by omega, ← ek] at law2
      exact law2 (by omega)
    rw [if_neg (by omega), if_neg (by omega), if_neg (by omega), if_neg (by omega), if_neg (by omega), if_neg (by omega), if_neg (by omega), if_neg (by omega), if_neg (by omega), if_neg (by omega)] at hr
    rw [hr]
    split
    · rfl
    · split
      · rfl
      · omega
end XDISP
/-! and the class' side -/
/-- a number told, put down in the text -/
noncomputable def cB1 (P j : Nat) (lo hi : Int32) (t : zS) : zS := (zu (F_X3_number P lo hi t).2.1 ((t.2.2 P 1).getD 0) j (F_X3_number P lo hi t).1, (F_X3_number P lo hi t).2.2.1, (F_X3_number P lo hi t).2.2.2)
section VDISP
variable {P tk kA vA qA tt N m : Nat} {T : zTn} {σ : zS} {s : zA}
theorem vDisp (h : zV P tk kA vA qA tt N m T σ s) (hs : s.1 = 0) :
    (T.1 s.2.2.1 = 0 → F_X3_telling P σ = F_X3_take P 24 (F_X3_mouth P σ)) ∧
    (T.1 s.2.2.1 = 1 → F_X3_telling P σ = F_X3_take P 24 (F_X3_newPlace P σ)) ∧
    (2 ≤ T.1 s.2.2.1 → T.1 s.2.2.1 ≤ 6 → ∃ p : Int32, p.toInt = T.1 s.2.2.1 - 2 ∧ F_X3_telling P σ = F_X3_take P 24 (F_X3_law P p σ)) ∧
    (T.1 s.2.2.1 = 7 → F_X3_telling P σ = F_X3_take P 24 (cB1 P 11 0 99 (cB1 P 10 0 100 (F_X3_take P (σ.1 P 3) σ)))) ∧
    (T.1 s.2.2.1 = 8 → F_X3_telling P σ = F_X3_take P 24 (cB1 P 12 0 99 (F_X3_take P (σ.1 P 3) σ))) ∧
    (T.1 s.2.2.1 = 9 → F_X3_telling P σ = F_X3_take P 24 (cB1 P 13 0 9999 (F_X3_take P (σ.1 P 3) σ))) ∧
    (T.1 s.2.2.1 > 9 → F_X3_telling P σ = F_X3_take P 24 (F_X3_fail P 1 σ)) := by
  obtain ⟨r1, r2, r3, -⟩ := h.2.2.2 hs
  have e1 : (1 : Int32).toInt = 1 := by decide
  have e2 : (2 : Int32).toInt = 2 := by decide
  have e6 : (6 : Int32).toInt = 6 := by decide
  have e7 : (7 : Int32).toInt = 7 := by decide
  have e8 : (8 : Int32).toInt = 8 := by decide
  have e9 : (9 : Int32).toInt = 9 := by decide
  obtain ⟨r, hr⟩ : ∃ r, r = F_X3_telling P σ := ⟨_, rfl⟩
  rw [← hr]
  unfold F_X3_telling at hr
  simp only [zlt, zlt2, cWithin, e1, e2, e6, e7, e8, e9, r3] at hr
  refine ⟨fun c => ?_, fun c => ?_, fun c c' => ?_, fun c => ?_, fun c => ?_, fun c => ?_, fun c => ?_⟩
  · rw [if_pos c] at hr
    exact hr
  · rw [if_neg (by omega), if_pos c] at hr
    exact hr
  · rw [if_neg (by omega), if_neg (by omega), if_neg (fun z => z ⟨c, c'⟩)] at hr
    exact ⟨_, by rw [zb_sub (by rw [r3, e2]; omega) (by rw [r3, e2]; omega), r3, e2], hr⟩
  · rw [if_neg (by omega), if_neg (by omega), if_pos (fun z => by omega), if_pos c] at hr
    exact hr
  · rw [if_neg (by omega), if_neg (by omega), if_pos (fun z => by omega), if_neg (by omega), if_pos c] at hr
    exact hr
  · rw [if_neg (by omega), if_neg (by omega), if_pos (fun z => by omega), if_neg (by omega), if_neg (by omega), if_pos c] at hr
    exact hr
  · rw [if_neg (by omega), if_neg (by omega), if_pos (fun z => by omega), if_neg (by omega), if_neg (by omega), if_neg (by omega)] at hr
    exact hr
end VDISP
