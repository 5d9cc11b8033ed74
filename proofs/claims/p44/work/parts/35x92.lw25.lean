/-! BOTH TEXTS TELL ALIKE, through a reading -/
section LWR2
variable {κ : Int} {L1 : List Nat} {kd1 : Nat → Nat} {L2 : List Nat} {kd2 : Nat → Nat} {σ1 σ2 τ1 τ2 : zS} {m0 x0 : Nat} {V : zWh} {ps pc sl td tt : Nat}
/-- the class' side of a text that is good -/
theorem cLwS {T : zTn} {m P tk kA vA qA N : Nat} {C0 S0 : zS} (hI1 : zI κ 0 L1 kd1 σ1) (P2 : zT L1 kd1 P 3) (s2 : zT L1 kd1 tt 9) (hd : zVd P tk kA vA qA N) (hK : zTK T m) (hN : zNn T m) (v0 : zV P tk kA vA qA tt N m T C0 aZ) (er : C0.2.2 = zu σ1.2.2 P 1 (some tt)) (es : zFi (fun c _ => c = P) (F_X9_clear tt (S0.1, S0.2.1, zu σ1.2.2 P 1 (some tt))) C0) (z1 : (aRun T 500 aZ).1 = 0) (z2 : (aRun T 500 aZ).2.2.2.1 = 0) : ∃ K : Nat, ((vEnd P T 500 aZ C0).1 tt 8).toInt = K ∧ K ≤ 420 ∧ (∀ k, k < 5 → zLc ((σ1.2.2 tt 6).getD 0) ((σ1.2.2 tt 7).getD 0) ((σ1.2.2 tt 9).getD 0) (vEnd P T 500 aZ C0) K k (gRun T (aGL T) 500 aZ (fun _ => none) k)) ∧ (∀ j, j < 4 → ((vEnd P T 500 aZ C0).1 tt (10 + j)).toInt = gRun T (aGS T) 500 aZ nS j) ∧ ((aRun T 500 aZ).2.2.2.2.2.1 ≠ 0 → ∀ j, 3 ≤ j → j ≤ 5 → ((vEnd P T 500 aZ C0).1 ((σ1.2.2 tt j).getD 0) 0).toInt = 0) := by
  have tP : tt ≠ P := zNk s2 P2 (by decide)
  have kr := fun j j1 j2 j3 => zTt_k hI1 s2 j j1 j2 j3
  have q6 : zT L1 kd1 ((σ1.2.2 tt 6).getD 0) 49 := kr 6 (by decide) (by decide) (by decide)
  have q7 : zT L1 kd1 ((σ1.2.2 tt 7).getD 0) 50 := kr 7 (by decide) (by decide) (by decide)
  have q9 : zT L1 kd1 ((σ1.2.2 tt 9).getD 0) 51 := kr 9 (by decide) (by decide) (by decide)
  have rT : ∀ j, zu σ1.2.2 P 1 (some tt) tt j = σ1.2.2 tt j := fun j => by rw [zu_n _ _ _ tP]
  have rC0 : ∀ j, C0.2.2 tt j = σ1.2.2 tt j := fun j => by rw [er, rT]
  obtain ⟨A6, h6⟩ : ∃ A6, A6 = (σ1.2.2 tt 6).getD 0 := ⟨_, rfl⟩
  obtain ⟨A7, h7⟩ : ∃ A7, A7 = (σ1.2.2 tt 7).getD 0 := ⟨_, rfl⟩
  obtain ⟨A9, h9⟩ : ∃ A9, A9 = (σ1.2.2 tt 9).getD 0 := ⟨_, rfl⟩
  rw [← h6, ← h7, ← h9]
  rw [← h6] at q6
  rw [← h7] at q7
  rw [← h9] at q9
  have nA : (A6 ≠ tt ∧ A7 ≠ tt) ∧ A6 ≠ A7 := ⟨⟨zNk q6 s2 (by decide), zNk q7 s2 (by decide)⟩, zNk q6 q7 (by decide)⟩
  have n9 : A9 ≠ tt ∧ A9 ≠ A6 ∧ A9 ≠ A7 := ⟨zNk q9 s2 (by decide), zNk q9 q6 (by decide), zNk q9 q7 (by decide)⟩
  have nP : tt ≠ P ∧ A6 ≠ P ∧ A7 ≠ P := ⟨tP, zNk q6 P2 (by decide), zNk q7 P2 (by decide)⟩
  have n9P : A9 ≠ P := zNk q9 P2 (by decide)
  have c5 := cClear5 (tt := tt) (σ := (S0.1, S0.2.1, zu σ1.2.2 P 1 (some tt))) n9 nA (by show (zu σ1.2.2 P 1 (some tt) tt 6).getD 0 = _ ∧ (zu σ1.2.2 P 1 (some tt) tt 7).getD 0 = _; rw [rT, rT]; exact ⟨h6.symm, h7.symm⟩) (by show (zu σ1.2.2 P 1 (some tt) tt 9).getD 0 = _; rw [rT]; exact h9.symm)
  have g0 : zCg tt A6 A7 A9 C0 aZ (fun _ => none) := zCg.st0 c5 es nP n9P
  have nu0 : zCn tt C0 aZ nS := zCn.st0 es tP
  have rg : ∀ τ : zS, (F_X3_telling P τ).2.2 = τ.2.2 := fun τ => rf_X3_telling (R := τ.2.2) rfl
  have rows : ∀ j, 2 ≤ j → j ≤ 9 → j ≠ 8 → (C0.2.2 tt j).getD 0 ≠ tt := fun j j1 j2 j3 => by
    rw [rC0]
    exact zNk (kr j j1 j2 j3) s2 (by split <;> omega)
  -- laws
  obtain ⟨-, VL, -⟩ := vEndI (tt := tt) hd hK (fun τ s g => zCg tt A6 A7 A9 τ s g ∧ τ.2.2 = C0.2.2) (aGL T) (fun τ s g hv hs hi => ⟨cTellL hd hK nP hN ⟨by rw [hi.2, rC0]; exact h6.symm, by rw [hi.2, rC0]; exact h7.symm⟩ (by rw [hi.2, rC0]; exact h9.symm) ⟨n9P, n9.1, n9.2.1, n9.2.2⟩ nA.1 (fun j j1 j2 => by
    rw [hi.2, rC0]
    have kj := kr j j1 (by omega) (by omega)
    rw [if_neg (by omega)] at kj
    exact ⟨zNk kj s2 (by omega), zNk kj q6 (by omega), zNk kj q7 (by omega), zNk kj q9 (by omega)⟩) hv hs hi.1, (rg τ).trans hi.2⟩) 500 C0 aZ (fun _ => none) v0 ⟨g0, rfl⟩
  -- numbers
  obtain ⟨-, VN, -⟩ := vEndI (tt := tt) hd hK (fun τ s g => zCn tt τ s g ∧ τ.2.2 = C0.2.2) (aGS T) (fun τ s g hv hs hi => ⟨cTellN hd hK tP (fun j j1 j2 j3 => by rw [hi.2]; exact rows j j1 j2 j3) hv hs hi.1, (rg τ).trans hi.2⟩) 500 C0 aZ nS v0 ⟨nu0, rfl⟩
  -- the mouth
  obtain ⟨W, hW⟩ : ∃ W : Nat → Nat, W = fun j => (σ1.2.2 tt j).getD 0 := ⟨_, rfl⟩
  have Wk : ∀ j, 2 ≤ j → j ≤ 5 → zT L1 kd1 (W j) (43 + j) := fun j j1 j2 => by
    have := kr j j1 (by omega) (by omega)
    rw [if_neg (by omega)] at this
    rw [hW]; exact this
  have hWz : zWz W P tt C0.2.2 := ⟨fun j j1 j2 => ⟨by rw [rC0, hW], zNk (Wk j j1 j2) P2 (by omega)⟩, fun i j i1 i2 j1 j2 n => zNk (Wk i i1 i2) (Wk j j1 j2) (by omega)⟩
  have hXz : zXz W tt C0.2.2 := fun j j1 j2 => by
    rw [rC0, rC0, rC0, ← h6, ← h7, ← h9]
    exact ⟨zNk (Wk j j1 j2) s2 (by omega), zNk (Wk j j1 j2) q6 (by omega), zNk (Wk j j1 j2) q7 (by omega), zNk (Wk j j1 j2) q9 (by omega)⟩
  obtain ⟨-, V0, -⟩ := vEndI (γ := Unit) (tt := tt) hd hK (fun τ s _ => zC0 W τ s ∧ τ.2.2 = C0.2.2) (fun _ g => g) (fun τ s g hv hs hi => ⟨cTell0 hd hK (by rw [hi.2]; exact hWz) (by rw [hi.2]; exact hXz) hv hs hi.1, (rg τ).trans hi.2⟩) 500 C0 aZ () v0 ⟨fun _ z => absurd rfl z, rfl⟩
  obtain ⟨CC, ⟨-, h8, -⟩, hl, -⟩ := id (VL z1)
  have VE := (vEndI (γ := Unit) (tt := tt) hd hK (fun _ _ _ => True) (fun _ g => g) (fun _ _ _ _ _ _ => trivial) 500 C0 aZ () v0 trivial).1
  have pm := (VE.2.2.2 z1).1
  have rk := hK.2.1
  refine ⟨CC.length, by rw [h8]; omega, by omega, fun k hk => VL.zL z1 (by rw [h8]; omega) hk, fun j hj => VN z1 j hj, fun cm j j1 j2 => ?_⟩
  have q := V0 z1 cm j j1 j2
  rw [hW] at q
  exact q
/-- the reference's side of a text that is good -/
theorem mLwS {T : zTn} {m k q v nm nO x b : Nat} {D0 : zS} (hJ : zJ κ L2 kd2 σ2) (hm : zT L2 kd2 m0 11) (hd : zWd m0 k q v nm nO) (hT : zTm T m) (hK : zTK T m) (w0 : zXo m0 k q v nm nO m T (zRi m0 D0) aZ) (dF : zFi (fun c j => (c = m0 ∧ (j = 2 ∨ j = 4 ∨ j = 10)) ∨ c = x ∨ c = k ∨ c = q ∨ c = v) σ2 D0) (tk : zT L2 kd2 x 103 ∧ zT L2 kd2 k 105 ∧ zT L2 kd2 q 106 ∧ zT L2 kd2 v 107) (hb1 : b ≤ 1) (h18 : (σ2.1 m0 18).toInt = 1 - (b : Int)) : zNo (mR σ2 m0) b σ2 (xEnd m0 T 500 aZ (zRi m0 D0)) ∧ ((aRun T 500 aZ).1 = 0 → (∀ k, k < 5 → zLm (mR σ2 m0) (420 * b) (130 * b) (xEnd m0 T 500 aZ (zRi m0 D0)) (420 * b + 420) (130 * b + 130) (5 * b + k) (gRun T (aGL T) 500 aZ (fun _ => none) k)) ∧ ∀ j, j < 4 → ((xEnd m0 T 500 aZ (zRi m0 D0)).1 (mR σ2 m0 (26 + j)) b).toInt = gRun T (aGS T) 500 aZ nS j) := by
  have hY := zYz.of hJ hm
  have nk : ∀ c kc : Nat, zT L2 kd2 c kc → kc ≠ 103 → kc ≠ 105 → kc ≠ 106 → kc ≠ 107 → c ≠ x ∧ c ≠ k ∧ c ≠ q ∧ c ≠ v := fun c kc hc n1 n2 n3 n4 => ⟨zNk hc tk.1 n1, zNk hc tk.2.1 n2, zNk hc tk.2.2.1 n3, zNk hc tk.2.2.2 n4⟩
  have m1 := nk m0 11 hm (by decide) (by decide) (by decide) (by decide)
  have d18 : D0.1 m0 18 = σ2.1 m0 18 := dF.2 _ _ (by
    rintro (⟨-, z⟩ | z | z | z | z)
    · omega
    · exact m1.1 z
    · exact m1.2.1 z
    · exact m1.2.2.1 z
    · exact m1.2.2.2 z)
  have rD : D0.2.2 = σ2.2.2 := dF.1
  have hYD : zYz (mR σ2 m0) m0 D0.2.2 := by rw [rD]; exact hY
  have hD18 : (D0.1 m0 18).toInt = 1 - (b : Int) := by rw [d18]; exact h18
  have X0 := zRi_x (t := D0) hYD hb1 hD18
  have N0 := zNo.st0 (t := D0) hYD hb1 hD18
  obtain ⟨t5, g1, g2, g3, g4, -, g26, g27, g28, g29⟩ := zRi_g (t := D0) hYD hb1 hD18
  have nu0 : zXn (mR σ2 m0) b (zRi m0 D0) aZ nS := fun _ j hj => by
    rcases (show j = 0 ∨ j = 1 ∨ j = 2 ∨ j = 3 by omega) with rfl | rfl | rfl | rfl
    · exact (congrArg Int32.toInt g26).trans (by decide)
    · exact (congrArg Int32.toInt g27).trans (by decide)
    · exact (congrArg Int32.toInt g28).trans (by decide)
    · exact (congrArg Int32.toInt g29).trans (by decide)
  rw [rD] at X0 hYD
  obtain ⟨I0, IX, IN, IO⟩ := xEndI hd hT hK (fun τ s (g : zGl × zNf) => zXl m0 (mR σ2 m0) σ2.2.2 b τ s g.1 ∧ zXn (mR σ2 m0) b τ s g.2 ∧ zNo (mR σ2 m0) b D0 τ) (fun s g => (aGL T s g.1, aGS T s g.2)) (fun τ s g h hs hi => by
    obtain ⟨h19, nb, nc, hl, -⟩ := hi.1 hs
    exact ⟨xTellL hd hT hK hY hb1 hi.1 h hs, xTellN hd hT hK hY hl.1 h19 h hs hi.2.1, hi.2.2.fi hY (xTell1 hd hT hK hY hl.1 h19 h hs)⟩) 500 (zRi m0 D0) aZ (fun _ => none, nS) w0 ⟨X0, nu0, N0⟩
  rw [gRun_2] at IX IN
  refine ⟨fun j j1 j2 i hi => ?_, fun z1 => ⟨fun w hw => ?_, fun j hj => IN z1 j hj⟩⟩
  · rw [IO j j1 j2 i hi]
    have qj : zQs j := by unfold zQs; omega
    obtain ⟨f, f21⟩ := zQs_k qj
    have tj : zT L2 kd2 (mR σ2 m0 j) (100 + j) := mR_t hJ hm f
    have mj := nk _ _ tj (by omega) (by omega) (by omega) (by omega)
    exact dF.2 _ _ (by
      rintro (⟨z, -⟩ | z | z | z | z)
      · exact (hY.1 j qj).2 z
      · exact mj.1 z
      · exact mj.2.1 z
      · exact mj.2.2.1 z
      · exact mj.2.2.2 z)
  · obtain ⟨-, nb, nc, -, -, h1, h2, h3⟩ := IX z1
    have pm := (I0.1.2.2.2.2 z1).1
    have rk := hK.2.1
    exact (h3 w hw).cg (by omega) (by omega) (fun _ _ _ => ⟨rfl, rfl⟩) (fun _ _ _ _ _ _ => rfl) rfl rfl
end LWR2
