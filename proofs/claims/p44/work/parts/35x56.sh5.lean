/-! BOTH LOOK -/
/-- the lengths told are alike -/
def zLen (x0 m0 : Nat) (σ1 σ2 : zS) : Prop := ∀ p : Nat, 1 ≤ p → (p : Int) < zM m0 σ2 → σ1.1 ((σ1.2.2 ((σ1.2.2 x0 10).getD 0) 3).getD 0) p = σ2.1 (mR σ2 m0 23) (12 * (σ2.1 m0 18).toInt.toNat + p) ∧ 1 ≤ (σ2.1 (mR σ2 m0 23) (12 * (σ2.1 m0 18).toInt.toNat + p)).toInt ∧ (σ2.1 (mR σ2 m0 23) (12 * (σ2.1 m0 18).toInt.toNat + p)).toInt ≤ 99
/-- what a look of the class writes -/
def zKs (kd : Nat → Nat) : Nat → Nat → Prop := fun c _ => kd c = 6 ∨ kd c = 20 ∨ kd c = 21 ∨ kd c = 30 ∨ kd c = 31 ∨ kd c = 33 ∨ kd c = 34 ∨ kd c = 35 ∨ kd c = 36 ∨ kd c = 38
section LOOKC
variable {κ : Int} {L : List Nat} {kd : Nat → Nat} {x0 : Nat} {V : zWh} {ps pc sl rv sh cd td N A1 A2 A3 A4 A6 : Nat} {u l : Nat → Nat} {ℓ FR : Nat → Int32} {σ s t : zS}
theorem zShp.cg (h : zShp N u ℓ FR sh A1 A2 A3 A4 A6 l s) (e0 : t.1 sh 0 = s.1 sh 0) (e1 : t.1 A1 = s.1 A1) (e2 : t.1 A2 = s.1 A2) (e3 : t.1 A3 = s.1 A3) (e4 : t.1 A4 = s.1 A4) (e6 : t.1 A6 = s.1 A6) : zShp N u ℓ FR sh A1 A2 A3 A4 A6 l t := by
  unfold zShp zLnE
  rw [e0, e1, e2, e3, e4, e6]
  exact h
theorem cLook (hL : zLay L kd x0 σ.2.2 V ps pc sl) (hV : zRv L kd x0 rv sh cd σ.2.2) (hI : zI κ 0 L kd σ) (d1 : σ.2.2 x0 10 = some td) (td9 : zT L kd td 9) (hN : N ≤ 12) (h0 : (σ.1 td 0).toInt = N) (hT : zTr N u) (hu : ∀ c, 1 ≤ c → c < N → (σ.1 (V.2.1 0) c).toInt = u c) (F0 : FR 0 = 0) (hF : ∀ c, 1 ≤ c → c < N → FR c = FR (u c) + σ.1 ((σ.2.2 td 3).getD 0) c) : (∀ a j, ¬ (a = rv ∧ (j = 5 ∨ j = 6)) → (F_X10_look x0 σ).2.2 a j = σ.2.2 a j) ∧ (∀ c j, ¬ zKs kd c j → (F_X10_look x0 σ).1 c j = σ.1 c j) ∧ ∃ l, zShp N u (σ.1 ((σ.2.2 td 3).getD 0)) FR sh ((σ.2.2 sh 1).getD 0) ((σ.2.2 sh 2).getD 0) ((σ.2.2 sh 3).getD 0) ((σ.2.2 sh 4).getD 0) ((σ.2.2 sh 6).getD 0) l (F_X10_look x0 σ) := by
  obtain ⟨⟨a1, a2, a3, a4⟩, ⟨t0, t1, t2, t3⟩, b, c, d, e, f⟩ := id hV
  obtain ⟨TL, l1, l2⟩ := zi_ref (j := 3) (k2 := 46) hI td9 (by rfl)
  have gT : (σ.2.2 td 3).getD 0 = TL := by rw [l1]; rfl
  rw [gT] at hF ⊢
  obtain ⟨⟨tA, tI, tW, tM⟩, -⟩ := hL.2.2.2.1 0 (by decide)
  have k1 := d 1 (by omega) (by omega)
  have k2 := d 2 (by omega) (by omega)
  have k3 := d 3 (by omega) (by omega)
  have k4 := d 4 (by omega) (by omega)
  have k6 := d 6 (by omega) (by omega)
  generalize hA1 : (σ.2.2 sh 1).getD 0 = A1 at k1 ⊢
  generalize hA2 : (σ.2.2 sh 2).getD 0 = A2 at k2 ⊢
  generalize hA3 : (σ.2.2 sh 3).getD 0 = A3 at k3 ⊢
  generalize hA4 : (σ.2.2 sh 4).getD 0 = A4 at k4 ⊢
  generalize hA6 : (σ.2.2 sh 6).getD 0 = A6 at k6 ⊢
  obtain ⟨s, hs⟩ : ∃ s : zS, s = (σ.1, σ.2.1, zu (zu σ.2.2 rv 5 (some td)) rv 6 (some (V.1 0))) := ⟨_, rfl⟩
  have sr : ∀ a, a ≠ rv → s.2.2 a = σ.2.2 a := fun a ha => by
    rw [hs]
    show zu (zu σ.2.2 rv 5 _) rv 6 _ a = _
    rw [zu_n _ _ _ ha, zu_n _ _ _ ha]
  have srv : ∀ j, j ≠ 5 → j ≠ 6 → s.2.2 rv j = σ.2.2 rv j := fun j h5 h6 => by
    rw [hs]
    show zu (zu σ.2.2 rv 5 _) rv 6 _ rv j = _
    rw [zu_j _ _ _ _ _ (fun z => h6 z.symm), zu_j _ _ _ _ _ (fun z => h5 z.symm)]
  have g0 : (zu (zu σ.2.2 rv 5 (some td)) rv 6 (some (V.1 0)) rv 0).getD 0 = sh := by
    rw [zu_j _ _ _ _ _ (by decide), zu_j _ _ _ _ _ (by decide), a3]
    rfl
  have g10 : (σ.2.2 x0 10).getD 0 = td := by rw [d1]; rfl
  have eq : F_X10_look x0 σ = F_X5_fall rv 0 (F_X6_form sh td (V.1 0) s) := by
    rw [hs]
    unfold F_X10_look F_X5_look F_X5_form
    simp only [zlt, xrv hV, g10, xnw hL, g0]
  have nsh : sh ≠ rv := zNk t2 t1 (by decide)
  have nA : V.1 0 ≠ rv := zNk tA t1 (by decide)
  have ntd : td ≠ rv := zNk td9 t1 (by decide)
  have ss : ∀ c j, s.1 c j = σ.1 c j := fun c j => by rw [hs]
  obtain ⟨fr, l, hP⟩ := cForm (tt := td) (co := V.1 0) (sh := sh) (I := V.2.1 0) (σ := s) (FR := FR) (TL := TL) (N := N) (u := u) (A1 := A1) (A2 := A2) (A3 := A3) (A4 := A4) (A6 := A6) ⟨⟨zNk k1 t2 (by decide), zNk k2 t2 (by decide), zNk k3 t2 (by decide), zNk k4 t2 (by decide), zNk k6 t2 (by decide), zNk tI t2 (by decide)⟩, ⟨zNk k2 k1 (by decide), zNk k3 k1 (by decide), zNk k4 k1 (by decide), zNk k6 k1 (by decide)⟩, ⟨zNk k3 k2 (by decide), zNk k4 k2 (by decide), zNk k6 k2 (by decide)⟩, ⟨zNk k4 k3 (by decide), zNk k6 k3 (by decide)⟩, zNk k6 k4 (by decide), ⟨zNk tI k2 (by decide), zNk tI k3 (by decide), zNk tI k4 (by decide), zNk tI k6 (by decide)⟩⟩ ⟨by rw [sr sh nsh]; exact hA1, by rw [sr sh nsh]; exact hA2, by rw [sr sh nsh]; exact hA3, by rw [sr sh nsh]; exact hA4, by rw [sr sh nsh]; exact hA6, by rw [sr _ nA]; exact (hL.gA (k := 0) (by decide)).1⟩ (by rw [sr td ntd]; exact gT) ⟨zNk l2 t2 (by decide), zNk l2 k1 (by decide)⟩ (zNk tI k1 (by decide)) hN hT (fun c h1 h2 => by rw [ss]; exact hu c h1 h2) (by rw [ss]; exact h0) F0 (fun c h1 h2 => by rw [ss]; exact hF c h1 h2)
  have hP' : zShp N u (σ.1 TL) FR sh A1 A2 A3 A4 A6 l (F_X6_form sh td (V.1 0) s) := by
    have e : s.1 TL = σ.1 TL := funext (fun j => ss TL j)
    rw [← e]
    exact hP
  obtain ⟨w, hw⟩ : ∃ w, w = F_X6_form sh td (V.1 0) s := ⟨_, rfl⟩
  rw [← hw] at fr hP' eq
  have rw' : w.2.2 = s.2.2 := fr.rf
  have w1 : (w.2.2 rv 1).getD 0 = cd := by rw [rw', srv 1 (by decide) (by decide), a4]; rfl
  have ncd : cd ≠ rv := zNk t3 t1 (by decide)
  have fl : zFr (fun c _ => kd c = 20 ∨ kd c = 21 ∨ kd c = 30 ∨ kd c = 31) w (F_X5_fall rv 0 w) := fr_X5_fall zFr.id (fun _ => by rw [w1, rw', sr cd ncd]; exact Or.inl (c 0 (Or.inl rfl)).2) (fun _ => by rw [w1, rw', sr cd ncd]; exact Or.inr (Or.inl (c 1 (Or.inr rfl)).2)) (fun _ => by rw [rw', srv 2 (by decide) (by decide)]; exact Or.inr (Or.inr (Or.inl (b 2 (by omega)).2))) (fun _ => by rw [rw', srv 3 (by decide) (by decide)]; exact Or.inr (Or.inr (Or.inr (b 3 (by omega)).2)))
  have keep : ∀ c kc, zT L kd c kc → kc ≠ 20 → kc ≠ 21 → kc ≠ 30 → kc ≠ 31 → (F_X5_fall rv 0 w).1 c = w.1 c := fun c kc hc n1 n2 n3 n4 => funext (fun j => fl.2 c j (show ¬ (kd c = 20 ∨ kd c = 21 ∨ kd c = 30 ∨ kd c = 31) from by
    rw [hc.2]
    omega))
  rw [eq]
  refine ⟨fun a j n => ?_, fun c j n => ?_, l, hP'.cg (by rw [keep sh 6 t2 (by decide) (by decide) (by decide) (by decide)]) (keep A1 _ k1 (by decide) (by decide) (by decide) (by decide)) (keep A2 _ k2 (by decide) (by decide) (by decide) (by decide)) (keep A3 _ k3 (by decide) (by decide) (by decide) (by decide)) (keep A4 _ k4 (by decide) (by decide) (by decide) (by decide)) (keep A6 _ k6 (by decide) (by decide) (by decide) (by decide))⟩
  · rw [fl.rf, rw']
    by_cases ca : a = rv
    · rw [ca]
      exact srv j (fun z => n ⟨ca, Or.inl z⟩) (fun z => n ⟨ca, Or.inr z⟩)
    · rw [sr a ca]
  · rw [fl.2 c j (fun z => n (by unfold zKs; omega)), fr.2 c j (by
      rintro (⟨z, -⟩ | z | z | z | z | z)
      · exact n (by unfold zKs; rw [z, t2.2]; omega)
      · exact n (by unfold zKs; rw [z, k1.2]; omega)
      · exact n (by unfold zKs; rw [z, k2.2]; omega)
      · exact n (by unfold zKs; rw [z, k3.2]; omega)
      · exact n (by unfold zKs; rw [z, k4.2]; omega)
      · exact n (by unfold zKs; rw [z, k6.2]; omega)), ss]
end LOOKC
section LOOKB
variable {κ : Int} {L1 : List Nat} {kd1 : Nat → Nat} {L2 : List Nat} {kd2 : Nat → Nat} {σ1 σ2 : zS} {m0 x0 : Nat} {Q : Nat → zCo → (Nat → Int32) → Prop} {V : zWh} {ps pc sl rv sh cd : Nat}
/-- both have looked: one tree, one measure -/
def zLk (N : Nat) (u : Nat → Nat) (FR SR ℓ : Nat → Int32) (kd1 : Nat → Nat) (x0 m0 rv sh : Nat) (l : Nat → Nat) (σ1 σ2 s t : zS) : Prop :=
  (N ≤ 12 ∧ zM m0 σ2 = N ∧ (σ1.1 ((σ1.2.2 x0 10).getD 0) 0).toInt = N ∧ zTr N u) ∧ (FR 0 = 0 ∧ SR 0 = 0 ∧ (∀ c, 1 ≤ c → c < N → FR c = FR (u c) + ℓ c) ∧ (∀ c, 1 ≤ c → c < N → SR c = SR (u c) + (1 : Int32)) ∧ ∀ c, 1 ≤ c → c < N → 1 ≤ (ℓ c).toInt ∧ (ℓ c).toInt ≤ 99) ∧ (∀ c, 1 ≤ c → c < N → σ2.1 (mR σ2 m0 23) (12 * (σ2.1 m0 18).toInt.toNat + c) = ℓ c ∧ (σ2.1 (mR σ2 m0 48) c).toInt = u c) ∧ ((∀ a j, ¬ (a = rv ∧ (j = 5 ∨ j = 6)) → s.2.2 a j = σ1.2.2 a j) ∧ (∀ c j, ¬ zKs kd1 c j → s.1 c j = σ1.1 c j) ∧ zShp N u ℓ FR sh ((σ1.2.2 sh 1).getD 0) ((σ1.2.2 sh 2).getD 0) ((σ1.2.2 sh 3).getD 0) ((σ1.2.2 sh 4).getD 0) ((σ1.2.2 sh 6).getD 0) l s) ∧ zShM N u FR SR m0 σ2 t
theorem zRL.lk (hG : zGd Q) (h : zRL Q L1 kd1 x0 m0 V ps pc sl rv sh cd σ1 σ2) (hl : zLen x0 m0 σ1 σ2) (hx : zT L1 kd1 x0 10) (hI : zI κ 0 L1 kd1 σ1) (hJ : zJ κ L2 kd2 σ2) (hm : zT L2 kd2 m0 11) (hg : gN m0 σ2) : ∃ (N : Nat) (u : Nat → Nat) (FR SR ℓ : Nat → Int32) (l : Nat → Nat), zLk N u FR SR ℓ kd1 x0 m0 rv sh l σ1 σ2 (F_X10_look x0 σ1) (F_X11_copies m0 σ2) := by
  obtain ⟨hL, hV, N, n, uu, ⟨a1, a2, a3, -⟩, hq, -⟩ := id h
  obtain ⟨r2, r1, er⟩ := h.rows hG hg a2 a3
  obtain ⟨td, d1, d2⟩ := zi_ref (j := 10) (k2 := 9) hI hx (by rfl)
  have gd : (σ1.2.2 x0 10).getD 0 = td := by rw [d1]; rfl
  obtain ⟨u, hu⟩ : ∃ u, u = uOf (σ2.1 (mR σ2 m0 48)) := ⟨_, rfl⟩
  have hT : zTr N u := by rw [hu]; exact r2.tr
  have r18 : 0 ≤ (σ2.1 m0 18).toInt ∧ (σ2.1 m0 18).toInt ≤ 1 := zj_get (j := 18) hJ hm (lo := 0) (hi := 1) (by rfl)
  obtain ⟨B, hB⟩ : ∃ B, B = (σ2.1 m0 18).toInt.toNat := ⟨_, rfl⟩
  obtain ⟨ℓ, hℓ⟩ : ∃ ℓ : Nat → Int32, ℓ = σ1.1 ((σ1.2.2 td 3).getD 0) := ⟨_, rfl⟩
  have hl' : ∀ c, 1 ≤ c → c < N → ℓ c = σ2.1 (mR σ2 m0 23) (12 * B + c) ∧ 1 ≤ (σ2.1 (mR σ2 m0 23) (12 * B + c)).toInt ∧ (σ2.1 (mR σ2 m0 23) (12 * B + c)).toInt ≤ 99 := fun c c1 c2 => by
    have := hl c c1 (by rw [a2]; omega)
    rw [gd, ← hB, ← hℓ] at this
    exact this
  obtain ⟨FR, F0, hF⟩ := hT.rec (0 : Int32) (fun c z => z + ℓ c)
  obtain ⟨SR, S0, hS⟩ := hT.rec (0 : Int32) (fun _ z => z + (1 : Int32))
  have u2 : ∀ c, 1 ≤ c → c < N → (σ2.1 (mR σ2 m0 48) c).toInt = u c := fun c c1 c2 => by rw [hu]; exact r2.u c1 c2
  rw [gd] at a1
  obtain ⟨C1, C2, l, C3⟩ := cLook hL hV hI d1 d2 a3 a1 hT (fun c c1 c2 => by rw [er c c1 c2]; exact u2 c c1 c2) F0 (fun c c1 c2 => by rw [← hℓ]; exact hF c c1 c2)
  rw [← hℓ] at C3
  have M := mShp (N := N) (B := B) (FR := FR) (SR := SR) hJ hm a2 a3 r2 (by omega) (by omega) F0 S0 (fun c c1 c2 => by rw [← hu, ← (hl' c c1 c2).1]; exact hF c c1 c2) (fun c c1 c2 => by rw [← hu]; exact hS c c1 c2)
  rw [← hu] at M
  refine ⟨N, u, FR, SR, ℓ, l, ⟨a3, a2, by rw [gd]; exact a1, hT⟩, ⟨F0, S0, hF, hS, fun c c1 c2 => ?_⟩, fun c c1 c2 => ⟨?_, u2 c c1 c2⟩, ⟨C1, C2, C3⟩, M⟩
  · obtain ⟨w1, w2, w3⟩ := hl' c c1 c2
    rw [w1]
    exact ⟨w2, w3⟩
  · rw [← hB]
    exact (hl' c c1 c2).1.symm
end LOOKB
