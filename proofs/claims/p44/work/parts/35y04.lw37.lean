/-! WHERE THE RIVER'S ROWS LIE, on both sides -/
def qOf (W : Nat → Nat → Option Nat) (rv sh cd td : Nat) (V : zWh) (k : Nat) : Nat → Nat
  | 0 => rv
  | 1 => sh
  | 2 => cd
  | 3 => td
  | 4 => V.1 k
  | 5 => (W rv 2).getD 0
  | 6 => (W rv 3).getD 0
  | 7 => (W rv 4).getD 0
  | 8 => (W cd 0).getD 0
  | 9 => (W cd 1).getD 0
  | 10 => (W td 3).getD 0
  | 11 => (W td 4).getD 0
  | 12 => (W td 5).getD 0
  | 13 => (W td 6).getD 0
  | 14 => (W td 7).getD 0
  | 15 => (W td 9).getD 0
  | 16 => (W sh 2).getD 0
  | 17 => (W sh 3).getD 0
  | 18 => (W sh 4).getD 0
  | 19 => V.2.1 k
  | 20 => V.2.2.1 k
  | _ => V.2.2.2 k
def qK : Nat → Nat := fun i => [5, 6, 0, 9, 1, 30, 31, 32, 20, 21, 46, 47, 48, 49, 50, 51, 34, 35, 36, 22, 23, 24].getD i 0
theorem qK_n : ∀ i, i < 22 → ∀ j, j < 22 → i ≠ j → qK i ≠ qK j := by decide
theorem zYj_k {j : Nat} (h : zYj j) : zf 0 11 j = some (100 + j) ∧ 21 ≤ j := by
  unfold zYj at h
  rcases (show j = 21 ∨ j = 22 ∨ j = 23 ∨ j = 24 ∨ j = 25 ∨ j = 26 ∨ j = 27 ∨ j = 28 ∨ j = 29 ∨ j = 30 ∨ j = 31 ∨ j = 33 ∨ j = 34 ∨ j = 35 ∨ j = 36 ∨ j = 37 ∨ j = 39 ∨ j = 40 ∨ j = 45 ∨ j = 46 ∨ j = 48 ∨ j = 49 ∨ j = 52 ∨ j = 53 ∨ j = 54 ∨ j = 55 by omega) with rfl | rfl | rfl | rfl | rfl | rfl | rfl | rfl | rfl | rfl | rfl | rfl | rfl | rfl | rfl | rfl | rfl | rfl | rfl | rfl | rfl | rfl | rfl | rfl | rfl | rfl <;> exact ⟨rfl, by decide⟩
section QOF
variable {κ : Int} {L L2 : List Nat} {kd kd2 : Nat → Nat} {x0 m0 rv sh cd td k N : Nat} {V : zWh} {ps pc sl : Nat} {W R : Nat → Nat → Option Nat} {σ σ2 : zS} {u : Nat → Nat} {FR : Nat → Int32}
theorem qOf.t (hL : zLay L kd x0 W V ps pc sl) (hV : zRv L kd x0 rv sh cd W) (t9 : zT L kd td 9) (tr : ∀ j, 2 ≤ j → j ≤ 9 → j ≠ 8 → zT L kd ((W td j).getD 0) (if j = 9 then 51 else 43 + j)) (hk : k < 45) : ∀ i, i < 22 → zT L kd (qOf W rv sh cd td V k i) (qK i) := by
  obtain ⟨-, ⟨t0, t1, t2, t3⟩, b, c, d, -, -⟩ := hV
  obtain ⟨⟨tA, tI, tW, tM⟩, -⟩ := hL.2.2.2.1 k hk
  intro i hi
  rcases (show i = 0 ∨ i = 1 ∨ i = 2 ∨ i = 3 ∨ i = 4 ∨ i = 5 ∨ i = 6 ∨ i = 7 ∨ i = 8 ∨ i = 9 ∨ i = 10 ∨ i = 11 ∨ i = 12 ∨ i = 13 ∨ i = 14 ∨ i = 15 ∨ i = 16 ∨ i = 17 ∨ i = 18 ∨ i = 19 ∨ i = 20 ∨ i = 21 by omega) with rfl | rfl | rfl | rfl | rfl | rfl | rfl | rfl | rfl | rfl | rfl | rfl | rfl | rfl | rfl | rfl | rfl | rfl | rfl | rfl | rfl | rfl
  · exact t1
  · exact t2
  · exact t3
  · exact t9
  · exact tA
  · exact b 2 (by omega)
  · exact b 3 (by omega)
  · exact b 4 (by omega)
  · exact c 0 (by omega)
  · exact c 1 (by omega)
  · exact tr 3 (by decide) (by decide) (by decide)
  · exact tr 4 (by decide) (by decide) (by decide)
  · exact tr 5 (by decide) (by decide) (by decide)
  · exact tr 6 (by decide) (by decide) (by decide)
  · exact tr 7 (by decide) (by decide) (by decide)
  · exact tr 9 (by decide) (by decide) (by decide)
  · exact d 2 (by decide) (by decide)
  · exact d 3 (by decide) (by decide)
  · exact d 4 (by decide) (by decide)
  · exact tI
  · exact tW
  · exact tM
theorem zQr.of (hL : zLay L kd x0 W V ps pc sl) (hV : zRv L kd x0 rv sh cd W) (t9 : zT L kd td 9) (tr : ∀ j, 2 ≤ j → j ≤ 9 → j ≠ 8 → zT L kd ((W td j).getD 0) (if j = 9 then 51 else 43 + j)) (hk : k < 45) (hR : ∀ a j, ¬ (a = rv ∧ (j = 5 ∨ j = 6)) → R a j = W a j) (R5 : R rv 5 = some td) (R6 : R rv 6 = some (V.1 k)) : zQr (qOf W rv sh cd td V k) R := by
  have T := qOf.t hL hV t9 tr hk
  obtain ⟨⟨a1, a2, a3, a4⟩, ⟨t0, t1, t2, t3⟩, -⟩ := id hV
  obtain ⟨⟨tA, -⟩, -⟩ := hL.2.2.2.1 k hk
  obtain ⟨g0, g1, g2⟩ := hL.gA hk
  have e : ∀ a ka, zT L kd a ka → ka ≠ 5 → ∀ j, (R a j).getD 0 = (W a j).getD 0 := fun a ka ha hn j => by rw [hR a j (fun z => zNk ha t1 hn z.1)]
  have er : ∀ j, j ≠ 5 → j ≠ 6 → (R rv j).getD 0 = (W rv j).getD 0 := fun j h5 h6 => by rw [hR rv j (fun z => by omega)]
  refine ⟨⟨⟨?_, ?_, ?_, ?_, ?_, ?_, ?_⟩, ⟨?_, ?_⟩, ⟨?_, ?_, ?_, ?_, ?_, ?_⟩, ⟨?_, ?_, ?_⟩, ?_, ?_, ?_⟩, fun i j hi hj n => zNk (T i hi) (T j hj) (qK_n i hi j hj n)⟩
  · show (R rv 0).getD 0 = sh
    rw [er 0 (by decide) (by decide), a3]; rfl
  · show (R rv 1).getD 0 = cd
    rw [er 1 (by decide) (by decide), a4]; rfl
  · show (R rv 5).getD 0 = td
    rw [R5]; rfl
  · show (R rv 6).getD 0 = V.1 k
    rw [R6]; rfl
  · exact er 2 (by decide) (by decide)
  · exact er 3 (by decide) (by decide)
  · exact er 4 (by decide) (by decide)
  · exact e cd 0 t3 (by decide) 0
  · exact e cd 0 t3 (by decide) 1
  · exact e td 9 t9 (by decide) 3
  · exact e td 9 t9 (by decide) 4
  · exact e td 9 t9 (by decide) 5
  · exact e td 9 t9 (by decide) 6
  · exact e td 9 t9 (by decide) 7
  · exact e td 9 t9 (by decide) 9
  · exact e sh 6 t2 (by decide) 2
  · exact e sh 6 t2 (by decide) 3
  · exact e sh 6 t2 (by decide) 4
  · exact (e (V.1 k) 1 tA (by decide) 0).trans g0
  · exact (e (V.1 k) 1 tA (by decide) 1).trans g1
  · exact (e (V.1 k) 1 tA (by decide) 2).trans g2
theorem zYm.of (hJ : zJ κ L2 kd2 σ2) (hm : zT L2 kd2 m0 11) : zYm (mR σ2 m0) m0 σ2.2.2 := ⟨fun j hj => ⟨rfl, mR_m hJ hm (zYj_k hj).1 (by have := (zYj_k hj).2; omega)⟩, fun i j hi hj n => mR_ne hJ hm (zYj_k hi).1 (zYj_k hj).1 (by omega)⟩
/-- the class forms its river of a course -/
theorem cFormK (hL : zLay L kd x0 σ.2.2 V ps pc sl) (hV : zRv L kd x0 rv sh cd σ.2.2) (td9 : zT L kd td 9) (tl : zT L kd ((σ.2.2 td 3).getD 0) 46) (hk : k < 45) (hN : N ≤ 12) (h0 : (σ.1 td 0).toInt = N) (hT : zTr N u) (hu : ∀ c, 1 ≤ c → c < N → (σ.1 (V.2.1 k) c).toInt = u c) (F0 : FR 0 = 0) (hF : ∀ c, 1 ≤ c → c < N → FR c = FR (u c) + σ.1 ((σ.2.2 td 3).getD 0) c) : (F_X5_form rv td (V.1 k) σ).2.2 = zu (zu σ.2.2 rv 5 (some td)) rv 6 (some (V.1 k)) ∧ (∀ c j, ¬ zKs kd c j → (F_X5_form rv td (V.1 k) σ).1 c j = σ.1 c j) ∧ ∃ l, zShp N u (σ.1 ((σ.2.2 td 3).getD 0)) FR sh ((σ.2.2 sh 1).getD 0) ((σ.2.2 sh 2).getD 0) ((σ.2.2 sh 3).getD 0) ((σ.2.2 sh 4).getD 0) ((σ.2.2 sh 6).getD 0) l (F_X5_form rv td (V.1 k) σ) := by
  obtain ⟨⟨a1, a2, a3, a4⟩, ⟨t0, t1, t2, t3⟩, b, c, d, e, f⟩ := id hV
  obtain ⟨TL, gT⟩ : ∃ TL, (σ.2.2 td 3).getD 0 = TL := ⟨_, rfl⟩
  rw [gT] at hF tl ⊢
  obtain ⟨⟨tA, tI, tW, tM⟩, -⟩ := hL.2.2.2.1 k hk
  have k1 := d 1 (by omega) (by omega)
  have k2 := d 2 (by omega) (by omega)
  have k3 := d 3 (by omega) (by omega)
  have k4 := d 4 (by omega) (by omega)
  have k6 := d 6 (by omega) (by omega)
  generalize hA1 : (σ.2.2 sh 1).getD 0 = A1 at k1 ⊢
  generalize hA2 : (σ.2.2 sh 2).getD 0 = A2 at k2 ⊢
  generalize hA3 : (σ.2.2 sh 3).getD 0 = A3 at k3 ⊢
  generalize hA4 : (σ.2.2 sh 4).getD 0 = A4 at k4 ⊢
  generalize hA6 : (σ.2.2 sh 6).getD 0 = A6 at k6 ⊢
  obtain ⟨s, hs⟩ : ∃ s : zS, s = (σ.1, σ.2.1, zu (zu σ.2.2 rv 5 (some td)) rv 6 (some (V.1 k))) := ⟨_, rfl⟩
  have sr : ∀ a, a ≠ rv → s.2.2 a = σ.2.2 a := fun a ha => by
    rw [hs]
    show zu (zu σ.2.2 rv 5 _) rv 6 _ a = _
    rw [zu_n _ _ _ ha, zu_n _ _ _ ha]
  have g0 : (zu (zu σ.2.2 rv 5 (some td)) rv 6 (some (V.1 k)) rv 0).getD 0 = sh := by
    rw [zu_j _ _ _ _ _ (by decide), zu_j _ _ _ _ _ (by decide), a3]
    rfl
  have eq : F_X5_form rv td (V.1 k) σ = F_X6_form sh td (V.1 k) s := by
    rw [hs]
    unfold F_X5_form
    simp only [zlt, g0]
  have nsh : sh ≠ rv := zNk t2 t1 (by decide)
  have nA : V.1 k ≠ rv := zNk tA t1 (by decide)
  have ntd : td ≠ rv := zNk td9 t1 (by decide)
  have ss : ∀ c j, s.1 c j = σ.1 c j := fun c j => by rw [hs]
  obtain ⟨fr, l, hP⟩ := cForm (tt := td) (co := V.1 k) (sh := sh) (I := V.2.1 k) (σ := s) (FR := FR) (TL := TL) (N := N) (u := u) (A1 := A1) (A2 := A2) (A3 := A3) (A4 := A4) (A6 := A6) ⟨⟨zNk k1 t2 (by decide), zNk k2 t2 (by decide), zNk k3 t2 (by decide), zNk k4 t2 (by decide), zNk k6 t2 (by decide), zNk tI t2 (by decide)⟩, ⟨zNk k2 k1 (by decide), zNk k3 k1 (by decide), zNk k4 k1 (by decide), zNk k6 k1 (by decide)⟩, ⟨zNk k3 k2 (by decide), zNk k4 k2 (by decide), zNk k6 k2 (by decide)⟩, ⟨zNk k4 k3 (by decide), zNk k6 k3 (by decide)⟩, zNk k6 k4 (by decide), ⟨zNk tI k2 (by decide), zNk tI k3 (by decide), zNk tI k4 (by decide), zNk tI k6 (by decide)⟩⟩ ⟨by rw [sr sh nsh]; exact hA1, by rw [sr sh nsh]; exact hA2, by rw [sr sh nsh]; exact hA3, by rw [sr sh nsh]; exact hA4, by rw [sr sh nsh]; exact hA6, by rw [sr _ nA]; exact (hL.gA hk).1⟩ (by rw [sr td ntd]; exact gT) ⟨zNk tl t2 (by decide), zNk tl k1 (by decide)⟩ (zNk tI k1 (by decide)) hN hT (fun c h1 h2 => by rw [ss]; exact hu c h1 h2) (by rw [ss]; exact h0) F0 (fun c h1 h2 => by rw [ss]; exact hF c h1 h2)
  have hP' : zShp N u (σ.1 TL) FR sh A1 A2 A3 A4 A6 l (F_X6_form sh td (V.1 k) s) := by
    have e : s.1 TL = σ.1 TL := funext (fun j => ss TL j)
    rw [← e]
    exact hP
  rw [eq]
  refine ⟨?_, fun c j n => ?_, l, hP'⟩
  · rw [fr.rf, hs]
  · rw [fr.2 c j (by
      rintro (⟨z, -⟩ | z | z | z | z | z)
      · exact n (by unfold zKs; rw [z, t2.2]; omega)
      · exact n (by unfold zKs; rw [z, k1.2]; omega)
      · exact n (by unfold zKs; rw [z, k2.2]; omega)
      · exact n (by unfold zKs; rw [z, k3.2]; omega)
      · exact n (by unfold zKs; rw [z, k4.2]; omega)
      · exact n (by unfold zKs; rw [z, k6.2]; omega)), ss]
end QOF
