/-! THE CLASS' READ -/
def zCf (tt : Nat) (σ σ' : zS) : Prop := σ'.2 = σ.2 ∧ ∀ c, c ≠ tt → c ≠ (σ.2.2 tt 6).getD 0 → c ≠ (σ.2.2 tt 7).getD 0 → c ≠ (σ.2.2 tt 9).getD 0 → σ'.1 c = σ.1 c
theorem zCf.tr {tt : Nat} {σ σ1 σ2 : zS} (h : zCf tt σ σ1) (g : zCf tt σ1 σ2) : zCf tt σ σ2 := ⟨g.1.trans h.1, fun c h1 h2 h3 h4 => by
  have q := g.2 c h1
  rw [h.1] at q
  exact (q h2 h3 h4).trans (h.2 c h1 h2 h3 h4)⟩
theorem cPut {tt : Nat} {σ : zS} (j : Nat) (v : Int32) : zCf tt σ (zu σ.1 tt j v, σ.2.1, σ.2.2) := ⟨rfl, fun c h1 _ _ _ => zu_n _ _ _ h1⟩
theorem cArr {tt : Nat} {σ : zS} (j : Nat) (v : Int32) : zCf tt σ (zu σ.1 ((σ.2.2 tt 9).getD 0) j v, σ.2.1, σ.2.2) := ⟨rfl, fun c _ _ _ h4 => zu_n _ _ _ h4⟩
theorem cAdd {tt : Nat} {σ : zS} (x y : Int32) : zCf tt σ (F_X9_addStep tt x y σ) := by
  unfold F_X9_addStep
  simp only [zlt]
  split
  · refine ⟨rfl, fun c h1 h2 h3 _ => ?_⟩
    show zu (zu (zu σ.1 _ _ _) _ _ _) tt 8 _ c = _
    rw [zu_n _ _ _ h1, zu_n _ _ _ h3, zu_n _ _ _ h2]
  · exact ⟨rfl, fun _ _ _ _ _ => rfl⟩
theorem cClear_l {tt : Nat} : ∀ (n : Nat) (x : Int32) (τ : zS), zCf tt τ (F_X9_clear_12 tt n x τ) := by
  intro n
  induction n with
  | zero => intro x τ; exact ⟨rfl, fun _ _ _ _ _ => rfl⟩
  | succ n ih =>
    intro x τ
    rw [F_X9_clear_12]
    simp only [zlt]
    split
    · split
      · exact (((cArr _ _).tr (cAdd _ _)).tr (cAdd _ _)).tr (ih _ _)
      · exact (((cArr _ _).tr (cAdd _ _)).tr (cAdd _ _)).tr (ih _ _)
    · exact (((cPut 10 0).tr (cPut 11 0)).tr (cPut 12 1)).tr (cPut 13 0)
theorem cClear {tt : Nat} {σ : zS} : zCf tt σ (F_X9_clear tt σ) := by
  unfold F_X9_clear
  simp only [zlt]
  exact ((cPut 0 0).tr (cPut 8 0)).tr (cClear_l _ _ _)
def aZ : zA := (0, -1, 0, 0, -1, 0, 0, fun _ => (0, 0))
section ZV6
variable {P tk kA vA qA tt N m : Nat} {T : zTn} {σ : zS}
theorem vGo0 (hd : zVd P tk kA vA qA N) (h : zVs P tk kA vA qA tt N m T σ) (hk : 0 < m) (h8 : (σ.1 P 8).toInt = 0) (h10 : (σ.1 P 10).toInt = 0) (h11 : (σ.1 P 11).toInt = -1) (h6 : (σ.1 P 6).toInt = 0) (h7 : (σ.1 P 7).toInt = 0) : zV P tk kA vA qA tt N m T (F_X3_goTo P 0 σ) aZ := by
  obtain ⟨⟨l0, l1, l2, l3, l4, l5⟩, hm, ht, -⟩ := id h
  obtain ⟨d1, d2, d3, d4, d5, d6⟩ := hd
  have g0 : (σ.2.2 P 0).getD 0 = tk := by rw [l0]; rfl
  have g1 : (σ.2.2 tk 1).getD 0 = kA := by rw [l2]; rfl
  have g2 : (σ.2.2 tk 2).getD 0 = vA := by rw [l3]; rfl
  have g3 : (σ.2.2 tk 3).getD 0 = qA := by rw [l4]; rfl
  have en : (0 : Int32).toNatClampNeg = 0 := by decide
  have e0 : (0 : Int32).toInt = 0 := by decide
  have c1 : ¬ (1 : Int32).toInt = 0 := by decide
  unfold F_X3_goTo
  simp only [zlt, g0, g1, g2, g3, en, e0]
  rw [if_neg (by omega), if_pos (by omega), if_neg c1, if_neg c1, if_neg c1]
  have k1 : zu σ.1 P 2 (0 : Int32) kA 0 = σ.1 kA 0 := by rw [zu_n _ _ _ d2]
  have k2 : ∀ x, zu (zu σ.1 P 2 (0 : Int32)) P 3 x qA 0 = σ.1 qA 0 := fun x => by rw [zu_n _ _ _ d3, zu_n _ _ _ d3]
  simp only [k1, k2]
  obtain ⟨t1, t2, -, t3⟩ := ht 0
  have g : ∀ j, j ≠ 2 → j ≠ 3 → j ≠ 5 → zu (zu (zu σ.1 P 2 (0 : Int32)) P 3 (σ.1 kA 0)) P 5 (σ.1 qA 0) P j = σ.1 P j := fun j h1 h2 h3 => by rw [zu_j _ _ _ _ _ (fun z => h3 z.symm), zu_j _ _ _ _ _ (fun z => h2 z.symm), zu_j _ _ _ _ _ (fun z => h1 z.symm)]
  refine ⟨h.row ⟨d1, d2, d3, d4, d5, d6⟩ rfl (fun a ha => ?_) (fun a ha => ?_), ?_, fun z => absurd rfl z, fun _ => ⟨hk, ?_, ?_, ?_, ?_, ?_, ?_, ?_, ?_, ⟨Int.le_refl _, (by decide : (0 : Int) ≤ 11)⟩, fun p h1 h2 => ?_⟩⟩
  · show zu (zu (zu σ.1 P 2 _) P 3 _) P 5 _ a = _
    rw [zu_n _ _ _ ha, zu_n _ _ _ ha, zu_n _ _ _ ha]
  · show zu σ.2.1 P 4 _ a = _
    rw [zu_n _ _ _ ha]
  · show (zu (zu (zu σ.1 P 2 _) P 3 _) P 5 _ P 8).toInt = 0
    rw [g 8 (by decide) (by decide) (by decide)]; exact h8
  · show (zu (zu (zu σ.1 P 2 _) P 3 _) P 5 _ P 2).toInt = 0
    rw [zu_j _ _ _ _ _ (by decide), zu_j _ _ _ _ _ (by decide), zu_s]; exact e0
  · show (zu (zu (zu σ.1 P 2 _) P 3 _) P 5 _ P 3).toInt = _
    rw [zu_j _ _ _ _ _ (by decide), zu_s]; exact t1
  · show zu σ.2.1 P 4 _ P 4 = _
    rw [zu_s]; exact t2
  · show (zu (zu (zu σ.1 P 2 _) P 3 _) P 5 _ P 5).toInt = _
    rw [zu_s]; exact t3
  · show (zu (zu (zu σ.1 P 2 _) P 3 _) P 5 _ P 10).toInt = 0
    rw [g 10 (by decide) (by decide) (by decide)]; exact h10
  · show (zu (zu (zu σ.1 P 2 _) P 3 _) P 5 _ P 11).toInt = -1
    rw [g 11 (by decide) (by decide) (by decide)]; exact h11
  · show (zu (zu (zu σ.1 P 2 _) P 3 _) P 5 _ P 6).toInt = 0
    rw [g 6 (by decide) (by decide) (by decide)]; exact h6
  · show (zu (zu (zu σ.1 P 2 _) P 3 _) P 5 _ P 7).toInt = 0
    rw [g 7 (by decide) (by decide) (by decide)]; exact h7
  · have h1' : (p : Int) ≤ 0 := h1
    have h2' : p ≠ 0 ∨ (0 : Int) ≠ 0 := h2
    omega
/-- the tokens, out of the class' rows and the reference's names -/
def zTo (kA vA qA : Nat) (σ : zS) (M : Nat → Int64) : zTn := ((fun j => (σ.1 kA j).toInt), (fun j => (σ.2.1 vA j, M j)), (fun j => (σ.2.1 vA j).toInt32.toInt), fun j => (σ.1 qA j).toInt)
theorem vRead0 {p1 w n : Nat} {p2 : Int32} (hd : zVd P tk kA vA qA N) (hk : kA ≠ tk) (hq : qA ≠ tk) (hkq : kA ≠ qA) (hp : p1 ≠ tk ∧ p1 ≠ kA ∧ p1 ≠ qA) (hwv : w ≠ vA) (hn : p2.toInt = n) (hn2 : n ≤ 2000) (hl : zTl tk w kA vA qA σ) (l0 : σ.2.2 P 0 = some tk) (l5 : σ.2.2 tt 1 = some N) (htd : zTd P tk kA qA tt σ.2.2) (hby : ∀ j, -128 ≤ (σ.1 p1 j).toInt ∧ (σ.1 p1 j).toInt ≤ 127) :
    ∃ (m : Nat) (E : Nat → Nat), 0 < m ∧ m ≤ 401 ∧ zTk (σ.1 p1) n (σ.2.1 w) kA vA qA (F_X8_scan tk p1 p2 σ) m E ∧ (m = 401 ∨ 33 ≤ ((F_X8_scan tk p1 p2 σ).1 kA (m - 1)).toInt) ∧ ∀ M : Nat → Int64, zTK (zTo kA vA qA (F_X8_scan tk p1 p2 σ) M) m ∧ (F_X3_parse P p1 p2 tt σ).1.toInt = aAns (aRun (zTo kA vA qA (F_X8_scan tk p1 p2 σ) M) 500 aZ) ∧ ((F_X3_parse P p1 p2 tt σ).2.1 P 9).toInt = aPos (aRun (zTo kA vA qA (F_X8_scan tk p1 p2 σ) M) 500 aZ) := by
  obtain ⟨m, E, z1, z2, z3, z4, z5, z6⟩ := zsc hk hq hkq hp hwv hn hn2 hl hby
  refine ⟨m, E, z2, z3, z4, z5, fun M => ?_⟩
  have g0 : (σ.2.2 P 0).getD 0 = tk := by rw [l0]; rfl
  obtain ⟨τ, hτ⟩ : ∃ t : zS, t = F_X8_scan tk p1 p2 σ := ⟨_, rfl⟩
  rw [← hτ] at z1 z4 z5 z6
  obtain ⟨T, hT⟩ : ∃ t : zTn, t = zTo kA vA qA τ M := ⟨_, rfl⟩
  rw [← hτ, ← hT]
  have hK : zTK T m := by
    refine ⟨z2, z3, fun j h1 h2 h3 => ?_⟩
    by_cases c : j + 1 < m
    · exact c
    · have ej : j = m - 1 := by omega
      rcases z5 with z | z
      · omega
      · rw [hT] at h2
        have h2' : (τ.1 kA j).toInt < 33 := h2
        rw [ej] at h2'
        omega
  refine ⟨hK, ?_⟩
  obtain ⟨⟨d7, d8, d9, d10⟩, d11⟩ := htd
  obtain ⟨d1, d2, d3, d4, d5, d6⟩ := hd
  unfold F_X3_parse
  simp only [zlt, g0, ← hτ, zu_s]
  have gt : (some tt : Option Nat).getD 0 = tt := rfl
  simp only [gt]
  have cf := cClear (tt := tt) (σ := (τ.1, τ.2.1, zu τ.2.2 P 1 (some tt)))
  obtain ⟨C, hC⟩ : ∃ c : zS, c = F_X9_clear tt (τ.1, τ.2.1, zu τ.2.2 P 1 (some tt)) := ⟨_, rfl⟩
  rw [← hC] at cf ⊢
  have r0 : C.2.2 = zu σ.2.2 P 1 (some tt) := by rw [cf.1]; show zu τ.2.2 P 1 (some tt) = _; rw [z6.1]
  have r1 : C.2.1 = τ.2.1 := by rw [cf.1]
  have rt : ∀ j, (zu τ.2.2 P 1 (some tt) tt j) = σ.2.2 tt j := fun j => by rw [zu_n _ _ _ d7, z6.1]
  have fr : ∀ c, c ≠ tt → (∀ j, (j = 2 ∨ j = 3 ∨ j = 4 ∨ j = 5 ∨ j = 6 ∨ j = 7 ∨ j = 9) → (σ.2.2 tt j).getD 0 ≠ c) → C.1 c = τ.1 c := fun c h1 h2 => by
    refine cf.2 c h1 ?_ ?_ ?_
    · show c ≠ (zu τ.2.2 P 1 (some tt) tt 6).getD 0
      rw [rt]; exact fun z => h2 6 (by omega) z.symm
    · show c ≠ (zu τ.2.2 P 1 (some tt) tt 7).getD 0
      rw [rt]; exact fun z => h2 7 (by omega) z.symm
    · show c ≠ (zu τ.2.2 P 1 (some tt) tt 9).getD 0
      rw [rt]; exact fun z => h2 9 (by omega) z.symm
  have ftk := fr tk (fun z => d8 z.symm) (fun j hj => (d11 j hj).2.1)
  have fkA := fr kA (fun z => d9 z.symm) (fun j hj => (d11 j hj).2.2.1)
  have fqA := fr qA (fun z => d10 z.symm) (fun j hj => (d11 j hj).2.2.2)
  obtain ⟨hl0, hl1, hl2, hl3⟩ := hl
  have row : ∀ (X : Nat → Nat → Int32), (∀ c, c ≠ P → X c = C.1 c) → zVs P tk kA vA qA tt N m T (X, C.2.1, C.2.2) := fun X hX => by
    refine ⟨⟨?_, ?_, ?_, ?_, ?_, ?_⟩, ?_, fun j => ?_, ⟨d7, d8, d9, d10⟩, fun j hj => ?_⟩
    · show C.2.2 P 0 = _
      rw [r0, zu_j _ _ _ _ _ (by decide)]; exact l0
    · show C.2.2 P 1 = _
      rw [r0, zu_s]
    · show C.2.2 tk 1 = _
      rw [r0, zu_n _ _ _ d1]; exact hl1
    · show C.2.2 tk 2 = _
      rw [r0, zu_n _ _ _ d1]; exact hl2
    · show C.2.2 tk 3 = _
      rw [r0, zu_n _ _ _ d1]; exact hl3
    · show C.2.2 tt 1 = _
      rw [r0, zu_n _ _ _ d7]; exact l5
    · show (X tk 4).toInt = _
      rw [hX tk d1, ftk]; exact z1
    · show (X kA j).toInt = _ ∧ C.2.1 vA j = _ ∧ (C.2.1 vA j).toInt32.toInt = _ ∧ (X qA j).toInt = _
      rw [hX kA d2, hX qA d3, fkA, fqA, r1, hT]
      exact ⟨rfl, rfl, rfl, rfl⟩
    · show (C.2.2 tt j).getD 0 ≠ P ∧ _
      rw [show (X, C.2.1, C.2.2).2.2 tt j = σ.2.2 tt j by show C.2.2 tt j = _; rw [r0, zu_n _ _ _ d7]]
      exact d11 j hj
  have e0 : (0 : Int32).toInt = 0 := by decide
  have em : (-1 : Int32).toInt = -1 := by decide
  have v0 := vGo0 ⟨d1, d2, d3, d4, d5, d6⟩ (row (zu (zu (zu (zu (zu (zu C.1 P 6 0) P 7 0) P 8 0) P 9 (-1)) P 10 0) P 11 (-1)) (fun c hc => by rw [zu_n _ _ _ hc, zu_n _ _ _ hc, zu_n _ _ _ hc, zu_n _ _ _ hc, zu_n _ _ _ hc, zu_n _ _ _ hc])) z2
    (by show (zu _ P 11 _ P 8 : Int32).toInt = 0; rw [zu_j _ _ _ _ _ (by decide), zu_j _ _ _ _ _ (by decide), zu_j _ _ _ _ _ (by decide), zu_s]; exact e0)
    (by show (zu _ P 11 _ P 10 : Int32).toInt = 0; rw [zu_j _ _ _ _ _ (by decide), zu_s]; exact e0)
    (by show (zu _ P 11 _ P 11 : Int32).toInt = -1; rw [zu_s]; exact em)
    (by show (zu _ P 11 _ P 6 : Int32).toInt = 0; rw [zu_j _ _ _ _ _ (by decide), zu_j _ _ _ _ _ (by decide), zu_j _ _ _ _ _ (by decide), zu_j _ _ _ _ _ (by decide), zu_j _ _ _ _ _ (by decide), zu_s]; exact e0)
    (by show (zu _ P 11 _ P 7 : Int32).toInt = 0; rw [zu_j _ _ _ _ _ (by decide), zu_j _ _ _ _ _ (by decide), zu_j _ _ _ _ _ (by decide), zu_j _ _ _ _ _ (by decide), zu_s]; exact e0)
  exact (vParse ⟨d1, d2, d3, d4, d5, d6⟩ hK 10000 0 0 _ _ (by decide) (by omega) (by omega) v0 (fun _ => Nat.zero_le _) 500 (by omega))
end ZV6
