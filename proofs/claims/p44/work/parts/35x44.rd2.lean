/-! THE CLASS, ahead of its loop -/
section ZV6b
variable {P tk kA vA qA tt N m : Nat} {T : zTn} {σ : zS}
theorem vRead1 {p1 w n : Nat} {p2 : Int32} (hd : zVd P tk kA vA qA N) (hk : kA ≠ tk) (hq : qA ≠ tk) (hkq : kA ≠ qA) (hp : p1 ≠ tk ∧ p1 ≠ kA ∧ p1 ≠ qA) (hwv : w ≠ vA) (hn : p2.toInt = n) (hn2 : n ≤ 2000) (hl : zTl tk w kA vA qA σ) (l0 : σ.2.2 P 0 = some tk) (l5 : σ.2.2 tt 1 = some N) (htd : zTd P tk kA qA tt σ.2.2) (hby : ∀ j, -128 ≤ (σ.1 p1 j).toInt ∧ (σ.1 p1 j).toInt ≤ 127) :
    ∃ (m : Nat) (E : Nat → Nat), 0 < m ∧ m ≤ 401 ∧ zTk (σ.1 p1) n (σ.2.1 w) kA vA qA (F_X8_scan tk p1 p2 σ) m E ∧ (m = 401 ∨ 33 ≤ ((F_X8_scan tk p1 p2 σ).1 kA (m - 1)).toInt) ∧ (F_X8_scan tk p1 p2 σ).2.2 = σ.2.2 ∧ ∀ M : Nat → Int64, zTK (zTo kA vA qA (F_X8_scan tk p1 p2 σ) M) m ∧ ∃ C0 : zS, zV P tk kA vA qA tt N m (zTo kA vA qA (F_X8_scan tk p1 p2 σ) M) C0 aZ ∧ F_X3_parse P p1 p2 tt σ = F_X3_parse_59 P p1 p2 tt 10000 0 C0 ∧ C0.2.2 = zu σ.2.2 P 1 (some tt) ∧ zFi (fun c _ => c = P) (F_X9_clear tt ((F_X8_scan tk p1 p2 σ).1, (F_X8_scan tk p1 p2 σ).2.1, zu (F_X8_scan tk p1 p2 σ).2.2 P 1 (some tt))) C0 := by
  obtain ⟨m, E, z1, z2, z3, z4, z5, z6⟩ := zsc hk hq hkq hp hwv hn hn2 hl hby
  refine ⟨m, E, z2, z3, z4, z5, z6.1, fun M => ?_⟩
  have g0 : (σ.2.2 P 0).getD 0 = tk := by rw [l0]; rfl
  obtain ⟨τ, hτ⟩ : ∃ t : zS, t = F_X8_scan tk p1 p2 σ := ⟨_, rfl⟩
  rw [← hτ] at z1 z4 z5 z6
  obtain ⟨T, hT⟩ : ∃ t : zTn, t = zTo kA vA qA τ M := ⟨_, rfl⟩
  rw [← hτ, ← hT]
  have hK : zTK T m := by
    refine ⟨z2, z3, fun j h1 h2 h3 => ?_⟩
    by_cases c : j + 1 < m
    · exact c
    · have ej : j = m - 1 := by omega
      rcases z5 with z | z
      · omega
      · rw [hT] at h2
        have h2' : (τ.1 kA j).toInt < 33 := h2
        rw [ej] at h2'
        omega
  refine ⟨hK, ?_⟩
  obtain ⟨⟨d7, d8, d9, d10⟩, d11⟩ := htd
  obtain ⟨d1, d2, d3, d4, d5, d6⟩ := hd
  have cf := cClear (tt := tt) (σ := (τ.1, τ.2.1, zu τ.2.2 P 1 (some tt)))
  obtain ⟨C, hC⟩ : ∃ c : zS, c = F_X9_clear tt (τ.1, τ.2.1, zu τ.2.2 P 1 (some tt)) := ⟨_, rfl⟩
  rw [← hC] at cf ⊢
  have r0 : C.2.2 = zu σ.2.2 P 1 (some tt) := by rw [cf.1]; show zu τ.2.2 P 1 (some tt) = _; rw [z6.1]
  have r1 : C.2.1 = τ.2.1 := by rw [cf.1]
  have rt : ∀ j, (zu τ.2.2 P 1 (some tt) tt j) = σ.2.2 tt j := fun j => by rw [zu_n _ _ _ d7, z6.1]
  have fr : ∀ c, c ≠ tt → (∀ j, (j = 2 ∨ j = 3 ∨ j = 4 ∨ j = 5 ∨ j = 6 ∨ j = 7 ∨ j = 9) → (σ.2.2 tt j).getD 0 ≠ c) → C.1 c = τ.1 c := fun c h1 h2 => by
    refine cf.2 c h1 ?_ ?_ ?_
    · show c ≠ (zu τ.2.2 P 1 (some tt) tt 6).getD 0
      rw [rt]; exact fun z => h2 6 (by omega) z.symm
    · show c ≠ (zu τ.2.2 P 1 (some tt) tt 7).getD 0
      rw [rt]; exact fun z => h2 7 (by omega) z.symm
    · show c ≠ (zu τ.2.2 P 1 (some tt) tt 9).getD 0
      rw [rt]; exact fun z => h2 9 (by omega) z.symm
  have ftk := fr tk (fun z => d8 z.symm) (fun j hj => (d11 j hj).2.1)
  have fkA := fr kA (fun z => d9 z.symm) (fun j hj => (d11 j hj).2.2.1)
  have fqA := fr qA (fun z => d10 z.symm) (fun j hj => (d11 j hj).2.2.2)
  obtain ⟨hl0, hl1, hl2, hl3⟩ := hl
  have row : ∀ (X : Nat → Nat → Int32), (∀ c, c ≠ P → X c = C.1 c) → zVs P tk kA vA qA tt N m T (X, C.2.1, C.2.2) := fun X hX => by
    refine ⟨⟨?_, ?_, ?_, ?_, ?_, ?_⟩, ?_, fun j => ?_, ⟨d7, d8, d9, d10⟩, fun j hj => ?_⟩
    · show C.2.2 P 0 = _
      rw [r0, zu_j _ _ _ _ _ (by decide)]; exact l0
    · show C.2.2 P 1 = _
      rw [r0, zu_s]
    · show C.2.2 tk 1 = _
      rw [r0, zu_n _ _ _ d1]; exact hl1
    · show C.2.2 tk 2 = _
      rw [r0, zu_n _ _ _ d1]; exact hl2
    · show C.2.2 tk 3 = _
      rw [r0, zu_n _ _ _ d1]; exact hl3
    · show C.2.2 tt 1 = _
      rw [r0, zu_n _ _ _ d7]; exact l5
    · show (X tk 4).toInt = _
      rw [hX tk d1, ftk]; exact z1
    · show (X kA j).toInt = _ ∧ C.2.1 vA j = _ ∧ (C.2.1 vA j).toInt32.toInt = _ ∧ (X qA j).toInt = _
      rw [hX kA d2, hX qA d3, fkA, fqA, r1, hT]
      exact ⟨rfl, rfl, rfl, rfl⟩
    · show (C.2.2 tt j).getD 0 ≠ P ∧ _
      rw [show (X, C.2.1, C.2.2).2.2 tt j = σ.2.2 tt j by show C.2.2 tt j = _; rw [r0, zu_n _ _ _ d7]]
      exact d11 j hj
  have e0 : (0 : Int32).toInt = 0 := by decide
  have em : (-1 : Int32).toInt = -1 := by decide
  have v0 := vGo0 ⟨d1, d2, d3, d4, d5, d6⟩ (row (zu (zu (zu (zu (zu (zu C.1 P 6 0) P 7 0) P 8 0) P 9 (-1)) P 10 0) P 11 (-1)) (fun c hc => by rw [zu_n _ _ _ hc, zu_n _ _ _ hc, zu_n _ _ _ hc, zu_n _ _ _ hc, zu_n _ _ _ hc, zu_n _ _ _ hc])) z2
    (by show (zu _ P 11 _ P 8 : Int32).toInt = 0; rw [zu_j _ _ _ _ _ (by decide), zu_j _ _ _ _ _ (by decide), zu_j _ _ _ _ _ (by decide), zu_s]; exact e0)
    (by show (zu _ P 11 _ P 10 : Int32).toInt = 0; rw [zu_j _ _ _ _ _ (by decide), zu_s]; exact e0)
    (by show (zu _ P 11 _ P 11 : Int32).toInt = -1; rw [zu_s]; exact em)
    (by show (zu _ P 11 _ P 6 : Int32).toInt = 0; rw [zu_j _ _ _ _ _ (by decide), zu_j _ _ _ _ _ (by decide), zu_j _ _ _ _ _ (by decide), zu_j _ _ _ _ _ (by decide), zu_j _ _ _ _ _ (by decide), zu_s]; exact e0)
    (by show (zu _ P 11 _ P 7 : Int32).toInt = 0; rw [zu_j _ _ _ _ _ (by decide), zu_j _ _ _ _ _ (by decide), zu_j _ _ _ _ _ (by decide), zu_j _ _ _ _ _ (by decide), zu_s]; exact e0)
  refine ⟨_, v0, ?_, ?_, ?_⟩
  · unfold F_X3_parse
    simp only [zlt, g0, ← hτ, zu_s, Option.getD_some, ← hC]
  · exact Eq.trans (b := C.2.2) (rf_X3_goTo (R := C.2.2) rfl) r0
  · have w6 := ((((((zFi.id (A := fun c _ => c = P) (σ := C)).w (r := P) (j := 6) (v := (0 : Int32)) rfl).w (r := P) (j := 7) (v := (0 : Int32)) rfl).w (r := P) (j := 8) (v := (0 : Int32)) rfl).w (r := P) (j := 9) (v := (-1 : Int32)) rfl).w (r := P) (j := 10) (v := (0 : Int32)) rfl).w (r := P) (j := 11) (v := (-1 : Int32)) rfl
    exact fi_X3_goTo w6 rfl rfl rfl
end ZV6b
