/-- what the places are told, text told to its end -/
def aRunG (T : zTn) : Nat → zA → zGa → zGa
  | 0, _, g => g
  | n + 1, s, g => if s.1 ≠ 0 then g else if T.1 s.2.2.1 = 33 then g else aRunG T n (aTell T s) (aG T s g)
section TLG3
variable {P tk kA vA qA tt N m : Nat} {T : zTn} {σ σ' τ : zS} {s s' : zA} {W : Nat → Nat} {g : zGa}
def zXz (W : Nat → Nat) (tt : Nat) (R : Nat → Nat → Option Nat) : Prop := ∀ j, 2 ≤ j → j ≤ 5 → W j ≠ tt ∧ W j ≠ (R tt 6).getD 0 ∧ W j ≠ (R tt 7).getD 0 ∧ W j ≠ (R tt 9).getD 0
def zGe (W : Nat → Nat) (tt : Nat) (σ' : zS) (s : zA) (g : zGa) : Prop := (σ'.1 tt 0).toInt = (if s.2.2.2.2.2.1 = 0 then 0 else 1 + s.2.2.2.2.2.2.1) ∧ (0 ≤ s.2.2.2.2.2.2.1 ∧ s.2.2.2.2.2.2.1 ≤ 11) ∧ ∀ p : Nat, 1 ≤ p → (p : Int) ≤ s.2.2.2.2.2.2.1 → (σ'.1 (W 2) p).toInt = (g p).1 ∧ (σ'.1 (W 3) p).toInt = (g p).2.1 ∧ (σ'.1 (W 4) p).toInt = (g p).2.2.1 ∧ (σ'.1 (W 5) p).toInt = (g p).2.2.2
theorem vParseG (hd : zVd P tk kA vA qA N) (hT : zTK T m) {p1 p3 : Nat} {p2 : Int32} : ∀ (n : Nat) (x : Int32) (j : Nat) (τ : zS) (s : zA) (g : zGa), x.toInt = j → j ≤ 401 → 401 - j < n → zV P tk kA vA qA tt N m T τ s → (s.1 = 0 → j ≤ s.2.2.1) → zWz W P tt τ.2.2 → zXz W tt τ.2.2 → zVg W τ s g → ∀ l, 401 - j < l → aAns (aRun T l s) = 0 → zGe W tt (F_X3_parse_59 P p1 p2 p3 n x τ).2 (aRun T l s) (aRunG T l s g) := by
  intro n
  induction n with
  | zero => intro x j τ s g _ _ h; exact absurd h (by omega)
  | succ n ih =>
    intro x j τ s g hx hj hm h hz hW hX hg l hl ha
    obtain ⟨l, rfl⟩ : ∃ q, l = q + 1 := ⟨l - 1, by omega⟩
    have e400 : (400 : Int32).toInt = 400 := by decide
    have e33 : (33 : Int32).toInt = 33 := by decide
    have e1 : (1 : Int32).toInt = 1 := by decide
    have t0 := vtt h
    have tP : tt ≠ P := h.1.2.2.2.1.1
    by_cases c : s.1 = 0
    · obtain ⟨r1, r2, r3, r4, r5, r6, r7, r8, r9, r10, -⟩ := h.2.2.2 c
      have rk := hT.2.1
      have hj2 := hz c
      have c8 := h.2.1.trans c
      rw [F_X3_parse_59]
      simp only [zlt, e400, e33, t0]
      rw [if_neg (by omega), if_pos c8, r3]
      by_cases c1 : T.1 s.2.2.1 = 33
      · have ea : aRun T (l + 1) s = s := by rw [aRun, if_neg (zne c), if_pos c1]
        have eg : aRunG T (l + 1) s g = g := by rw [aRunG, if_neg (zne c), if_pos c1]
        rw [ea] at ha
        rw [if_pos c1, if_pos c8, ea, eg]
        have late : s.2.2.2.1 = 0 := by
          unfold aAns at ha
          rw [if_neg (zne c)] at ha
          exact ha
        have G := hg c late
        have row : ∀ (a b z : Int32) k, 2 ≤ k → k ≤ 5 → ∀ i, zu (zu (zu τ.1 P 8 a) P 9 b) tt 0 z (W k) i = τ.1 (W k) i := fun a b z k k1 k2 i => by
          rw [zu_n _ _ _ (hX k k1 k2).1, zu_n _ _ _ (hW.1 k k1 k2).2, zu_n _ _ _ (hW.1 k k1 k2).2]
        have rows : ∀ (a b z : Int32) (p : Nat), 1 ≤ p → (p : Int) ≤ s.2.2.2.2.2.2.1 → (zu (zu (zu τ.1 P 8 a) P 9 b) tt 0 z (W 2) p).toInt = (g p).1 ∧ (zu (zu (zu τ.1 P 8 a) P 9 b) tt 0 z (W 3) p).toInt = (g p).2.1 ∧ (zu (zu (zu τ.1 P 8 a) P 9 b) tt 0 z (W 4) p).toInt = (g p).2.2.1 ∧ (zu (zu (zu τ.1 P 8 a) P 9 b) tt 0 z (W 5) p).toInt = (g p).2.2.2 := fun a b z p p1 p2 => by
          rw [row _ _ _ 2 (by omega) (by omega), row _ _ _ 3 (by omega) (by omega), row _ _ _ 4 (by omega) (by omega), row _ _ _ 5 (by omega) (by omega)]
          exact G p p1 p2
        have k6 : ∀ a b : Int32, zu (zu τ.1 P 8 a) P 9 b P 6 = τ.1 P 6 := fun a b => by rw [zu_j _ _ _ _ _ (by decide), zu_j _ _ _ _ _ (by decide)]
        have k7 : ∀ a b : Int32, zu (zu τ.1 P 8 a) P 9 b P 7 = τ.1 P 7 := fun a b => by rw [zu_j _ _ _ _ _ (by decide), zu_j _ _ _ _ _ (by decide)]
        simp only [k6, k7, r8]
        by_cases cm : s.2.2.2.2.2.1 = 0
        · rw [if_pos cm]
          refine ⟨?_, r10, fun p p1 p2 => rows _ _ _ p p1 p2⟩
          show Int32.toInt (zu _ tt 0 _ tt 0) = _
          rw [zu_s, if_pos cm]
          decide
        · rw [if_neg cm]
          refine ⟨?_, r10, fun p p1 p2 => rows _ _ _ p p1 p2⟩
          show Int32.toInt (zu _ tt 0 _ tt 0) = _
          rw [zu_s, if_neg cm, zb_add (by rw [e1, r9]; omega) (by rw [e1, r9]; omega), e1, r9]
      · have ea : aRun T (l + 1) s = aRun T l (aTell T s) := by rw [aRun, if_neg (zne c), if_neg c1]
        have eg : aRunG T (l + 1) s g = aRunG T l (aTell T s) (aG T s g) := by rw [aRunG, if_neg (zne c), if_neg c1]
        rw [ea] at ha
        rw [if_neg c1, ea, eg]
        have rt : (F_X3_telling P τ).2.2 = τ.2.2 := rf_X3_telling (R := τ.2.2) rfl
        exact ih _ (j + 1) _ _ _ (zp1 hx (by omega)) (by omega) (by omega) (vTell hd hT h c) (fun z => by have := aTell_i z; omega) (by rw [rt]; exact hW) (by rw [rt]; exact hX) (vTellG hd hT h c hW hX hg) l (by omega) ha
    · have ea : aRun T (l + 1) s = s := by rw [aRun, if_pos c]
      rw [ea] at ha
      unfold aAns at ha
      rw [if_pos c] at ha
      exact absurd ha c
end TLG3
