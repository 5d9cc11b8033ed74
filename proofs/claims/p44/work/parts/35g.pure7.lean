/-! READING A TEXT, told once for both sides: tokens (kinds; names on both sides; numbers; places), a state (fault, its place, token, late fault, its place, is the mouth told, places told, names) -/
theorem zne {α : Type} {x y : α} (h : x = y) : ¬ x ≠ y := fun z => z h
abbrev zTn : Type := (Nat → Int) × (Nat → Int64 × Int64) × (Nat → Int) × (Nat → Int)
abbrev zA : Type := Int × Int × Nat × Int × Int × Int × Int × (Nat → Int64 × Int64)
def aFail (T : zTn) (n : Int) (s : zA) : zA := if s.1 ≠ 0 then s else (n, T.2.2.2 s.2.2.1, s.2.2)
def aTake (T : zTn) (w : Int) (s : zA) : zA := if s.1 ≠ 0 then s else if T.1 s.2.2.1 ≠ w then aFail T 1 s else if 400 ≤ s.2.2.1 then aFail T 2 s else (s.1, s.2.1, s.2.2.1 + 1, s.2.2.2)
def aLate (T : zTn) (n : Int) (s : zA) : zA := if s.1 ≠ 0 then s else if s.2.2.2.1 ≠ 0 then s else (s.1, s.2.1, s.2.2.1, n, T.2.2.2 s.2.2.1, s.2.2.2.2.2)
def aFind (nm : Nat → Int64 × Int64) (pt : Int) (x : Int64) : Nat → Nat → Int
  | 0, _ => -1
  | n + 1, p => if (p : Int) ≤ pt ∧ p < 12 then (if (nm p).1 = x then p else aFind nm pt x n (p + 1)) else -1
def aNum (s : zA) (x : Int64) : Int := aFind s.2.2.2.2.2.2.2 s.2.2.2.2.2.2.1 x 20 (if s.2.2.2.2.2.1 = 0 then 1 else 0)
def aNew (T : zTn) (s : zA) : zA := aTake T 22 (if s.1 = 0 ∧ T.1 s.2.2.1 = 22 ∧ aNum s (T.2.1 s.2.2.1).1 ≠ -1 then aLate T 3 s else s)
def aKnown (T : zTn) (s : zA) : zA := aTake T 22 (if s.1 = 0 ∧ T.1 s.2.2.1 = 22 ∧ aNum s (T.2.1 s.2.2.1).1 = -1 then aLate T 4 s else s)
def aNumb (T : zTn) (lo hi : Int) (s : zA) : zA := aTake T 23 (if s.1 = 0 ∧ T.1 s.2.2.1 = 23 ∧ ¬ (lo ≤ T.2.2.1 s.2.2.1 ∧ T.2.2.1 s.2.2.1 ≤ hi) then aLate T 5 s else s)
def zTK (T : zTn) (m : Nat) : Prop := 0 < m ∧ m ≤ 401 ∧ ∀ j, j < m → T.1 j < 33 → j < 400 → j + 1 < m
/-- the text's own cells are apart from the parser's -/
def zTd (P tk kA qA tt : Nat) (R : Nat → Nat → Option Nat) : Prop := (tt ≠ P ∧ tt ≠ tk ∧ tt ≠ kA ∧ tt ≠ qA) ∧ ∀ j, (j = 2 ∨ j = 3 ∨ j = 4 ∨ j = 5 ∨ j = 6 ∨ j = 7 ∨ j = 9) → (R tt j).getD 0 ≠ P ∧ (R tt j).getD 0 ≠ tk ∧ (R tt j).getD 0 ≠ kA ∧ (R tt j).getD 0 ≠ qA
/-- what of the class' cells stays while a text is read -/
def zVs (P tk kA vA qA tt N m : Nat) (T : zTn) (σ : zS) : Prop :=
  (σ.2.2 P 0 = some tk ∧ σ.2.2 P 1 = some tt ∧ σ.2.2 tk 1 = some kA ∧ σ.2.2 tk 2 = some vA ∧ σ.2.2 tk 3 = some qA ∧ σ.2.2 tt 1 = some N) ∧ (σ.1 tk 4).toInt = m ∧ (∀ j, (σ.1 kA j).toInt = T.1 j ∧ σ.2.1 vA j = (T.2.1 j).1 ∧ (σ.2.1 vA j).toInt32.toInt = T.2.2.1 j ∧ (σ.1 qA j).toInt = T.2.2.2 j) ∧ zTd P tk kA qA tt σ.2.2
def zVr (P N m : Nat) (T : zTn) (σ : zS) (s : zA) : Prop :=
  s.2.2.1 < m ∧ (σ.1 P 2).toInt = s.2.2.1 ∧ (σ.1 P 3).toInt = T.1 s.2.2.1 ∧ σ.2.1 P 4 = (T.2.1 s.2.2.1).1 ∧ (σ.1 P 5).toInt = T.2.2.2 s.2.2.1 ∧ (σ.1 P 10).toInt = s.2.2.2.1 ∧ (σ.1 P 11).toInt = s.2.2.2.2.1 ∧ (σ.1 P 6).toInt = s.2.2.2.2.2.1 ∧ (σ.1 P 7).toInt = s.2.2.2.2.2.2.1 ∧ (0 ≤ s.2.2.2.2.2.2.1 ∧ s.2.2.2.2.2.2.1 ≤ 11) ∧ ∀ p : Nat, (p : Int) ≤ s.2.2.2.2.2.2.1 → (p ≠ 0 ∨ s.2.2.2.2.2.1 ≠ 0) → σ.2.1 N p = (s.2.2.2.2.2.2.2 p).1
def zV (P tk kA vA qA tt N m : Nat) (T : zTn) (σ : zS) (s : zA) : Prop :=
  zVs P tk kA vA qA tt N m T σ ∧ (σ.1 P 8).toInt = s.1 ∧ (s.1 ≠ 0 → (σ.1 P 9).toInt = s.2.1 ∧ (σ.1 P 3).toInt = 34) ∧ (s.1 = 0 → zVr P N m T σ s)
def zVd (P tk kA vA qA N : Nat) : Prop := tk ≠ P ∧ kA ≠ P ∧ qA ≠ P ∧ vA ≠ P ∧ N ≠ P ∧ N ≠ vA
section ZV
variable {P tk kA vA qA tt N m : Nat} {T : zTn} {σ σ' : zS} {s : zA}
theorem zVs.cg (h : zVs P tk kA vA qA tt N m T σ) (e0 : σ'.2.2 = σ.2.2) (e1 : σ'.1 tk = σ.1 tk) (e2 : σ'.1 kA = σ.1 kA) (e3 : σ'.1 qA = σ.1 qA) (e4 : σ'.2.1 vA = σ.2.1 vA) : zVs P tk kA vA qA tt N m T σ' := by
  unfold zVs
  rw [e0, e1, e2, e3, e4]
  exact h
theorem zV.cg (h : zV P tk kA vA qA tt N m T σ s) (e0 : σ'.2.2 = σ.2.2) (e1 : σ'.1 tk = σ.1 tk) (e2 : σ'.1 kA = σ.1 kA) (e3 : σ'.1 qA = σ.1 qA) (e4 : σ'.2.1 vA = σ.2.1 vA) (e5 : σ'.1 P = σ.1 P) (e6 : σ'.2.1 P = σ.2.1 P) (e7 : σ'.2.1 N = σ.2.1 N) : zV P tk kA vA qA tt N m T σ' s := by
  refine ⟨h.1.cg e0 e1 e2 e3 e4, ?_⟩
  unfold zVr
  rw [e5, e6, e7]
  exact h.2
/-- the parser's own row alone has changed -/
theorem zVs.row (hd : zVd P tk kA vA qA N) (h : zVs P tk kA vA qA tt N m T σ) (e0 : σ'.2.2 = σ.2.2) (e1 : ∀ a, a ≠ P → σ'.1 a = σ.1 a) (e2 : ∀ a, a ≠ P → σ'.2.1 a = σ.2.1 a) : zVs P tk kA vA qA tt N m T σ' := h.cg e0 (e1 _ hd.1) (e1 _ hd.2.1) (e1 _ hd.2.2.1) (e2 _ hd.2.2.2.1)
theorem vFail (hd : zVd P tk kA vA qA N) (h : zV P tk kA vA qA tt N m T σ s) (n : Int32) (hn : n.toInt ≠ 0) : zV P tk kA vA qA tt N m T (F_X3_fail P n σ) (aFail T n.toInt s) := by
  unfold F_X3_fail aFail
  simp only [zlt]
  by_cases c : s.1 = 0
  · rw [if_pos (h.2.1.trans c), if_neg (zne c)]
    have r := h.2.2.2 c
    have e5 : zu σ.1 P 8 n P 5 = σ.1 P 5 := zu_j _ _ _ _ _ (by decide)
    rw [e5]
    refine ⟨h.1.row hd rfl (fun a ha => ?_) (fun a ha => rfl), ?_, fun _ => ⟨?_, ?_⟩, fun z => absurd z hn⟩
    · show zu (zu (zu σ.1 P 8 n) P 9 _) P 3 _ a = _
      rw [zu_n _ _ _ ha, zu_n _ _ _ ha, zu_n _ _ _ ha]
    · show (zu (zu (zu σ.1 P 8 n) P 9 _) P 3 _ P 8).toInt = _
      rw [zu_j _ _ _ _ _ (by decide), zu_j _ _ _ _ _ (by decide), zu_s]
    · show (zu (zu (zu σ.1 P 8 n) P 9 _) P 3 _ P 9).toInt = _
      rw [zu_j _ _ _ _ _ (by decide), zu_s]
      exact r.2.2.2.2.1
    · show (zu (zu (zu σ.1 P 8 n) P 9 _) P 3 _ P 3).toInt = _
      rw [zu_s]
      decide
  · rw [if_neg (fun z => c (h.2.1.symm.trans z)), if_pos c]
    exact h
theorem vLate (hd : zVd P tk kA vA qA N) (h : zV P tk kA vA qA tt N m T σ s) (hs : s.1 = 0) (n : Int32) : zV P tk kA vA qA tt N m T (F_X3_failLate P n σ) (aLate T n.toInt s) := by
  have r := h.2.2.2 hs
  obtain ⟨r1, r2, r3, r4, r5, r6, r7, r8, r9, r10, r11⟩ := r
  unfold F_X3_failLate aLate
  simp only [zlt]
  rw [if_neg (zne hs)]
  by_cases c : s.2.2.2.1 = 0
  · rw [if_pos (r6.trans c), if_neg (zne c)]
    have e5 : zu σ.1 P 10 n P 5 = σ.1 P 5 := zu_j _ _ _ _ _ (by decide)
    rw [e5]
    have g : ∀ j, j ≠ 10 → j ≠ 11 → zu (zu σ.1 P 10 n) P 11 (σ.1 P 5) P j = σ.1 P j := fun j h1 h2 => by rw [zu_j _ _ _ _ _ (fun z => h2 z.symm), zu_j _ _ _ _ _ (fun z => h1 z.symm)]
    refine ⟨h.1.row hd rfl (fun a ha => ?_) (fun a ha => rfl), ?_, fun z => absurd hs z, fun _ => ⟨r1, ?_, ?_, r4, ?_, ?_, ?_, ?_, ?_, r10, r11⟩⟩
    · show zu (zu σ.1 P 10 n) P 11 _ a = _
      rw [zu_n _ _ _ ha, zu_n _ _ _ ha]
    · show (zu (zu σ.1 P 10 n) P 11 _ P 8).toInt = _
      rw [g 8 (by decide) (by decide)]; exact h.2.1
    · show (zu (zu σ.1 P 10 n) P 11 _ P 2).toInt = _
      rw [g 2 (by decide) (by decide)]; exact r2
    · show (zu (zu σ.1 P 10 n) P 11 _ P 3).toInt = _
      rw [g 3 (by decide) (by decide)]; exact r3
    · show (zu (zu σ.1 P 10 n) P 11 _ P 5).toInt = _
      rw [g 5 (by decide) (by decide)]; exact r5
    · show (zu (zu σ.1 P 10 n) P 11 _ P 10).toInt = _
      rw [zu_j _ _ _ _ _ (by decide), zu_s]
    · show (zu (zu σ.1 P 10 n) P 11 _ P 11).toInt = _
      rw [zu_s]; exact r5
    · show (zu (zu σ.1 P 10 n) P 11 _ P 6).toInt = _
      rw [g 6 (by decide) (by decide)]; exact r8
    · show (zu (zu σ.1 P 10 n) P 11 _ P 7).toInt = _
      rw [g 7 (by decide) (by decide)]; exact r9
  · rw [if_neg (fun z => c (r6.symm.trans z)), if_pos c]
    exact h
/-- on to a token that is there -/
theorem vGo (hd : zVd P tk kA vA qA N) (h : zV P tk kA vA qA tt N m T σ s) (hs : s.1 = 0) (i : Int32) (k : Nat) (hi : i.toInt = k) (hk : k < m) : zV P tk kA vA qA tt N m T (F_X3_goTo P i σ) (s.1, s.2.1, k, s.2.2.2) := by
  have r := h.2.2.2 hs
  obtain ⟨r1, r2, r3, r4, r5, r6, r7, r8, r9, r10, r11⟩ := r
  obtain ⟨⟨l0, l1, l2, l3, l4, l5⟩, hm, ht, -⟩ := id h.1
  obtain ⟨d1, d2, d3, d4, d5, d6⟩ := hd
  have g0 : (σ.2.2 P 0).getD 0 = tk := by rw [l0]; rfl
  have g1 : (σ.2.2 tk 1).getD 0 = kA := by rw [l2]; rfl
  have g2 : (σ.2.2 tk 2).getD 0 = vA := by rw [l3]; rfl
  have g3 : (σ.2.2 tk 3).getD 0 = qA := by rw [l4]; rfl
  have en : i.toNatClampNeg = k := by rw [ztn, hi]; rfl
  have c1 : ¬ (1 : Int32).toInt = 0 := by decide
  unfold F_X3_goTo
  simp only [zlt, g0, g1, g2, g3, en]
  rw [if_neg (by omega), if_pos (by omega), if_neg c1, if_neg c1, if_neg c1]
  have k1 : zu σ.1 P 2 i kA k = σ.1 kA k := by rw [zu_n _ _ _ d2]
  have k2 : ∀ x, zu (zu σ.1 P 2 i) P 3 x qA k = σ.1 qA k := fun x => by rw [zu_n _ _ _ d3, zu_n _ _ _ d3]
  simp only [k1]
  have k3 : zu σ.2.1 P 4 (σ.2.1 vA k) = zu σ.2.1 P 4 (σ.2.1 vA k) := rfl
  simp only [k2]
  obtain ⟨t1, t2, -, t3⟩ := ht k
  have g : ∀ j, j ≠ 2 → j ≠ 3 → j ≠ 5 → zu (zu (zu σ.1 P 2 i) P 3 (σ.1 kA k)) P 5 (σ.1 qA k) P j = σ.1 P j := fun j h1 h2 h3 => by rw [zu_j _ _ _ _ _ (fun z => h3 z.symm), zu_j _ _ _ _ _ (fun z => h2 z.symm), zu_j _ _ _ _ _ (fun z => h1 z.symm)]
  refine ⟨h.1.row ⟨d1, d2, d3, d4, d5, d6⟩ rfl (fun a ha => ?_) (fun a ha => ?_), ?_, fun z => absurd hs z, fun _ => ⟨hk, ?_, ?_, ?_, ?_, ?_, ?_, ?_, ?_, r10, fun p h1 h2 => ?_⟩⟩
  · show zu (zu (zu σ.1 P 2 i) P 3 _) P 5 _ a = _
    rw [zu_n _ _ _ ha, zu_n _ _ _ ha, zu_n _ _ _ ha]
  · show zu σ.2.1 P 4 _ a = _
    rw [zu_n _ _ _ ha]
  · show (zu (zu (zu σ.1 P 2 i) P 3 _) P 5 _ P 8).toInt = _
    rw [g 8 (by decide) (by decide) (by decide)]; exact h.2.1
  · show (zu (zu (zu σ.1 P 2 i) P 3 _) P 5 _ P 2).toInt = _
    rw [zu_j _ _ _ _ _ (by decide), zu_j _ _ _ _ _ (by decide), zu_s]; exact hi
  · show (zu (zu (zu σ.1 P 2 i) P 3 _) P 5 _ P 3).toInt = _
    rw [zu_j _ _ _ _ _ (by decide), zu_s]; exact t1
  · show zu σ.2.1 P 4 _ P 4 = _
    rw [zu_s]; exact t2
  · show (zu (zu (zu σ.1 P 2 i) P 3 _) P 5 _ P 5).toInt = _
    rw [zu_s]; exact t3
  · show (zu (zu (zu σ.1 P 2 i) P 3 _) P 5 _ P 10).toInt = _
    rw [g 10 (by decide) (by decide) (by decide)]; exact r6
  · show (zu (zu (zu σ.1 P 2 i) P 3 _) P 5 _ P 11).toInt = _
    rw [g 11 (by decide) (by decide) (by decide)]; exact r7
  · show (zu (zu (zu σ.1 P 2 i) P 3 _) P 5 _ P 6).toInt = _
    rw [g 6 (by decide) (by decide) (by decide)]; exact r8
  · show (zu (zu (zu σ.1 P 2 i) P 3 _) P 5 _ P 7).toInt = _
    rw [g 7 (by decide) (by decide) (by decide)]; exact r9
  · show zu σ.2.1 P 4 _ N p = _
    rw [zu_n _ _ _ d5]; exact r11 p h1 h2
theorem vTake (hd : zVd P tk kA vA qA N) (hT : zTK T m) (h : zV P tk kA vA qA tt N m T σ s) (w : Int32) (hw : w.toInt < 33) : zV P tk kA vA qA tt N m T (F_X3_take P w σ) (aTake T w.toInt s) := by
  have e1 : (1 : Int32).toInt = 1 := by decide
  have e2 : (2 : Int32).toInt = 2 := by decide
  have e400 : (400 : Int32).toInt = 400 := by decide
  unfold F_X3_take aTake
  simp only [zlt]
  by_cases c : s.1 = 0
  · rw [if_neg (zne c)]
    obtain ⟨r1, r2, r3, -⟩ := h.2.2.2 c
    by_cases c1 : T.1 s.2.2.1 = w.toInt
    · rw [if_pos (r3.trans c1), if_neg (zne c1)]
      by_cases c2 : s.2.2.1 < 400
      · rw [if_pos (by omega), if_neg (by omega)]
        exact vGo hd h c _ (s.2.2.1 + 1) (zp1 r2 (by omega)) (hT.2.2 _ r1 (by omega) c2)
      · rw [if_neg (by omega), if_pos (by omega)]
        exact vFail hd h 2 (by decide)
    · rw [if_neg (fun z => c1 (r3.symm.trans z)), if_pos c1]
      exact vFail hd h 1 (by decide)
  · rw [if_pos c, if_neg (by rw [(h.2.2.1 c).2]; omega)]
    have q := vFail hd h 1 (by decide)
    unfold aFail at q
    rw [if_pos c] at q
    exact q
end ZV
theorem aTake_f {T : zTn} {s : zA} {w : Int} (c : s.1 ≠ 0) : aTake T w s = s := if_pos c
theorem aFail_f {T : zTn} {s : zA} {n : Int} (c : s.1 ≠ 0) : aFail T n s = s := if_pos c
theorem aTake_z {T : zTn} {s : zA} {w : Int} (h : (aTake T w s).1 = 0) : s.1 = 0 := Classical.byContradiction (fun c => by rw [aTake_f c] at h; exact c h)
theorem aFail_1 {T : zTn} {n : Int} {s : zA} (hn : n ≠ 0) : (aFail T n s).1 ≠ 0 := by
  unfold aFail
  split
  · next h => exact h
  · exact hn
/-- a token more: on by one, or a fault -/
theorem aTake_i {T : zTn} {w : Int} {s : zA} (h : (aTake T w s).1 = 0) : s.1 = 0 ∧ T.1 s.2.2.1 = w ∧ (aTake T w s).2.2.1 = s.2.2.1 + 1 ∧ (aTake T w s).2.2.2 = s.2.2.2 := by
  have h0 := aTake_z h
  unfold aTake at h ⊢
  rw [if_neg (zne h0)] at h ⊢
  by_cases c1 : T.1 s.2.2.1 = w
  · rw [if_neg (zne c1)] at h ⊢
    by_cases c2 : 400 ≤ s.2.2.1
    · rw [if_pos c2] at h
      exact absurd h (aFail_1 (by decide))
    · rw [if_neg c2] at h ⊢
      exact ⟨h0, c1, rfl, rfl⟩
  · rw [if_pos c1] at h
    exact absurd h (aFail_1 (by decide))
