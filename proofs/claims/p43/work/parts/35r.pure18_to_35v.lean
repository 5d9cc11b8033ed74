-- 35r.pure18
section
section ZW7
variable {a k q v nm nO m : Nat} {T : zTn} {τ τ' : zS} {s s' : zA}
theorem w224 {K : Int32 → zS → Int32 × zS} {K2 : zS → Int32 × zS} : ∀ (n : Nat) (x : Int32) (j : Nat) (τ : zS), x.toInt = j → j ≤ 3 → 3 - j < n → (F_X11_read_224 a K K2 n x τ).1.toInt = 0 ∧ ((τ.2.2 a 67).getD 0 ≠ a → (F_X11_read_224 a K K2 n x τ).2.1 a 17 = τ.1 a 17) := by
  intro n
  induction n with
  | zero => intro x j τ _ _ h; exact absurd h (by omega)
  | succ n ih =>
    intro x j τ hx hj hm
    have e3 : (3 : Int32).toInt = 3 := by decide
    rw [F_X11_read_224]
    simp only [zlt, e3]
    by_cases c : x.toInt < 3
    · rw [if_pos c]
      have q := ih (x + (1 : Int32)) (j + 1) (zu τ.1 ((τ.2.2 a 67).getD 0) x.toNatClampNeg (vp_nar .boolean 0), τ.2.1, τ.2.2) (zp1 hx (by omega)) (by omega) (by omega)
      exact ⟨q.1, fun h => (q.2 h).trans (congrFun (zu_n _ _ _ (fun z => h z.symm)) 17)⟩
    · rw [if_neg c]
      exact ⟨(by decide : (0 : Int32).toInt = 0), fun _ => rfl⟩
/-- no late fault: no place of one -/
def aP (s : zA) : Prop := s.2.2.2.1 = 0 → s.2.2.2.2.1 = -1
theorem aP_fail {n : Int} (h : aP s) : aP (aFail T n s) := by
  unfold aFail
  split
  · exact h
  · exact h
theorem aP_take {w : Int} (h : aP s) : aP (aTake T w s) := by
  unfold aTake
  split
  · exact h
  · split
    · exact aP_fail h
    · split
      · exact aP_fail h
      · exact h
theorem aP_late {n : Int} (hn : n ≠ 0) (h : aP s) : aP (aLate T n s) := by
  unfold aLate
  split
  · exact h
  · split
    · exact h
    · exact fun z => absurd z hn
theorem aP_new (h : aP s) : aP (aNew T s) := by
  unfold aNew
  split
  · exact aP_take (aP_late (by decide) h)
  · exact aP_take h
theorem aP_known (h : aP s) : aP (aKnown T s) := by
  unfold aKnown
  split
  · exact aP_take (aP_late (by decide) h)
  · exact aP_take h
theorem aP_numb {lo hi : Int} (h : aP s) : aP (aNumb T lo hi s) := by
  unfold aNumb
  split
  · exact aP_take (aP_late (by decide) h)
  · exact aP_take h
theorem aP_E : ∀ (n : Nat) (b : Bool) (o : Int) (s : zA), aP s → aP (aE T n b o s) := by
  intro n
  induction n with
  | zero => intro b o s h; rw [aE]; exact h
  | succ n ih =>
    intro b o s h
    cases b with
    | true =>
      rw [aE]
      (repeat' split) <;> first | exact h | exact ih _ _ _ (aP_take h) | exact aP_fail h
    | false =>
      rw [aE]
      (repeat' split) <;> first | exact h | exact ih _ _ _ (aP_take h) | exact aP_fail h
theorem aP_sum (h : aP s) : aP (aSum T s) := aP_E _ _ _ _ h
theorem aP_if {n : Int} (h : aP s) : aP (aIf T n s) := by
  unfold aIf
  refine aP_take (aP_sum (aP_take (aP_sum (aP_take (aP_sum (aP_take ?_))))))
  split
  · exact aP_fail h
  · exact h
theorem aP_lw : ∀ (k : Nat) (n : Int) (s : zA), aP s → aP (aLw T k n s) := by
  intro k
  induction k with
  | zero => intro n s h; exact h
  | succ k ih =>
    intro n s h
    rw [aLw]
    split
    · exact ih _ _ (aP_if h)
    · exact aP_sum h
theorem aP_mouth (h : aP s) : aP (aMouth T s) := by
  have k : ∀ s0 : zA, aP s0 → aP (if (aNew T (aTake T 0 s0)).1 = 0 then aSetM (aNew T (aTake T 0 s0)) (T.2.1 (aTake T 0 s0).2.2.1) else aNew T (aTake T 0 s0)) := fun s0 h0 => by
    have h2 : aP (aNew T (aTake T 0 s0)) := aP_new (aP_take h0)
    split
    · exact h2
    · exact h2
  unfold aMouth
  refine k _ ?_
  split
  · exact aP_fail h
  · exact h
theorem aP_place (h : aP s) : aP (aPlace T s) := by
  have h1 : aP (aPlace1 T s) := by
    unfold aPlace1
    refine aP_take ?_
    split
    · exact aP_fail h
    · exact h
  have h2 : aP (aPlace2 T (aPlace1 T s)) := aP_numb (aP_numb (aP_numb (aP_known (aP_new h1))))
  unfold aPlace
  split
  · exact h2
  · exact h2
theorem aP_tell (h : aP s) : aP (aTell T s) := by
  unfold aTell
  refine aP_take ?_
  split
  · exact aP_mouth h
  · split
    · exact aP_place h
    · split
      · exact aP_lw _ _ _ (aP_take (aP_take h))
      · split
        · exact aP_numb (aP_numb (aP_take h))
        · split
          · exact aP_numb (aP_take h)
          · split
            · exact aP_numb (aP_take h)
            · exact aP_fail h
theorem xRun (hd : zWd a k q v nm nO) (hT : zTm T m) (hK : zTK T m) {x7 : Int32} (K : Int32 → zS → Int32 × zS) : ∀ (n : Nat) (τ : zS) (s : zA), zXo a k q v nm nO m T τ s → aP s → (s.1 = 0 → 401 < n + s.2.2.1) → 0 < n → ∀ l, (s.1 = 0 → 401 < l + s.2.2.1) → 0 < l → (F_X11_read_117 x7 a K n τ).1.toInt = aAns (aRun T l s) ∧ ((F_X11_read_117 x7 a K n τ).2.1 a 17).toInt = aPos (aRun T l s) := by
  intro n
  induction n with
  | zero => intro τ s _ _ _ h; exact absurd h (by omega)
  | succ n ih =>
    intro τ s h hp hn _ l hl _
    obtain ⟨l, rfl⟩ : ∃ q, l = q + 1 := ⟨l - 1, by omega⟩
    have g : ∀ (x : Int32) (j : Nat), j ≠ 17 → zu τ.1 a 17 x a j = τ.1 a j := fun x j hj => zu_j _ _ _ _ _ (fun z => hj z.symm)
    have g13 := fun x => g x 13 (by decide)
    have g15 := fun x => g x 15 (by decide)
    rw [F_X11_read_117]
    simp only [zlt, wIs hT h.1 0 33 (by decide) (by decide), g13, g15]
    have h13 := h.1.2.1
    have h0 := h.1.2.2.1
    by_cases c : s.1 = 0
    · obtain ⟨r1, r2, r3, r4, r5, r6, r7, r8, r9⟩ := h.1.2.2.2.2 c
      have rk := hK.2.1
      have hn2 := hn c
      have hl2 := hl c
      rw [if_pos (h13.trans c)]
      by_cases c1 : T.1 s.2.2.1 = 33
      · have ea : aRun T (l + 1) s = s := by rw [aRun, if_neg (zne c), if_pos c1]
        rw [if_neg (fun z => z ⟨c, c1⟩), if_neg (by omega), ea]
        unfold aAns aPos
        rw [if_neg (zne c), if_neg (zne c)]
        by_cases c2 : 0 < s.2.2.2.1
        · rw [if_pos (by omega), if_neg (by omega), if_pos (by omega)]
          exact ⟨r3, by show (zu τ.1 a 17 (τ.1 a 16) a 17).toInt = _; rw [zu_s]; exact (r5 (by omega)).1⟩
        · rw [if_neg (by omega), if_neg (by omega), if_neg (by omega)]
          have q48 := (h.1.1.2.2 48 (by unfold zQs; omega)).1
          have q49 := (h.1.1.2.2 49 (by unfold zQs; omega)).1
          have q67 := (h.1.1.2.2 67 (by unfold zQs; omega)).1
          have em : (-1 : Int32).toInt = -1 := by decide
          obtain ⟨t1, ht1⟩ : ∃ t : zS, t = (zu (zu τ.1 a 17 (-1)) a 18 (zu τ.1 a 17 (-1) a 19), τ.2.1, τ.2.2) := ⟨_, rfl⟩
          rw [← ht1]
          have f1 : zFr (fun c j => c ≠ a ∨ j = 50 ∨ j = 51) t1 (F_X11_begins a t1) := fr_X11_begins zFr.id (fun j => Or.inl (by rw [ht1]; exact q49)) (Or.inr (Or.inl rfl)) (Or.inr (Or.inr rfl))
          have f2 : zFr (fun c j => c ≠ a ∨ j = 50 ∨ j = 51) t1 (F_X11_keepsRow a (F_X11_begins a t1)) := fr_X11_keepsRow f1 (fun j => Or.inl (by rw [ht1]; exact q48))
          obtain ⟨r, hr⟩ : ∃ r : zS, r = F_X11_keepsRow a (F_X11_begins a t1) := ⟨_, rfl⟩
          rw [← hr] at f2 ⊢
          have v17 : r.1 a 17 = -1 := by
            rw [f2.2 a 17 (by rintro (z | z | z); · exact z rfl
                              · exact absurd z (by decide)
                              · exact absurd z (by decide)), ht1]
            show zu (zu τ.1 a 17 (-1)) a 18 _ a 17 = -1
            rw [zu_j _ _ _ _ _ (by decide), zu_s]
          have r2' : r.2.2 = τ.2.2 := by rw [f2.1, ht1]
          have w := w224 (a := a) (K := K) (K2 := F_X11_read_117 x7 a K n) 10000 0 0 (zu (zu r.1 a 57 0) a 62 0, r.2.1, r.2.2) (by decide) (by omega) (by omega)
          have q67' : (r.2.2 a 67).getD 0 ≠ a := by rw [r2']; exact q67
          refine ⟨w.1.trans (by omega), (congrArg Int32.toInt (w.2 q67')).trans ?_⟩
          show (zu (zu r.1 a 57 0) a 62 0 a 17).toInt = _
          rw [zu_j _ _ _ _ _ (by decide), zu_j _ _ _ _ _ (by decide), v17, em]
          exact (hp (by omega)).symm
      · have ea : aRun T (l + 1) s = aRun T l (aTell T s) := by rw [aRun, if_neg (zne c), if_neg c1]
        rw [if_pos (fun z => c1 z.2), ea]
        exact ih _ _ (xTell hd hT hK h c) (aP_tell hp) (fun z => by have := aTell_i z; omega) (by omega) l (fun z => by have := aTell_i z; omega) (by omega)
    · have ea : aRun T (l + 1) s = s := by rw [aRun, if_pos c]
      rw [if_neg (by omega), if_pos (by omega), if_pos (by omega), ea]
      unfold aAns aPos
      rw [if_pos c, if_pos c]
      exact ⟨h13, by show (zu τ.1 a 17 (τ.1 a 14) a 17).toInt = _; rw [zu_s]; exact h.1.2.2.2.1 c⟩
end ZW7
end
-- 35s.pure19
section
/-! THE CLASS' READ -/
def zCf (tt : Nat) (σ σ' : zS) : Prop := σ'.2 = σ.2 ∧ ∀ c, c ≠ tt → c ≠ (σ.2.2 tt 6).getD 0 → c ≠ (σ.2.2 tt 7).getD 0 → c ≠ (σ.2.2 tt 9).getD 0 → σ'.1 c = σ.1 c
theorem zCf.tr {tt : Nat} {σ σ1 σ2 : zS} (h : zCf tt σ σ1) (g : zCf tt σ1 σ2) : zCf tt σ σ2 := ⟨g.1.trans h.1, fun c h1 h2 h3 h4 => by
  have q := g.2 c h1
  rw [h.1] at q
  exact (q h2 h3 h4).trans (h.2 c h1 h2 h3 h4)⟩
theorem cPut {tt : Nat} {σ : zS} (j : Nat) (v : Int32) : zCf tt σ (zu σ.1 tt j v, σ.2.1, σ.2.2) := ⟨rfl, fun c h1 _ _ _ => zu_n _ _ _ h1⟩
theorem cArr {tt : Nat} {σ : zS} (j : Nat) (v : Int32) : zCf tt σ (zu σ.1 ((σ.2.2 tt 9).getD 0) j v, σ.2.1, σ.2.2) := ⟨rfl, fun c _ _ _ h4 => zu_n _ _ _ h4⟩
theorem cAdd {tt : Nat} {σ : zS} (x y : Int32) : zCf tt σ (F_X9_addStep tt x y σ) := by
  unfold F_X9_addStep
  simp only [zlt]
  split
  · refine ⟨rfl, fun c h1 h2 h3 _ => ?_⟩
    show zu (zu (zu σ.1 _ _ _) _ _ _) tt 8 _ c = _
    rw [zu_n _ _ _ h1, zu_n _ _ _ h3, zu_n _ _ _ h2]
  · exact ⟨rfl, fun _ _ _ _ _ => rfl⟩
theorem cClear_l {tt : Nat} : ∀ (n : Nat) (x : Int32) (τ : zS), zCf tt τ (F_X9_clear_12 tt n x τ) := by
  intro n
  induction n with
  | zero => intro x τ; exact ⟨rfl, fun _ _ _ _ _ => rfl⟩
  | succ n ih =>
    intro x τ
    rw [F_X9_clear_12]
    simp only [zlt]
    split
    · split
      · exact (((cArr _ _).tr (cAdd _ _)).tr (cAdd _ _)).tr (ih _ _)
      · exact (((cArr _ _).tr (cAdd _ _)).tr (cAdd _ _)).tr (ih _ _)
    · exact (((cPut 10 0).tr (cPut 11 0)).tr (cPut 12 1)).tr (cPut 13 0)
theorem cClear {tt : Nat} {σ : zS} : zCf tt σ (F_X9_clear tt σ) := by
  unfold F_X9_clear
  simp only [zlt]
  exact ((cPut 0 0).tr (cPut 8 0)).tr (cClear_l _ _ _)
def aZ : zA := (0, -1, 0, 0, -1, 0, 0, fun _ => (0, 0))
section ZV6
variable {P tk kA vA qA tt N m : Nat} {T : zTn} {σ : zS}
theorem vGo0 (hd : zVd P tk kA vA qA N) (h : zVs P tk kA vA qA tt N m T σ) (hk : 0 < m) (h8 : (σ.1 P 8).toInt = 0) (h10 : (σ.1 P 10).toInt = 0) (h11 : (σ.1 P 11).toInt = -1) (h6 : (σ.1 P 6).toInt = 0) (h7 : (σ.1 P 7).toInt = 0) : zV P tk kA vA qA tt N m T (F_X3_goTo P 0 σ) aZ := by
  obtain ⟨⟨l0, l1, l2, l3, l4, l5⟩, hm, ht, -⟩ := id h
  obtain ⟨d1, d2, d3, d4, d5, d6⟩ := hd
  have g0 : (σ.2.2 P 0).getD 0 = tk := by rw [l0]; rfl
  have g1 : (σ.2.2 tk 1).getD 0 = kA := by rw [l2]; rfl
  have g2 : (σ.2.2 tk 2).getD 0 = vA := by rw [l3]; rfl
  have g3 : (σ.2.2 tk 3).getD 0 = qA := by rw [l4]; rfl
  have en : (0 : Int32).toNatClampNeg = 0 := by decide
  have e0 : (0 : Int32).toInt = 0 := by decide
  have c1 : ¬ (1 : Int32).toInt = 0 := by decide
  unfold F_X3_goTo
  simp only [zlt, g0, g1, g2, g3, en, e0]
  rw [if_neg (by omega), if_pos (by omega), if_neg c1, if_neg c1, if_neg c1]
  have k1 : zu σ.1 P 2 (0 : Int32) kA 0 = σ.1 kA 0 := by rw [zu_n _ _ _ d2]
  have k2 : ∀ x, zu (zu σ.1 P 2 (0 : Int32)) P 3 x qA 0 = σ.1 qA 0 := fun x => by rw [zu_n _ _ _ d3, zu_n _ _ _ d3]
  simp only [k1, k2]
  obtain ⟨t1, t2, -, t3⟩ := ht 0
  have g : ∀ j, j ≠ 2 → j ≠ 3 → j ≠ 5 → zu (zu (zu σ.1 P 2 (0 : Int32)) P 3 (σ.1 kA 0)) P 5 (σ.1 qA 0) P j = σ.1 P j := fun j h1 h2 h3 => by rw [zu_j _ _ _ _ _ (fun z => h3 z.symm), zu_j _ _ _ _ _ (fun z => h2 z.symm), zu_j _ _ _ _ _ (fun z => h1 z.symm)]
  refine ⟨h.row ⟨d1, d2, d3, d4, d5, d6⟩ rfl (fun a ha => ?_) (fun a ha => ?_), ?_, fun z => absurd rfl z, fun _ => ⟨hk, ?_, ?_, ?_, ?_, ?_, ?_, ?_, ?_, ⟨Int.le_refl _, (by decide : (0 : Int) ≤ 11)⟩, fun p h1 h2 => ?_⟩⟩
  · show zu (zu (zu σ.1 P 2 _) P 3 _) P 5 _ a = _
    rw [zu_n _ _ _ ha, zu_n _ _ _ ha, zu_n _ _ _ ha]
  · show zu σ.2.1 P 4 _ a = _
    rw [zu_n _ _ _ ha]
  · show (zu (zu (zu σ.1 P 2 _) P 3 _) P 5 _ P 8).toInt = 0
    rw [g 8 (by decide) (by decide) (by decide)]; exact h8
  · show (zu (zu (zu σ.1 P 2 _) P 3 _) P 5 _ P 2).toInt = 0
    rw [zu_j _ _ _ _ _ (by decide), zu_j _ _ _ _ _ (by decide), zu_s]; exact e0
  · show (zu (zu (zu σ.1 P 2 _) P 3 _) P 5 _ P 3).toInt = _
    rw [zu_j _ _ _ _ _ (by decide), zu_s]; exact t1
  · show zu σ.2.1 P 4 _ P 4 = _
    rw [zu_s]; exact t2
  · show (zu (zu (zu σ.1 P 2 _) P 3 _) P 5 _ P 5).toInt = _
    rw [zu_s]; exact t3
  · show (zu (zu (zu σ.1 P 2 _) P 3 _) P 5 _ P 10).toInt = 0
    rw [g 10 (by decide) (by decide) (by decide)]; exact h10
  · show (zu (zu (zu σ.1 P 2 _) P 3 _) P 5 _ P 11).toInt = -1
    rw [g 11 (by decide) (by decide) (by decide)]; exact h11
  · show (zu (zu (zu σ.1 P 2 _) P 3 _) P 5 _ P 6).toInt = 0
    rw [g 6 (by decide) (by decide) (by decide)]; exact h6
  · show (zu (zu (zu σ.1 P 2 _) P 3 _) P 5 _ P 7).toInt = 0
    rw [g 7 (by decide) (by decide) (by decide)]; exact h7
  · have h1' : (p : Int) ≤ 0 := h1
    have h2' : p ≠ 0 ∨ (0 : Int) ≠ 0 := h2
    omega
/-- the tokens, out of the class' rows and the reference's names -/
def zTo (kA vA qA : Nat) (σ : zS) (M : Nat → Int64) : zTn := ((fun j => (σ.1 kA j).toInt), (fun j => (σ.2.1 vA j, M j)), (fun j => (σ.2.1 vA j).toInt32.toInt), fun j => (σ.1 qA j).toInt)
theorem vRead0 {p1 w n : Nat} {p2 : Int32} (hd : zVd P tk kA vA qA N) (hk : kA ≠ tk) (hq : qA ≠ tk) (hkq : kA ≠ qA) (hp : p1 ≠ tk ∧ p1 ≠ kA ∧ p1 ≠ qA) (hwv : w ≠ vA) (hn : p2.toInt = n) (hn2 : n ≤ 2000) (hl : zTl tk w kA vA qA σ) (l0 : σ.2.2 P 0 = some tk) (l5 : σ.2.2 tt 1 = some N) (htd : zTd P tk kA qA tt σ.2.2) (hby : ∀ j, -128 ≤ (σ.1 p1 j).toInt ∧ (σ.1 p1 j).toInt ≤ 127) :
    ∃ (m : Nat) (E : Nat → Nat), 0 < m ∧ m ≤ 401 ∧ zTk (σ.1 p1) n (σ.2.1 w) kA vA qA (F_X8_scan tk p1 p2 σ) m E ∧ (m = 401 ∨ 33 ≤ ((F_X8_scan tk p1 p2 σ).1 kA (m - 1)).toInt) ∧ ∀ M : Nat → Int64, zTK (zTo kA vA qA (F_X8_scan tk p1 p2 σ) M) m ∧ (F_X3_parse P p1 p2 tt σ).1.toInt = aAns (aRun (zTo kA vA qA (F_X8_scan tk p1 p2 σ) M) 500 aZ) ∧ ((F_X3_parse P p1 p2 tt σ).2.1 P 9).toInt = aPos (aRun (zTo kA vA qA (F_X8_scan tk p1 p2 σ) M) 500 aZ) := by
  obtain ⟨m, E, z1, z2, z3, z4, z5, z6⟩ := zsc hk hq hkq hp hwv hn hn2 hl hby
  refine ⟨m, E, z2, z3, z4, z5, fun M => ?_⟩
  have g0 : (σ.2.2 P 0).getD 0 = tk := by rw [l0]; rfl
  obtain ⟨τ, hτ⟩ : ∃ t : zS, t = F_X8_scan tk p1 p2 σ := ⟨_, rfl⟩
  rw [← hτ] at z1 z4 z5 z6
  obtain ⟨T, hT⟩ : ∃ t : zTn, t = zTo kA vA qA τ M := ⟨_, rfl⟩
  rw [← hτ, ← hT]
  have hK : zTK T m := by
    refine ⟨z2, z3, fun j h1 h2 h3 => ?_⟩
    by_cases c : j + 1 < m
    · exact c
    · have ej : j = m - 1 := by omega
      rcases z5 with z | z
      · omega
      · rw [hT] at h2
        have h2' : (τ.1 kA j).toInt < 33 := h2
        rw [ej] at h2'
        omega
  refine ⟨hK, ?_⟩
  obtain ⟨⟨d7, d8, d9, d10⟩, d11⟩ := htd
  obtain ⟨d1, d2, d3, d4, d5, d6⟩ := hd
  unfold F_X3_parse
  simp only [zlt, g0, ← hτ, zu_s]
  have gt : (some tt : Option Nat).getD 0 = tt := rfl
  simp only [gt]
  have cf := cClear (tt := tt) (σ := (τ.1, τ.2.1, zu τ.2.2 P 1 (some tt)))
  obtain ⟨C, hC⟩ : ∃ c : zS, c = F_X9_clear tt (τ.1, τ.2.1, zu τ.2.2 P 1 (some tt)) := ⟨_, rfl⟩
  rw [← hC] at cf ⊢
  have r0 : C.2.2 = zu σ.2.2 P 1 (some tt) := by rw [cf.1]; show zu τ.2.2 P 1 (some tt) = _; rw [z6.1]
  have r1 : C.2.1 = τ.2.1 := by rw [cf.1]
  have rt : ∀ j, (zu τ.2.2 P 1 (some tt) tt j) = σ.2.2 tt j := fun j => by rw [zu_n _ _ _ d7, z6.1]
  have fr : ∀ c, c ≠ tt → (∀ j, (j = 2 ∨ j = 3 ∨ j = 4 ∨ j = 5 ∨ j = 6 ∨ j = 7 ∨ j = 9) → (σ.2.2 tt j).getD 0 ≠ c) → C.1 c = τ.1 c := fun c h1 h2 => by
    refine cf.2 c h1 ?_ ?_ ?_
    · show c ≠ (zu τ.2.2 P 1 (some tt) tt 6).getD 0
      rw [rt]; exact fun z => h2 6 (by omega) z.symm
    · show c ≠ (zu τ.2.2 P 1 (some tt) tt 7).getD 0
      rw [rt]; exact fun z => h2 7 (by omega) z.symm
    · show c ≠ (zu τ.2.2 P 1 (some tt) tt 9).getD 0
      rw [rt]; exact fun z => h2 9 (by omega) z.symm
  have ftk := fr tk (fun z => d8 z.symm) (fun j hj => (d11 j hj).2.1)
  have fkA := fr kA (fun z => d9 z.symm) (fun j hj => (d11 j hj).2.2.1)
  have fqA := fr qA (fun z => d10 z.symm) (fun j hj => (d11 j hj).2.2.2)
  obtain ⟨hl0, hl1, hl2, hl3⟩ := hl
  have row : ∀ (X : Nat → Nat → Int32), (∀ c, c ≠ P → X c = C.1 c) → zVs P tk kA vA qA tt N m T (X, C.2.1, C.2.2) := fun X hX => by
    refine ⟨⟨?_, ?_, ?_, ?_, ?_, ?_⟩, ?_, fun j => ?_, ⟨d7, d8, d9, d10⟩, fun j hj => ?_⟩
    · show C.2.2 P 0 = _
      rw [r0, zu_j _ _ _ _ _ (by decide)]; exact l0
    · show C.2.2 P 1 = _
      rw [r0, zu_s]
    · show C.2.2 tk 1 = _
      rw [r0, zu_n _ _ _ d1]; exact hl1
    · show C.2.2 tk 2 = _
      rw [r0, zu_n _ _ _ d1]; exact hl2
    · show C.2.2 tk 3 = _
      rw [r0, zu_n _ _ _ d1]; exact hl3
    · show C.2.2 tt 1 = _
      rw [r0, zu_n _ _ _ d7]; exact l5
    · show (X tk 4).toInt = _
      rw [hX tk d1, ftk]; exact z1
    · show (X kA j).toInt = _ ∧ C.2.1 vA j = _ ∧ (C.2.1 vA j).toInt32.toInt = _ ∧ (X qA j).toInt = _
      rw [hX kA d2, hX qA d3, fkA, fqA, r1, hT]
      exact ⟨rfl, rfl, rfl, rfl⟩
    · show (C.2.2 tt j).getD 0 ≠ P ∧ _
      rw [show (X, C.2.1, C.2.2).2.2 tt j = σ.2.2 tt j by show C.2.2 tt j = _; rw [r0, zu_n _ _ _ d7]]
      exact d11 j hj
  have e0 : (0 : Int32).toInt = 0 := by decide
  have em : (-1 : Int32).toInt = -1 := by decide
  have v0 := vGo0 ⟨d1, d2, d3, d4, d5, d6⟩ (row (zu (zu (zu (zu (zu (zu C.1 P 6 0) P 7 0) P 8 0) P 9 (-1)) P 10 0) P 11 (-1)) (fun c hc => by rw [zu_n _ _ _ hc, zu_n _ _ _ hc, zu_n _ _ _ hc, zu_n _ _ _ hc, zu_n _ _ _ hc, zu_n _ _ _ hc])) z2
    (by show (zu _ P 11 _ P 8 : Int32).toInt = 0; rw [zu_j _ _ _ _ _ (by decide), zu_j _ _ _ _ _ (by decide), zu_j _ _ _ _ _ (by decide), zu_s]; exact e0)
    (by show (zu _ P 11 _ P 10 : Int32).toInt = 0; rw [zu_j _ _ _ _ _ (by decide), zu_s]; exact e0)
    (by show (zu _ P 11 _ P 11 : Int32).toInt = -1; rw [zu_s]; exact em)
    (by show (zu _ P 11 _ P 6 : Int32).toInt = 0; rw [zu_j _ _ _ _ _ (by decide), zu_j _ _ _ _ _ (by decide), zu_j _ _ _ _ _ (by decide), zu_j _ _ _ _ _ (by decide), zu_j _ _ _ _ _ (by decide), zu_s]; exact e0)
    (by show (zu _ P 11 _ P 7 : Int32).toInt = 0; rw [zu_j _ _ _ _ _ (by decide), zu_j _ _ _ _ _ (by decide), zu_j _ _ _ _ _ (by decide), zu_j _ _ _ _ _ (by decide), zu_s]; exact e0)
  exact (vParse ⟨d1, d2, d3, d4, d5, d6⟩ hK 10000 0 0 _ _ (by decide) (by omega) (by omega) v0 (fun _ => Nat.zero_le _) 500 (by omega))
end ZV6
end
-- 35t.pure20
section
/-! THE REFERENCE'S READ -/
noncomputable def zRi (a0 : Nat) (t16 : zS) : zS :=
  zLet ((0 : Int32)) fun v20 =>
  zLet ((zu t16.1 a0 11 v20, t16.2.1, t16.2.2)) fun s21 =>
  zLet ((0 : Int32)) fun v26 =>
  zLet ((zu s21.1 a0 12 v26, s21.2.1, s21.2.2)) fun s27 =>
  zLet ((0 : Int32)) fun v33 =>
  zLet ((zu s27.1 a0 13 v33, s27.2.1, s27.2.2)) fun s35 =>
  zLet ((0 : Int32)) fun v42 =>
  zLet ((zu s35.1 a0 15 v42, s35.2.1, s35.2.2)) fun s43 =>
  zLet ((1 : Int32)) fun v51 =>
  zLet (s43.1 a0 18) fun v52 =>
  zLet (v51 - v52) fun v53 =>
  zLet ((zu s43.1 a0 19 v53, s43.2.1, s43.2.2)) fun s54 =>
  zLet (s54.1 a0 19) fun v64 =>
  zLet (F_X11_plain a0 v64 s54) fun t65 =>
  zLet ((130 : Int32)) fun v75 =>
  zLet (t65.1 a0 19) fun v76 =>
  zLet (v75 * v76) fun v77 =>
  zLet ((zu t65.1 a0 32 v77, t65.2.1, t65.2.2)) fun s78 =>
  zLet ((420 : Int32)) fun v89 =>
  zLet (s78.1 a0 19) fun v90 =>
  zLet (v89 * v90) fun v91 =>
  zLet ((zu s78.1 a0 38 v91, s78.2.1, s78.2.2)) fun s92 =>
  zLet ((0 : Int32)) fun v104 =>
  zLet ((zu s92.1 a0 41 v104, s92.2.1, s92.2.2)) fun s105 =>
  zLet ((0 : Int32)) fun v118 =>
  zLet ((zu s105.1 a0 42 v118, s105.2.1, s105.2.2)) fun s119 =>
  s119

theorem znb (x : Int32) (h : -128 ≤ x.toInt ∧ x.toInt ≤ 127) : vp_nar .byte x = x := by
  show x.toInt8.toInt32 = x
  refine Int32.toInt_inj.mp ?_
  rw [Int8.toInt_toInt32, Int32.toInt_toInt8]
  exact Int.bmod_eq_of_le (by omega) (by omega)
def zPf (a : Nat) (σ σ' : zS) : Prop := σ'.2 = σ.2 ∧ ∀ c, (∀ j, zQs j → (σ.2.2 a j).getD 0 ≠ c) → σ'.1 c = σ.1 c
theorem zPf.tr {a : Nat} {σ σ1 σ2 : zS} (h : zPf a σ σ1) (g : zPf a σ1 σ2) : zPf a σ σ2 := ⟨g.1.trans h.1, fun c hc => by
  have q := g.2 c
  rw [h.1] at q
  exact (q hc).trans (h.2 c hc)⟩
theorem pArr {a : Nat} {σ : zS} (j i : Nat) (v : Int32) (hj : zQs j) : zPf a σ (zu σ.1 ((σ.2.2 a j).getD 0) i v, σ.2.1, σ.2.2) := ⟨rfl, fun c hc => zu_n _ _ _ (fun z => hc j hj z.symm)⟩
theorem pPlain_l {a : Nat} {p : Int32} : ∀ (n : Nat) (x : Int32) (τ : zS), zPf a τ (F_X11_plain_37 a p n x τ) := by
  intro n
  induction n with
  | zero => intro x τ; exact ⟨rfl, fun _ _ => rfl⟩
  | succ n ih =>
    intro x τ
    have q30 : zQs 30 := by unfold zQs; omega
    have q31 : zQs 31 := by unfold zQs; omega
    rw [F_X11_plain_37]
    simp only [zlt]
    split
    · exact ((pArr 30 _ _ q30).tr (pArr 31 _ _ q31)).tr (ih _ _)
    · exact ⟨rfl, fun _ _ => rfl⟩
theorem pPlain {a : Nat} {p : Int32} {σ : zS} : zPf a σ (F_X11_plain a p σ) := by
  have q21 : zQs 21 := by unfold zQs; omega
  have q26 : zQs 26 := by unfold zQs; omega
  have q27 : zQs 27 := by unfold zQs; omega
  have q28 : zQs 28 := by unfold zQs; omega
  have q29 : zQs 29 := by unfold zQs; omega
  unfold F_X11_plain
  simp only [zlt]
  exact (((((pArr 21 _ _ q21).tr (pArr 26 _ _ q26)).tr (pArr 27 _ _ q27)).tr (pArr 28 _ _ q28)).tr (pArr 29 _ _ q29)).tr (pPlain_l _ _ _)
theorem zRi_f {a k q v : Nat} {t : zS} (hk : k ≠ a) (hq : q ≠ a) (hv : v ≠ a) (hs : ∀ j, zQs j → (t.2.2 a j).getD 0 ≠ a ∧ (t.2.2 a j).getD 0 ≠ k ∧ (t.2.2 a j).getD 0 ≠ q ∧ (t.2.2 a j).getD 0 ≠ v) :
    (zRi a t).2 = t.2 ∧ (zRi a t).1 k = t.1 k ∧ (zRi a t).1 q = t.1 q ∧ (zRi a t).1 v = t.1 v ∧ ∀ j, (j = 11 ∨ j = 12 ∨ j = 13 ∨ j = 15 ∨ j = 41 ∨ j = 42) → ((zRi a t).1 a j).toInt = 0 := by
  have e0 : (0 : Int32).toInt = 0 := by decide
  unfold zRi
  simp only [zlt]
  generalize hp : (1 : Int32) - _ = p
  generalize hp2 : zu (zu (zu (zu (zu t.1 a 11 0) a 12 0) a 13 0) a 15 0) a 19 p a 19 = p2
  generalize hX : F_X11_plain a p2 (zu (zu (zu (zu (zu t.1 a 11 0) a 12 0) a 13 0) a 15 0) a 19 p, t.2.1, t.2.2) = C
  have f := pPlain (a := a) (p := p2) (σ := (zu (zu (zu (zu (zu t.1 a 11 0) a 12 0) a 13 0) a 15 0) a 19 p, t.2.1, t.2.2))
  rw [hX] at f
  have fa := f.2 a (fun j hj => (hs j hj).1)
  have fk := f.2 k (fun j hj => (hs j hj).2.1)
  have fq := f.2 q (fun j hj => (hs j hj).2.2.1)
  have fv := f.2 v (fun j hj => (hs j hj).2.2.2)
  have n5 : ∀ c, c ≠ a → (zu (zu (zu (zu (zu t.1 a 11 0) a 12 0) a 13 0) a 15 0) a 19 p, t.2.1, t.2.2).1 c = t.1 c := fun c hc => by
    show zu (zu (zu (zu (zu t.1 a 11 0) a 12 0) a 13 0) a 15 0) a 19 p c = _
    rw [zu_n _ _ _ hc, zu_n _ _ _ hc, zu_n _ _ _ hc, zu_n _ _ _ hc, zu_n _ _ _ hc]
  refine ⟨f.1, ?_, ?_, ?_, fun j hj => ?_⟩
  · rw [zu_n _ _ _ hk, zu_n _ _ _ hk, zu_n _ _ _ hk, zu_n _ _ _ hk, fk]; exact n5 k hk
  · rw [zu_n _ _ _ hq, zu_n _ _ _ hq, zu_n _ _ _ hq, zu_n _ _ _ hq, fq]; exact n5 q hq
  · rw [zu_n _ _ _ hv, zu_n _ _ _ hv, zu_n _ _ _ hv, zu_n _ _ _ hv, fv]; exact n5 v hv
  · have fj : ∀ j, C.1 a j = zu (zu (zu (zu (zu t.1 a 11 0) a 12 0) a 13 0) a 15 0) a 19 p a j := fun j => by rw [fa]
    have out : ∀ j, j ≠ 32 → j ≠ 38 → j ≠ 41 → j ≠ 42 → ∀ x y, zu (zu (zu (zu C.1 a 32 x) a 38 y) a 41 0) a 42 0 a j = C.1 a j := fun j h1 h2 h3 h4 x y => by rw [zu_j _ _ _ _ _ (fun z => h4 z.symm), zu_j _ _ _ _ _ (fun z => h3 z.symm), zu_j _ _ _ _ _ (fun z => h2 z.symm), zu_j _ _ _ _ _ (fun z => h1 z.symm)]
    rcases hj with z | z | z | z | z | z <;> subst z
    · rw [out 11 (by decide) (by decide) (by decide) (by decide), fj, zu_j _ _ _ _ _ (by decide), zu_j _ _ _ _ _ (by decide), zu_j _ _ _ _ _ (by decide), zu_j _ _ _ _ _ (by decide), zu_s]; exact e0
    · rw [out 12 (by decide) (by decide) (by decide) (by decide), fj, zu_j _ _ _ _ _ (by decide), zu_j _ _ _ _ _ (by decide), zu_j _ _ _ _ _ (by decide), zu_s]; exact e0
    · rw [out 13 (by decide) (by decide) (by decide) (by decide), fj, zu_j _ _ _ _ _ (by decide), zu_j _ _ _ _ _ (by decide), zu_s]; exact e0
    · rw [out 15 (by decide) (by decide) (by decide) (by decide), fj, zu_j _ _ _ _ _ (by decide), zu_s]; exact e0
    · rw [zu_j _ _ _ _ _ (by decide), zu_s]; exact e0
    · rw [zu_s]; exact e0
theorem rcopy {a x bt n : Nat} (hxa : x ≠ a) (hbx : bt ≠ x) (hn2 : n ≤ 2000) : ∀ (fu : Nat) (x7 : Int32) (j : Nat) (τ : zS), x7.toInt = j → j ≤ n → n - j < fu → τ.2.2 a 3 = some x → τ.2.2 a 1 = some bt → (τ.1 a 4).toInt = n → (∀ i, -128 ≤ (τ.1 bt i).toInt ∧ (τ.1 bt i).toInt ≤ 127) →
    ∃ (f : Nat) (y : Int32) (τ' : zS), F_X11_read_10 a fu x7 τ = F_X11_read_117 y a (F_X11_read_10 a f) 10000 (zRi a (F_X11_cut a (zu τ'.1 a 2 0, τ'.2.1, τ'.2.2))) ∧ τ'.2 = τ.2 ∧ (∀ b, b ≠ x → τ'.1 b = τ.1 b) ∧ (∀ i, i < j → τ'.1 x i = τ.1 x i) ∧ (∀ i, j ≤ i → i < n → τ'.1 x i = τ.1 bt i) ∧ ∀ i, n ≤ i → τ'.1 x i = τ.1 x i := by
  intro fu
  induction fu with
  | zero => intro x7 j τ _ _ h; exact absurd h (by omega)
  | succ fu ih =>
    intro x7 j τ hx hj hm r3 r1 h4 hb
    by_cases c : j < n
    · have g3 : (τ.2.2 a 3).getD 0 = x := by rw [r3]; rfl
      have g1 : (τ.2.2 a 1).getD 0 = bt := by rw [r1]; rfl
      have ej : x7.toNatClampNeg = j := by rw [ztn, hx]; rfl
      obtain ⟨f, y, τ', u1, u2, u3, u4, u5, u6⟩ := ih (x7 + (1 : Int32)) (j + 1) (zu τ.1 x j (τ.1 bt j), τ.2.1, τ.2.2) (zp1 hx (by omega)) (by omega) (by omega) r3 r1 (by show (zu τ.1 x j _ a 4).toInt = _; rw [zu_n _ _ _ (fun z => hxa z.symm)]; exact h4) (fun i => by show -128 ≤ (zu τ.1 x j _ bt i).toInt ∧ (zu τ.1 x j _ bt i).toInt ≤ 127; rw [zu_n _ _ _ hbx]; exact hb i)
      refine ⟨f, y, τ', ?_, u2, fun b h => (u3 b h).trans (zu_n _ _ _ h), fun i hi => (u4 i (by omega)).trans (zu_j _ _ _ _ _ (by omega)), fun i h1 h2 => ?_, fun i hi => (u6 i hi).trans (zu_j _ _ _ _ _ (by omega))⟩
      · rw [F_X11_read_10]
        simp only [zlt, g3, g1, ej]
        rw [if_pos (by omega), znb _ (hb j)]
        exact u1
      · by_cases e : i = j
        · subst e
          exact (u4 i (by omega)).trans (zu_s _ _ _ _)
        · refine (u5 i (by omega) h2).trans ?_
          show zu τ.1 x j _ bt i = _
          rw [zu_n _ _ _ hbx]
    · refine ⟨fu, x7, τ, ?_, rfl, fun _ _ => rfl, fun _ _ => rfl, fun i h1 h2 => absurd h2 (by omega), fun _ _ => rfl⟩
      rw [F_X11_read_10]
      unfold zRi
      simp only [zlt]
      rw [if_neg (by omega)]
end
-- 35u.pure21
section
section CG
variable {b b' : Nat → Int32} {n a : Nat}
theorem zRun_cg {p : Int → Prop} {e : Nat} (hb : ∀ j, j < n → b j = b' j) (h : zRun p b n a e) : zRun p b' n a e := by
  refine ⟨h.1, fun j h2 h3 => ?_, fun z => h.2.2 ⟨z.1, by rw [hb _ z.1]; exact z.2⟩⟩
  have q := h.2.1 j h2 h3
  exact ⟨q.1, by rw [← hb j q.1]; exact q.2⟩
theorem zwd_cg (hb : ∀ j, j < n → b j = b' j) : ∀ k, (∀ j, j < k → a + j < n) → zwd b a k = zwd b' a k
  | 0, _ => rfl
  | k + 1, h => by rw [zwd, zwd, zwd_cg hb k (fun j hj => h j (by omega)), hb _ (h k (by omega))]
theorem zdv_cg (hb : ∀ j, j < n → b j = b' j) : ∀ k, (∀ j, j < k → a + j < n) → zdv b a k = zdv b' a k
  | 0, _ => rfl
  | k + 1, h => by rw [zdv, zdv, zdv_cg hb k (fun j hj => h j (by omega)), hb _ (h k (by omega))]
theorem zRT_cg {Y : Nat → Int64} {K Q V : Int} {M : Int64} {e : Nat} (hb : ∀ j, j < n → b j = b' j) (h : zRT b n Y a K Q V M e) : zRT b' n Y a K Q V M e := by
  obtain ⟨s, h1, h2, h3, h4⟩ := h
  refine ⟨s, zRun_cg hb h1, h2, h3, ?_⟩
  rcases h4 with h4 | ⟨l, g1, g2, g3⟩ | ⟨l, g1, g2, g3⟩ | ⟨l, g1, g2, g3, g4⟩
  · exact Or.inl h4
  · refine Or.inr (Or.inl ⟨l, by rw [← hb s l]; exact g1, zRun_cg hb g2, ?_⟩)
    rcases g3 with g3 | ⟨g3, g4, g5⟩
    · exact Or.inl g3
    · exact Or.inr ⟨g3, by rw [← zwd_cg hb _ (fun j hj => (g2.2.1 (s + j) (by omega) (by omega)).1)]; exact g4, g5⟩
  · refine Or.inr (Or.inr (Or.inl ⟨l, by rw [← hb s l]; exact g1, zRun_cg hb g2, ?_⟩))
    rcases g3 with g3 | ⟨g3, g4, g5⟩
    · exact Or.inl g3
    · exact Or.inr ⟨g3, g4, by rw [← zdv_cg hb _ (fun j hj => (g2.2.1 (s + j) (by omega) (by omega)).1)]; exact g5⟩
  · exact Or.inr (Or.inr (Or.inr ⟨l, by rw [← hb s l]; exact g1, by rw [← hb s l]; exact g2, g3, by rw [← hb s l]; exact g4⟩))
theorem zRq_cg {Y : Nat → Int64} {k q v nm m : Nat} {σ : zS} {E : Nat → Nat} (hb : ∀ j, j < n → b j = b' j) (h : zRq b n Y k q v nm σ m E) : zRq b' n Y k q v nm σ m E := ⟨h.1, fun j hj => zRT_cg hb (h.2.1 j hj), h.2.2⟩
end CG
theorem wRead0 {a x bt ky k q v nm nO n : Nat} {τ : zS} (hd : zRd a k q v nm) (hx : x ≠ a ∧ x ≠ k ∧ x ≠ q ∧ x ≠ v) (hbx : bt ≠ x) (hba : bt ≠ a) (hyn : ky ≠ nm) (hno : nm ≠ nO) (hl : zRl a k q v nm ky τ) (r3 : τ.2.2 a 3 = some x) (r1 : τ.2.2 a 1 = some bt) (r20 : τ.2.2 a 20 = some nO) (hn : (τ.1 a 2).toInt = n) (hn2 : n ≤ 2000) (hxb : ∀ j, -128 ≤ (τ.1 x j).toInt ∧ (τ.1 x j).toInt ≤ 127) (hb : ∀ j, -128 ≤ (τ.1 bt j).toInt ∧ (τ.1 bt j).toInt ≤ 127) (hs : ∀ j, zQs j → (τ.2.2 a j).getD 0 ≠ a ∧ (τ.2.2 a j).getD 0 ≠ k ∧ (τ.2.2 a j).getD 0 ≠ q ∧ (τ.2.2 a j).getD 0 ≠ v) :
    ∃ (τc : zS) (m' : Nat) (E' : Nat → Nat), m' ≤ 401 ∧ zRq (τ.1 bt) n (τ.2.1 ky) k q v nm τc m' E' ∧ (m' = 401 ∨ (0 < m' ∧ (τc.1 k (m' - 1)).toInt = 0)) ∧ ∀ (T : zTn) (m : Nat), zTm T m → zTK T m → (∀ j, j < m → (τc.1 k j).toInt = zrho (T.1 j) ∧ (τc.1 q j).toInt = T.2.2.2 j ∧ (T.1 j = 23 → (τc.1 v j).toInt = T.2.2.1 j) ∧ τc.2.1 nm j = (T.2.1 j).2) → (F_X11_read a τ).1.toInt = aAns (aRun T 500 aZ) ∧ ((F_X11_read a τ).2.1 a 17).toInt = aPos (aRun T 500 aZ) := by
  obtain ⟨f, y, τ', u1, u2, u3, u4, u5, u6⟩ := rcopy (a := a) hx.1 hbx hn2 10000 0 0 (zu τ.1 a 4 (τ.1 a 2), τ.2.1, τ.2.2) (by decide) (by omega) (by omega) r3 r1 (by show (zu τ.1 a 4 _ a 4).toInt = _; rw [zu_s]; exact hn) (fun i => by show -128 ≤ (zu τ.1 a 4 _ bt i).toInt ∧ (zu τ.1 a 4 _ bt i).toInt ≤ 127; rw [zu_n _ _ _ hba]; exact hb i)
  have w1 : τ'.2.1 = τ.2.1 := by rw [u2]
  have w2 : τ'.2.2 = τ.2.2 := by rw [u2]
  have tb : ∀ i, i < n → τ'.1 x i = τ.1 bt i := fun i hi => by
    rw [u5 i (Nat.zero_le _) hi]
    show zu τ.1 a 4 _ bt i = _
    rw [zu_n _ _ _ hba]
  have tx : ∀ i, n ≤ i → τ'.1 x i = τ.1 x i := fun i hi => by
    rw [u6 i hi]
    show zu τ.1 a 4 _ x i = _
    rw [zu_n _ _ _ hx.1]
  obtain ⟨N, hN, eN⟩ : ∃ N : Nat, 1700000 < N ∧ F_X11_cut a (zu τ'.1 a 2 0, τ'.2.1, τ'.2.2) = F_X11_cut_7 a N 0 (zu (zu τ'.1 a 2 0) a 10 0, τ'.2.1, τ'.2.2) := by
    unfold F_X11_cut
    simp only [zlt]
    exact ⟨2000000, by omega, rfl⟩
  have x3 : ∀ j, zu (zu τ'.1 a 2 (0 : Int32)) a 10 (0 : Int32) x j = τ'.1 x j := fun j => by rw [zu_n _ _ _ hx.1, zu_n _ _ _ hx.1]
  obtain ⟨m', E', z1, z2, z3, z4, z5⟩ := rc_loop hd hx hyn N 0 (zu (zu τ'.1 a 2 0) a 10 0, τ'.2.1, τ'.2.2) 0 0 0 (fun _ => 0) (n := n)
    (by
      refine ⟨by show τ'.2.2 a 3 = _; rw [w2]; exact r3, ?_, hn2, fun j => ?_⟩
      · show (zu (zu τ'.1 a 2 (0 : Int32)) a 10 (0 : Int32) a 4).toInt = _
        rw [zu_j _ _ _ _ _ (by decide), zu_j _ _ _ _ _ (by decide), u3 a (fun z => hx.1 z.symm)]
        show (zu τ.1 a 4 _ a 4).toInt = _
        rw [zu_s]; exact hn
      · show -128 ≤ (zu (zu τ'.1 a 2 (0 : Int32)) a 10 (0 : Int32) x j).toInt ∧ (zu (zu τ'.1 a 2 (0 : Int32)) a 10 (0 : Int32) x j).toInt ≤ 127
        rw [x3]
        by_cases c : j < n
        · rw [tb j c]; exact hb j
        · rw [tx j (by omega)]; exact hxb j)
    (by unfold zRl; show τ'.2.2 a 5 = _ ∧ τ'.2.2 a 6 = _ ∧ τ'.2.2 a 7 = _ ∧ τ'.2.2 a 8 = _ ∧ τ'.2.2 a 9 = _; rw [w2]; exact hl)
    (by show (zu (zu τ'.1 a 2 (0 : Int32)) a 10 (0 : Int32) a 10).toInt = _; rw [zu_s]; decide)
    (by omega) (by decide) (Nat.le_refl _) (Nat.zero_le _) rfl (fun j _ h => absurd h (by omega)) ⟨rfl, fun j hj => absurd hj (by omega), fun j hj => absurd hj (by omega)⟩ (fun z => absurd rfl z) (by omega)
  obtain ⟨C, hC⟩ : ∃ c : zS, c = F_X11_cut_7 a N 0 (zu (zu τ'.1 a 2 0) a 10 0, τ'.2.1, τ'.2.2) := ⟨_, rfl⟩
  rw [← hC] at z1 z3 z4 z5 eN
  have z3' : zRq (τ.1 bt) n (τ.2.1 ky) k q v nm C m' E' := by
    have z3b : zRq (fun j => zu (zu τ'.1 a 2 (0 : Int32)) a 10 (0 : Int32) x j) n (τ'.2.1 ky) k q v nm C m' E' := z3
    rw [w1] at z3b
    exact zRq_cg (fun j hj => by show zu (zu τ'.1 a 2 (0 : Int32)) a 10 (0 : Int32) x j = _; rw [x3, tb j hj]) z3b
  refine ⟨C, m', E', z2, z3', z4, fun T m hT hK ht => ?_⟩
  obtain ⟨e5, e6, e7, e8, e9⟩ := hl
  obtain ⟨dk, dq, dv, -, -, -⟩ := hd
  have c2 : C.2.2 = τ.2.2 := by rw [z5.1]; exact w2
  obtain ⟨i1, i2, i3, i4, i5⟩ := zRi_f (t := C) dk dq dv (by rw [c2]; exact hs)
  have j2 : (zRi a C).2.2 = τ.2.2 := by rw [i1]; exact c2
  have j1 : (zRi a C).2.1 = C.2.1 := by rw [i1]
  have base : zXo a k q v nm nO m T (zRi a C) aZ := by
    refine ⟨⟨⟨⟨?_, ?_, ?_, ?_, ?_⟩, fun j hj => ?_, fun j hj => ?_⟩, i5 13 (by omega), Int.le_refl _, fun z => absurd rfl z, fun _ => ⟨hK.1, i5 11 (by omega), i5 15 (by omega), Int.le_refl _, fun z => absurd rfl z, i5 41 (by omega), i5 42 (by omega), ⟨Int.le_refl _, (by decide : (0 : Int) ≤ 11)⟩, fun p h1 h2 => ?_⟩⟩, fun _ => i5 12 (by omega)⟩
    · rw [j2]; exact e5
    · rw [j2]; exact e6
    · rw [j2]; exact e7
    · rw [j2]; exact e8
    · rw [j2]; exact r20
    · rw [i2, i3, i4, j1]
      exact ht j hj
    · rw [j2]; exact hs j hj
    · have h1' : (p : Int) ≤ 0 := h1
      have h2' : p ≠ 0 ∨ (0 : Int) ≠ 0 := h2
      omega
  unfold F_X11_read
  simp only [zlt]
  rw [u1, eN]
  exact xRun ⟨dk, dq, dv, hno⟩ hT hK _ 10000 _ aZ base (fun _ => rfl) (fun _ => by omega) (by omega) 500 (fun _ => by omega) (by omega)
/-- both sides read alike -/
theorem zReadEq {P tk kA vA qA tt N p1 w n : Nat} {p2 : Int32} {a x bt ky k q v nm nO : Nat} {σ τ : zS}
    (hd : zVd P tk kA vA qA N) (hk : kA ≠ tk) (hq : qA ≠ tk) (hkq : kA ≠ qA) (hp : p1 ≠ tk ∧ p1 ≠ kA ∧ p1 ≠ qA) (hwv : w ≠ vA) (hn : p2.toInt = n) (hn2 : n ≤ 2000) (hl : zTl tk w kA vA qA σ) (l0 : σ.2.2 P 0 = some tk) (l5 : σ.2.2 tt 1 = some N) (htd : zTd P tk kA qA tt σ.2.2) (hby : ∀ j, -128 ≤ (σ.1 p1 j).toInt ∧ (σ.1 p1 j).toInt ≤ 127)
    (hd' : zRd a k q v nm) (hx : x ≠ a ∧ x ≠ k ∧ x ≠ q ∧ x ≠ v) (hbx : bt ≠ x) (hba : bt ≠ a) (hyn : ky ≠ nm) (hno : nm ≠ nO) (hl' : zRl a k q v nm ky τ) (r3 : τ.2.2 a 3 = some x) (r1 : τ.2.2 a 1 = some bt) (r20 : τ.2.2 a 20 = some nO) (hn' : (τ.1 a 2).toInt = n) (hxb : ∀ j, -128 ≤ (τ.1 x j).toInt ∧ (τ.1 x j).toInt ≤ 127) (hb : ∀ j, -128 ≤ (τ.1 bt j).toInt ∧ (τ.1 bt j).toInt ≤ 127) (hs : ∀ j, zQs j → (τ.2.2 a j).getD 0 ≠ a ∧ (τ.2.2 a j).getD 0 ≠ k ∧ (τ.2.2 a j).getD 0 ≠ q ∧ (τ.2.2 a j).getD 0 ≠ v)
    (hW : ∀ i, i < 22 → σ.2.1 w i = zw32 i) (hY : ∀ i, i < 22 → τ.2.1 ky i = zw27 i) (hB : ∀ j, j < n → σ.1 p1 j = τ.1 bt j) :
    (F_X3_parse P p1 p2 tt σ).1.toInt = (F_X11_read a τ).1.toInt ∧ ((F_X3_parse P p1 p2 tt σ).2.1 P 9).toInt = ((F_X11_read a τ).2.1 a 17).toInt := by
  obtain ⟨m, E, c1, c2, c3, c4, c5⟩ := vRead0 hd hk hq hkq hp hwv hn hn2 hl l0 l5 htd hby
  obtain ⟨τc, m', E', d1, d2, d3, d4⟩ := wRead0 hd' hx hbx hba hyn hno hl' r3 r1 r20 hn' hn2 hxb hb hs
  have d2' := zRq_cg (b' := σ.1 p1) (fun j hj => (hB j hj).symm) d2
  have z := zall hW hY c3 d2' c2 d3 c1 (by rcases d3 with y | y <;> omega)
  obtain ⟨hK, e, e9⟩ := c5 (fun j => τc.2.1 nm j)
  have hTm : zTm (zTo kA vA qA (F_X8_scan tk p1 p2 σ) (fun j => τc.2.1 nm j)) m := by
    refine ⟨fun j hj => zmono c3 j hj, fun j hj => ?_, fun j hj h22 => ?_⟩
    · obtain ⟨-, -, -, -, t1, t2, -, -⟩ := z j hj
      exact ⟨t1, t2⟩
    · obtain ⟨-, -, -, -, t1, t2, t3, -⟩ := z j hj
      exact t3 h22
  have d5 := d4 _ m hTm hK (fun j hj => by
    obtain ⟨-, -, t1, t2, -, -, -, t4⟩ := z j hj
    exact ⟨t2, t1.symm, fun y => (t4 y).symm, rfl⟩)
  exact ⟨e.trans d5.1.symm, e9.trans d5.2.symm⟩
end
-- 35v.pure22
section
/-! BOTH WORLDS ALIKE: the tape's bytes below κ, the words -/
def zSAM (κ : Int) (L1 : List Nat) (kd1 : Nat → Nat) (L2 : List Nat) (kd2 : Nat → Nat) (σ1 σ2 : zS) : Prop :=
  (∀ t b, zT L1 kd1 t 7 → zT L2 kd2 b 101 → ∃ y, σ1.2.2 t 0 = some y ∧ zT L1 kd1 y 39 ∧ ∀ j : Nat, (j : Int) < κ → σ1.1 y j = σ2.1 b j) ∧ (∀ a, zT L1 kd1 a 40 → ∀ j, j < 22 → σ1.2.1 a j = zw32 j) ∧ (∀ b, zT L2 kd2 b 109 → ∀ j, j < 22 → σ2.2.1 b j = zw27 j)
theorem zNe {L : List Nat} {kd : Nat → Nat} {a b ka kb : Nat} (ha : zT L kd a ka) (hb : zT L kd b kb) (h : ka ≠ kb) : a ≠ b := fun e => h (ha.2.symm.trans ((congrArg kd e).trans hb.2))
def zB4 (w : Int32) (n : Nat) (f : Nat → Int32) : Nat → Int32 := fun j => if j = n then zby w 24 else if j = n + 1 then zby w (24 + (-8) : Int32) else if j = n + 2 then zby w (24 + (-8) + (-8) : Int32) else if j = n + 3 then zby w (24 + (-8) + (-8) + (-8) : Int32) else f j
theorem zB4_s {w : Int32} {n : Nat} {f g : Nat → Int32} (h : ∀ j, j < n → f j = g j) : ∀ j, j < n + 4 → zB4 w n f j = zB4 w n g j := fun j hj => by
  unfold zB4
  by_cases c0 : j = n
  · rw [if_pos c0, if_pos c0]
  rw [if_neg c0, if_neg c0]
  by_cases c1 : j = n + 1
  · rw [if_pos c1, if_pos c1]
  rw [if_neg c1, if_neg c1]
  by_cases c2 : j = n + 2
  · rw [if_pos c2, if_pos c2]
  rw [if_neg c2, if_neg c2]
  by_cases c3 : j = n + 3
  · rw [if_pos c3, if_pos c3]
  rw [if_neg c3, if_neg c3]
  exact h j (by omega)
theorem zbp4 {t b fB fS n : Nat} {v0 v1 v2 v3 : Int32} {σ : zS} (h : zTp t b fB fS n σ) (h2 : n ≤ 1996) : zTp t b fB fS (n + 4) (zbp t fB fS v3 (zbp t fB fS v2 (zbp t fB fS v1 (zbp t fB fS v0 σ)))) ∧ (zbp t fB fS v3 (zbp t fB fS v2 (zbp t fB fS v1 (zbp t fB fS v0 σ)))).2 = σ.2 ∧ ∀ j, (zbp t fB fS v3 (zbp t fB fS v2 (zbp t fB fS v1 (zbp t fB fS v0 σ)))).1 b j = if j = n then v0 else if j = n + 1 then v1 else if j = n + 2 then v2 else if j = n + 3 then v3 else σ.1 b j := by
  obtain ⟨a1, b1, c1⟩ := zbp_s (v := v0) h (by omega)
  obtain ⟨a2, b2, c2⟩ := zbp_s (v := v1) a1 (by omega)
  obtain ⟨a3, b3, c3⟩ := zbp_s (v := v2) a2 (by omega)
  obtain ⟨a4, b4, c4⟩ := zbp_s (v := v3) a3 (by omega)
  refine ⟨a4, rfl, fun j => ?_⟩
  by_cases d0 : j = n
  · rw [if_pos d0, d0, c4 n (by omega), c3 n (by omega), c2 n (by omega), b1]
  rw [if_neg d0]
  by_cases d1 : j = n + 1
  · rw [if_pos d1, d1, c4 _ (by omega), c3 _ (by omega), b2]
  rw [if_neg d1]
  by_cases d2 : j = n + 2
  · rw [if_pos d2, d2, c4 _ (by omega)]
    exact b3
  rw [if_neg d2]
  by_cases d3 : j = n + 3
  · rw [if_pos d3, d3]
    exact b4
  rw [if_neg d3, c4 _ (by omega), c3 _ (by omega), c2 _ (by omega), c1 _ (by omega)]
theorem zap4 {t b n : Nat} (w : Int32) {σ : zS} (h : zTp t b 0 1 n σ) (h2 : n ≤ 1996) : ∃ σ' : zS, F_X7_append t w σ = σ' ∧ zTp t b 0 1 (n + 4) σ' ∧ σ'.2 = σ.2 ∧ ∀ j, σ'.1 b j = zB4 w n (σ.1 b) j := by
  obtain ⟨a1, a2, a3⟩ := zbp4 (v0 := zby w 24) (v1 := zby w (24 + (-8) : Int32)) (v2 := zby w (24 + (-8) + (-8) : Int32)) (v3 := zby w (24 + (-8) + (-8) + (-8) : Int32)) h h2
  exact ⟨_, zapp h h2, a1, a2, a3⟩
theorem zpt4 {t b n : Nat} (w : Int32) {σ : zS} (h : zTp t b 1 2 n σ) (h2 : n ≤ 1996) : ∃ σ' : zS, F_X11_put t w σ = σ' ∧ zTp t b 1 2 (n + 4) σ' ∧ σ'.2 = σ.2 ∧ ∀ j, σ'.1 b j = zB4 w n (σ.1 b) j := by
  obtain ⟨a1, a2, a3⟩ := zbp4 (v0 := zbz w 24) (v1 := zbz w (24 + (-8) : Int32)) (v2 := zbz w (24 + (-8) + (-8) : Int32)) (v3 := zbz w (24 + (-8) + (-8) + (-8) : Int32)) h h2
  obtain ⟨s1, s2, s3, s4⟩ := zsh w
  refine ⟨_, zput h h2, a1, a2, fun j => ?_⟩
  rw [a3]
  unfold zB4
  rw [s1, s2, s3, s4]
section ZSAM
variable {κ k : Int} {L1 : List Nat} {kd1 : Nat → Nat} {L2 : List Nat} {kd2 : Nat → Nat} {σ1 σ2 τ1 τ2 : zS} {Wk Wr Wf Wa : List Nat} {m0 x0 : Nat}
theorem zSAM.le (h0 : k ≤ κ) (h : zSAM κ L1 kd1 L2 kd2 σ1 σ2) : zSAM k L1 kd1 L2 kd2 σ1 σ2 := ⟨fun t b ht hb => by
  obtain ⟨y, h1, h2, h3⟩ := h.1 t b ht hb
  exact ⟨y, h1, h2, fun j hj => h3 j (Int.lt_of_lt_of_le hj h0)⟩, h.2⟩
theorem zSAM.c (h : zSAM κ L1 kd1 L2 kd2 σ1 σ2) (g : zSm Wk Wr L1 kd1 σ1 τ1) (h1 : Wk.contains 39 = false) (h2 : Wk.contains 40 = false) (h3 : Wr.contains 7 = false := by decide) : zSAM κ L1 kd1 L2 kd2 τ1 σ2 := by
  have n1 : 39 ∉ Wk := fun q => by simp [q] at h1
  have n2 : 40 ∉ Wk := fun q => by simp [q] at h2
  have n3 : 7 ∉ Wr := fun q => by simp [q] at h3
  refine ⟨fun t b ht hb => ?_, fun a ha j hj => ?_, h.2.2⟩
  · obtain ⟨y, u1, u2, u3⟩ := h.1 t b ht hb
    refine ⟨y, ?_, u2, fun j hj => ?_⟩
    · rw [(g t ht.1).2 (by rw [ht.2]; exact n3)]
      exact u1
    · rw [((g y u2.1).1 (by rw [u2.2]; exact n1)).1]
      exact u3 j hj
  · rw [((g a ha.1).1 (by rw [ha.2]; exact n2)).2]
    exact h.2.1 a ha j hj
theorem zSAM.m (h : zSAM κ L1 kd1 L2 kd2 σ1 σ2) (g : zSame m0 Wf Wa L2 kd2 σ2 τ2) (h1 : Wa.contains 101 = false) (h2 : Wa.contains 109 = false) : zSAM κ L1 kd1 L2 kd2 σ1 τ2 := by
  have n1 : 101 ∉ Wa := fun q => by simp [q] at h1
  have n2 : 109 ∉ Wa := fun q => by simp [q] at h2
  refine ⟨fun t b ht hb => ?_, h.2.1, fun b hb j hj => ?_⟩
  · obtain ⟨y, u1, u2, u3⟩ := h.1 t b ht hb
    refine ⟨y, u1, u2, fun j hj => ?_⟩
    rw [(g.1 b hb.1 (by rw [hb.2]; decide) (by rw [hb.2]; exact n1)).1]
    exact u3 j hj
  · rw [(g.1 b hb.1 (by rw [hb.2]; decide) (by rw [hb.2]; exact n2)).2]
    exact h.2.2 b hb j hj
theorem zSAM.feed {v1 v2 p1 p2 p3 p4 p5 : Int32} (h : zSAM κ L1 kd1 L2 kd2 σ1 σ2) (hI1 : zI κ 0 L1 kd1 σ1) (hI2 : zJ κ L2 kd2 σ2) (hx0 : zT L1 kd1 x0 10) (hm0 : zT L2 kd2 m0 11) (f1 : (v1, τ1) = F_X10_feed x0 p1 p2 p3 p4 p5 σ1) (f2 : (v2, τ2) = F_X11_feed m0 p1 p2 p3 p4 p5 σ2) (g1 : zSm [7, 39] [] L1 kd1 σ1 τ1) (g2 : zSame m0 [2] [101] L2 kd2 σ2 τ2) (hk : (k = κ ∧ 2000 < κ + 20) ∨ (k = κ + 20 ∧ κ + 20 ≤ 2000)) : zSAM k L1 kd1 L2 kd2 τ1 τ2 := by
  obtain ⟨t, t1, t2⟩ := zi_ref (j := 0) (k2 := 7) hI1 hx0 (by rfl)
  obtain ⟨bt, b1, b2⟩ := zj_ref (j := 1) (k2 := 101) hI2 hm0 (by rfl)
  obtain ⟨y, u1, u2, u3⟩ := h.1 t bt t2 b2
  have rt := zi_get (j := 1) hI1 t2 (lo := κ) (hi := κ) (by rfl)
  have rm := zj_get (j := 2) hI2 hm0 (lo := κ) (hi := κ) (by rfl)
  have hκ := hI1.2.2.1
  obtain ⟨n, hn⟩ : ∃ n : Nat, (n : Int) = κ := ⟨κ.toNat, by omega⟩
  have gt : (σ1.2.2 x0 0).getD 0 = t := by rw [t1]; rfl
  have e20 : (20 : Int32).toInt = 20 := by decide
  have e2000 : (2000 : Int32).toInt = 2000 := by decide
  have ec : (σ1.1 t 1 + (20 : Int32)).toInt = κ + 20 := by rw [zb_add (by rw [e20]; omega) (by rw [e20]; omega), e20]; omega
  have em : (σ2.1 m0 2 + (20 : Int32)).toInt = κ + 20 := by rw [zb_add (by rw [e20]; omega) (by rw [e20]; omega), e20]; omega
  refine ⟨fun t' b' ht' hb' => ?_, fun a ha j hj => ?_, fun b hb j hj => ?_⟩
  · have et : t' = t := hI1.2.2.2.1 t' ht'.1 t t2.1 (ht'.2.trans t2.2.symm) (Or.inr (Or.inr ht'.2))
    have eb : b' = bt := hI2.2.2.2.1 b' hb'.1 bt b2.1 (hb'.2.trans b2.2.symm)
    subst et eb
    unfold F_X10_feed at f1
    unfold F_X11_feed at f2
    simp only [zlt, gt, ec, e2000] at f1
    simp only [zlt, em, e2000] at f2
    rcases hk with ⟨k1, k2⟩ | ⟨k1, k2⟩
    · rw [if_pos k2] at f1 f2
      have q1 : τ1 = σ1 := congrArg Prod.snd f1
      have q2 : τ2 = σ2 := congrArg Prod.snd f2
      rw [q1, q2, k1]
      exact ⟨y, u1, u2, u3⟩
    · rw [if_neg (by omega)] at f1 f2
      have T0 : zTp t' y 0 1 n σ1 := ⟨u1, zNe u2 ht' (by decide), by omega⟩
      have M0 : zTp m0 b' 1 2 n σ2 := ⟨b1, zNe hb' hm0 (by decide), by omega⟩
      obtain ⟨c1, d1, T1, r1, w1⟩ := zap4 p1 T0 (by omega)
      have h1 : (c1.2.2 x0 0).getD 0 = t' := by rw [congrArg Prod.snd r1]; exact gt
      obtain ⟨c2, d2, T2, r2, w2⟩ := zap4 p2 T1 (by omega)
      have h2 : (c2.2.2 x0 0).getD 0 = t' := by rw [congrArg Prod.snd r2]; exact h1
      obtain ⟨c3, d3, T3, r3, w3⟩ := zap4 p3 T2 (by omega)
      have h3 : (c3.2.2 x0 0).getD 0 = t' := by rw [congrArg Prod.snd r3]; exact h2
      obtain ⟨c4, d4, T4, r4, w4⟩ := zap4 p4 T3 (by omega)
      have h4 : (c4.2.2 x0 0).getD 0 = t' := by rw [congrArg Prod.snd r4]; exact h3
      obtain ⟨c5, d5, T5, r5, w5⟩ := zap4 p5 T4 (by omega)
      simp only [d1, h1, d2, h2, d3, h3, d4, h4, d5] at f1
      have q1 : τ1 = c5 := congrArg Prod.snd f1
      obtain ⟨m1, o1, M1, -, x1⟩ := zpt4 p1 M0 (by omega)
      obtain ⟨m2, o2, M2, -, x2⟩ := zpt4 p2 M1 (by omega)
      obtain ⟨m3, o3, M3, -, x3⟩ := zpt4 p3 M2 (by omega)
      obtain ⟨m4, o4, M4, -, x4⟩ := zpt4 p4 M3 (by omega)
      obtain ⟨m5, o5, M5, -, x5⟩ := zpt4 p5 M4 (by omega)
      simp only [o1, o2, o3, o4, o5] at f2
      have q2 : τ2 = m5 := congrArg Prod.snd f2
      have z0 : ∀ j, j < n → σ1.1 y j = σ2.1 b' j := fun j hj => u3 j (by omega)
      have z1 : ∀ j, j < n + 4 → c1.1 y j = m1.1 b' j := fun j hj => by rw [w1, x1]; exact zB4_s z0 j hj
      have z2 : ∀ j, j < n + 4 + 4 → c2.1 y j = m2.1 b' j := fun j hj => by rw [w2, x2]; exact zB4_s z1 j hj
      have z3 : ∀ j, j < n + 4 + 4 + 4 → c3.1 y j = m3.1 b' j := fun j hj => by rw [w3, x3]; exact zB4_s z2 j hj
      have z4 : ∀ j, j < n + 4 + 4 + 4 + 4 → c4.1 y j = m4.1 b' j := fun j hj => by rw [w4, x4]; exact zB4_s z3 j hj
      have z5 : ∀ j, j < n + 4 + 4 + 4 + 4 + 4 → c5.1 y j = m5.1 b' j := fun j hj => by rw [w5, x5]; exact zB4_s z4 j hj
      rw [q1, q2]
      exact ⟨y, T5.1, u2, fun j hj => z5 j (by omega)⟩
  · rw [((g1 a ha.1).1 (by rw [ha.2]; decide)).2]
    exact h.2.1 a ha j hj
  · rw [(g2.1 b hb.1 (by rw [hb.2]; decide) (by rw [hb.2]; decide)).2]
    exact h.2.2 b hb j hj
/-- the parse that read begins -/
noncomputable def zPs (x0 : Nat) (σ : zS) : Int32 × zS := F_X3_parse ((σ.2.2 x0 1).getD 0) ((σ.2.2 ((σ.2.2 x0 0).getD 0) 0).getD 0) (σ.1 ((σ.2.2 x0 0).getD 0) 1) ((σ.2.2 x0 11).getD 0) σ
theorem zR10 (a : Nat) (σ : zS) : (F_X10_read a σ).1 = (F_X3_parse ((σ.2.2 a 1).getD 0) ((σ.2.2 ((σ.2.2 a 0).getD 0) 0).getD 0) (σ.1 ((σ.2.2 a 0).getD 0) 1) ((σ.2.2 a 11).getD 0) σ).1 := by
  unfold F_X10_read
  simp only [zlt, zlt2]
  split <;> rfl
theorem zQs_k {j : Nat} (h : zQs j) : zf 0 11 j = some (100 + j) ∧ 21 ≤ j := by
  unfold zQs at h
  rcases h with h | h | h | h | h | h | h | h | h | h | h | h | h | h | h | h | h | h | h | h | h | h <;> subst h <;> exact ⟨by rfl, by decide⟩
theorem zSAM.read {v1 v2 : Int32} (h : zSAM κ L1 kd1 L2 kd2 σ1 σ2) (hI1 : zI κ 0 L1 kd1 σ1) (hI2 : zJ κ L2 kd2 σ2) (hx0 : zT L1 kd1 x0 10) (hm0 : zT L2 kd2 m0 11) (f1 : (v1, τ1) = F_X10_read x0 σ1) (f2 : (v2, τ2) = F_X11_read m0 σ2) (g1 : zSm Wk Wr L1 kd1 σ1 τ1) (g2 : zSame m0 Wf Wa L2 kd2 σ2 τ2) (h1 : Wk.contains 39 = false := by decide) (h2 : Wk.contains 40 = false := by decide) (h3 : Wr.contains 7 = false := by decide) (h4 : Wa.contains 101 = false := by decide) (h5 : Wa.contains 109 = false := by decide) : (v1.toInt = v2.toInt ∧ ((zPs x0 σ1).2.1 ((σ1.2.2 x0 1).getD 0) 9).toInt = (τ2.1 m0 17).toInt) ∧ zSAM 0 L1 kd1 L2 kd2 τ1 τ2 := by
  refine ⟨?_, zSAM.le hI1.2.2.1.1 ((h.c g1 h1 h2 h3).m g2 h4 h5)⟩
  have q1 : v1 = (F_X10_read x0 σ1).1 := congrArg Prod.fst f1
  have q2 : v2 = (F_X11_read m0 σ2).1 := congrArg Prod.fst f2
  have q3 : τ2 = (F_X11_read m0 σ2).2 := congrArg Prod.snd f2
  rw [q1, q2, q3, zR10]
  unfold zPs
  obtain ⟨t, t1, t2⟩ := zi_ref (j := 0) (k2 := 7) hI1 hx0 (by rfl)
  obtain ⟨P, P1, P2⟩ := zi_ref (j := 1) (k2 := 3) hI1 hx0 (by rfl)
  obtain ⟨tt, s1, s2⟩ := zi_ref (j := 11) (k2 := 9) hI1 hx0 (by rfl)
  obtain ⟨bt, b1, b2⟩ := zj_ref (j := 1) (k2 := 101) hI2 hm0 (by rfl)
  obtain ⟨p1, u1, u2, u3⟩ := h.1 t bt t2 b2
  obtain ⟨tk, l0, k2⟩ := zi_ref (j := 0) (k2 := 8) hI1 P2 (by rfl)
  obtain ⟨w, w1, w2⟩ := zi_ref (j := 0) (k2 := 40) hI1 k2 (by rfl)
  obtain ⟨kA, ka1, ka2⟩ := zi_ref (j := 1) (k2 := 41) hI1 k2 (by rfl)
  obtain ⟨vA, va1, va2⟩ := zi_ref (j := 2) (k2 := 42) hI1 k2 (by rfl)
  obtain ⟨qA, qa1, qa2⟩ := zi_ref (j := 3) (k2 := 43) hI1 k2 (by rfl)
  obtain ⟨N, n1, n2⟩ := zi_ref (j := 1) (k2 := 44) hI1 s2 (by rfl)
  have rt := zi_get (j := 1) hI1 t2 (lo := κ) (hi := κ) (by rfl)
  have rm := zj_get (j := 2) hI2 hm0 (lo := κ) (hi := κ) (by rfl)
  have hκ := hI1.2.2.1
  obtain ⟨n, hn⟩ : ∃ n : Nat, (n : Int) = κ := ⟨κ.toNat, by omega⟩
  obtain ⟨x, x1, x2⟩ := zj_ref (j := 3) (k2 := 103) hI2 hm0 (by rfl)
  obtain ⟨k, ck1, ck2⟩ := zj_ref (j := 5) (k2 := 105) hI2 hm0 (by rfl)
  obtain ⟨q, cq1, cq2⟩ := zj_ref (j := 6) (k2 := 106) hI2 hm0 (by rfl)
  obtain ⟨v, cv1, cv2⟩ := zj_ref (j := 7) (k2 := 107) hI2 hm0 (by rfl)
  obtain ⟨nm, cn1, cn2⟩ := zj_ref (j := 8) (k2 := 108) hI2 hm0 (by rfl)
  obtain ⟨ky, cy1, cy2⟩ := zj_ref (j := 9) (k2 := 109) hI2 hm0 (by rfl)
  obtain ⟨nO, co1, co2⟩ := zj_ref (j := 20) (k2 := 120) hI2 hm0 (by rfl)
  have gt : (σ1.2.2 x0 0).getD 0 = t := by rw [t1]; rfl
  have gP : (σ1.2.2 x0 1).getD 0 = P := by rw [P1]; rfl
  have gs : (σ1.2.2 x0 11).getD 0 = tt := by rw [s1]; rfl
  have gp : (σ1.2.2 t 0).getD 0 = p1 := by rw [u1]; rfl
  rw [gt, gP, gs, gp]
  have arr : ∀ j, (j = 2 ∨ j = 3 ∨ j = 4 ∨ j = 5 ∨ j = 6 ∨ j = 7 ∨ j = 9) → ∃ k2, 45 ≤ k2 ∧ zT L1 kd1 ((σ1.2.2 tt j).getD 0) k2 := fun j hj => by
    rcases hj with z | z | z | z | z | z | z <;> subst z
    · obtain ⟨y, y1, y2⟩ := zi_ref (j := 2) hI1 s2 (by rfl)
      exact ⟨45, by decide, by rw [y1]; exact y2⟩
    · obtain ⟨y, y1, y2⟩ := zi_ref (j := 3) hI1 s2 (by rfl)
      exact ⟨46, by decide, by rw [y1]; exact y2⟩
    · obtain ⟨y, y1, y2⟩ := zi_ref (j := 4) hI1 s2 (by rfl)
      exact ⟨47, by decide, by rw [y1]; exact y2⟩
    · obtain ⟨y, y1, y2⟩ := zi_ref (j := 5) hI1 s2 (by rfl)
      exact ⟨48, by decide, by rw [y1]; exact y2⟩
    · obtain ⟨y, y1, y2⟩ := zi_ref (j := 6) hI1 s2 (by rfl)
      exact ⟨49, by decide, by rw [y1]; exact y2⟩
    · obtain ⟨y, y1, y2⟩ := zi_ref (j := 7) hI1 s2 (by rfl)
      exact ⟨50, by decide, by rw [y1]; exact y2⟩
    · obtain ⟨y, y1, y2⟩ := zi_ref (j := 9) hI1 s2 (by rfl)
      exact ⟨51, by decide, by rw [y1]; exact y2⟩
  refine zReadEq (n := n) (w := w) (x := x) (bt := bt) (ky := ky) (k := k) (q := q) (v := v) (nm := nm) (nO := nO) ⟨zNe k2 P2 (by decide), zNe ka2 P2 (by decide), zNe qa2 P2 (by decide), zNe va2 P2 (by decide), zNe n2 P2 (by decide), zNe n2 va2 (by decide)⟩ (zNe ka2 k2 (by decide)) (zNe qa2 k2 (by decide)) (zNe ka2 qa2 (by decide)) ⟨zNe u2 k2 (by decide), zNe u2 ka2 (by decide), zNe u2 qa2 (by decide)⟩ (zNe w2 va2 (by decide)) (by omega) (by omega) ⟨w1, ka1, va1, qa1⟩ l0 n1 ⟨⟨zNe s2 P2 (by decide), zNe s2 k2 (by decide), zNe s2 ka2 (by decide), zNe s2 qa2 (by decide)⟩, fun j hj => ?_⟩ (fun j => zi_get (lo := -128) (hi := 127) hI1 u2 (by rfl)) ⟨zNe ck2 hm0 (by decide), zNe cq2 hm0 (by decide), zNe cv2 hm0 (by decide), zNe ck2 cq2 (by decide), zNe ck2 cv2 (by decide), zNe cq2 cv2 (by decide)⟩ ⟨zNe x2 hm0 (by decide), zNe x2 ck2 (by decide), zNe x2 cq2 (by decide), zNe x2 cv2 (by decide)⟩ (zNe b2 x2 (by decide)) (zNe b2 hm0 (by decide)) (zNe cy2 cn2 (by decide)) (zNe cn2 co2 (by decide)) ⟨ck1, cq1, cv1, cn1, cy1⟩ x1 b1 co1 (by omega) (fun j => zj_get (lo := -128) (hi := 127) hI2 x2 (by rfl)) (fun j => zj_get (lo := -128) (hi := 127) hI2 b2 (by rfl)) (fun j hj => ?_) (fun i hi => h.2.1 w w2 i hi) (fun i hi => h.2.2 ky cy2 i hi) (fun j hj => u3 j (by omega))
  · obtain ⟨k3, y1, y2⟩ := arr j hj
    exact ⟨zNe y2 P2 (by omega), zNe y2 k2 (by omega), zNe y2 ka2 (by omega), zNe y2 qa2 (by omega)⟩
  · obtain ⟨f, f21⟩ := zQs_k hj
    obtain ⟨y, y1, y2⟩ := zj_ref (j := j) hI2 hm0 f
    rw [y1]
    exact ⟨zNe y2 hm0 (by omega), zNe y2 ck2 (by omega), zNe y2 cq2 (by omega), zNe y2 cv2 (by omega)⟩
end ZSAM
end
