/-! THE REFERENCE'S CELLS while a text is read -/
def zLv (j : Nat) : Prop := j = 11 ∨ j = 13 ∨ j = 14 ∨ j = 15 ∨ j = 16 ∨ j = 41 ∨ j = 42
/-- slots whose arrays don't bear on what is read -/
def zQs (j : Nat) : Prop := j = 21 ∨ j = 22 ∨ j = 23 ∨ j = 24 ∨ j = 25 ∨ j = 26 ∨ j = 27 ∨ j = 28 ∨ j = 29 ∨ j = 30 ∨ j = 31 ∨ j = 33 ∨ j = 34 ∨ j = 35 ∨ j = 36 ∨ j = 37 ∨ j = 39 ∨ j = 40 ∨ j = 43 ∨ j = 48 ∨ j = 49 ∨ j = 67
def zWs (a k q v nm nO m : Nat) (T : zTn) (τ : zS) : Prop :=
  (τ.2.2 a 5 = some k ∧ τ.2.2 a 6 = some q ∧ τ.2.2 a 7 = some v ∧ τ.2.2 a 8 = some nm ∧ τ.2.2 a 20 = some nO) ∧ (∀ j, j < m → (τ.1 k j).toInt = zrho (T.1 j) ∧ (τ.1 q j).toInt = T.2.2.2 j ∧ (T.1 j = 23 → (τ.1 v j).toInt = T.2.2.1 j) ∧ τ.2.1 nm j = (T.2.1 j).2) ∧ ∀ j, zQs j → (τ.2.2 a j).getD 0 ≠ a ∧ (τ.2.2 a j).getD 0 ≠ k ∧ (τ.2.2 a j).getD 0 ≠ q ∧ (τ.2.2 a j).getD 0 ≠ v
def zWr (a nO m : Nat) (β : Int) (τ : zS) (s : zA) : Prop :=
  s.2.2.1 < m ∧ (τ.1 a 11).toInt = s.2.2.1 ∧ (τ.1 a 15).toInt = s.2.2.2.1 ∧ 0 ≤ s.2.2.2.1 ∧ (s.2.2.2.1 ≠ 0 → (τ.1 a 16).toInt = s.2.2.2.2.1 ∧ s.2.2.2.2.1 < β) ∧ (τ.1 a 41).toInt = s.2.2.2.2.2.1 ∧ (τ.1 a 42).toInt = s.2.2.2.2.2.2.1 ∧ (0 ≤ s.2.2.2.2.2.2.1 ∧ s.2.2.2.2.2.2.1 ≤ 11) ∧ ∀ p : Nat, (p : Int) ≤ s.2.2.2.2.2.2.1 → (p ≠ 0 ∨ s.2.2.2.2.2.1 ≠ 0) → τ.2.1 nO p = (s.2.2.2.2.2.2.2 p).2 ∧ zNR (s.2.2.2.2.2.2.2 p).1 (s.2.2.2.2.2.2.2 p).2
def zWg (a k q v nm nO m : Nat) (T : zTn) (β : Int) (τ : zS) (s : zA) : Prop :=
  zWs a k q v nm nO m T τ ∧ (τ.1 a 13).toInt = s.1 ∧ 0 ≤ s.1 ∧ (s.1 ≠ 0 → (τ.1 a 14).toInt = s.2.1) ∧ (s.1 = 0 → zWr a nO m β τ s)
abbrev zWo (a k q v nm nO m : Nat) (T : zTn) (τ : zS) (s : zA) : Prop := zWg a k q v nm nO m T (T.2.2.2 s.2.2.1) τ s
def zWd (a k q v nm nO : Nat) : Prop := k ≠ a ∧ q ≠ a ∧ v ≠ a ∧ nm ≠ nO
/-- the tokens themselves -/
def zTm (T : zTn) (m : Nat) : Prop := (∀ j, j + 1 < m → T.2.2.2 j < T.2.2.2 (j + 1)) ∧ (∀ j, j < m → 0 ≤ T.1 j ∧ T.1 j ≤ 34) ∧ ∀ j, j < m → T.1 j = 22 → zNR (T.2.1 j).1 (T.2.1 j).2
theorem zrho_inj : ∀ x y : Int, 0 ≤ x → x ≤ 34 → 0 ≤ y → y ≤ 34 → zrho x = zrho y → x = y := by
  intro x y hx0 hx hy0 hy h
  have key : ∀ a b : Fin 35, zrho a.val = zrho b.val → a = b := by decide +kernel
  have q := key ⟨x.toNat, by omega⟩ ⟨y.toNat, by omega⟩ (by show zrho ((x.toNat : Nat) : Int) = zrho ((y.toNat : Nat) : Int); rw [show ((x.toNat : Nat) : Int) = x by omega, show ((y.toNat : Nat) : Int) = y by omega]; exact h)
  have := congrArg Fin.val q
  simp only at this
  omega
section ZW
variable {a k q v nm nO m : Nat} {T : zTn} {β : Int} {τ τ' : zS} {s : zA}
theorem zWg.cg (h : zWg a k q v nm nO m T β τ s) (e0 : τ'.2.2 = τ.2.2) (e1 : τ'.1 k = τ.1 k) (e2 : τ'.1 q = τ.1 q) (e3 : τ'.1 v = τ.1 v) (e4 : τ'.2.1 nm = τ.2.1 nm) (e5 : τ'.2.1 nO = τ.2.1 nO) (e6 : ∀ j, zLv j → τ'.1 a j = τ.1 a j) : zWg a k q v nm nO m T β τ' s := by
  unfold zWg zWs zWr
  rw [e0, e1, e2, e3, e4, e5, e6 11 (by unfold zLv; omega), e6 13 (by unfold zLv; omega), e6 14 (by unfold zLv; omega), e6 15 (by unfold zLv; omega), e6 16 (by unfold zLv; omega), e6 41 (by unfold zLv; omega), e6 42 (by unfold zLv; omega)]
  exact h
theorem zWs.row (hd : zWd a k q v nm nO) (h : zWs a k q v nm nO m T τ) (e0 : τ'.2.2 = τ.2.2) (e1 : ∀ x, x ≠ a → τ'.1 x = τ.1 x) (e2 : τ'.2.1 = τ.2.1) : zWs a k q v nm nO m T τ' := by
  unfold zWs
  rw [e0, e1 k hd.1, e1 q hd.2.1, e1 v hd.2.2.1, e2]
  exact h
/-- a slot of the object that doesn't bear on it -/
theorem wRow (hd : zWd a k q v nm nO) (h : zWg a k q v nm nO m T β τ s) (j : Nat) (x : Int32) (hj : ¬ zLv j) : zWg a k q v nm nO m T β (zu τ.1 a j x, τ.2.1, τ.2.2) s :=
  h.cg rfl (zu_n _ _ _ hd.1) (zu_n _ _ _ hd.2.1) (zu_n _ _ _ hd.2.2.1) rfl rfl (fun i hi => zu_j _ _ _ _ _ (fun z => hj (z ▸ hi)))
/-- an array that doesn't bear on it -/
theorem wArr (h : zWg a k q v nm nO m T β τ s) (j i : Nat) (x : Int32) (hj : zQs j) : zWg a k q v nm nO m T β (zu τ.1 ((τ.2.2 a j).getD 0) i x, τ.2.1, τ.2.2) s := by
  obtain ⟨d1, d2, d3, d4⟩ := h.1.2.2 j hj
  exact h.cg rfl (zu_n _ _ _ (fun z => d2 z.symm)) (zu_n _ _ _ (fun z => d3 z.symm)) (zu_n _ _ _ (fun z => d4 z.symm)) rfl rfl (fun i hi => by
    show zu τ.1 _ _ _ a i = _
    rw [zu_n _ _ _ (fun z => d1 z.symm)])
theorem wFail (hd : zWd a k q v nm nO) (h : zWg a k q v nm nO m T β τ s) (n : Int32) (hn : 0 < n.toInt) : zWg a k q v nm nO m T β (F_X11_fail a n τ) (aFail T n.toInt s) := by
  have e6 : (τ.2.2 a 6).getD 0 = q := by rw [h.1.1.2.1]; rfl
  unfold F_X11_fail aFail
  simp only [zlt, e6]
  by_cases c : s.1 = 0
  · have r := h.2.2.2.2 c
    rw [if_neg (by rw [h.2.1]; omega), if_neg (zne c)]
    have e11 : zu τ.1 a 13 n a 11 = τ.1 a 11 := zu_j _ _ _ _ _ (by decide)
    have eq : zu τ.1 a 13 n q = τ.1 q := zu_n _ _ _ hd.2.1
    have ei : (τ.1 a 11).toNatClampNeg = s.2.2.1 := by rw [ztn, r.2.1]; rfl
    rw [e11, eq, ei]
    refine ⟨h.1.row hd rfl (fun x hx => ?_) rfl, ?_, by show 0 ≤ n.toInt; omega, fun _ => ?_, fun z => ?_⟩
    · show zu (zu τ.1 a 13 n) a 14 _ x = _
      rw [zu_n _ _ _ hx, zu_n _ _ _ hx]
    · show (zu (zu τ.1 a 13 n) a 14 _ a 13).toInt = _
      rw [zu_j _ _ _ _ _ (by decide), zu_s]
    · show (zu (zu τ.1 a 13 n) a 14 _ a 14).toInt = _
      rw [zu_s]
      exact (h.1.2.1 _ r.1).2.1
    · have z2 : n.toInt = 0 := z
      omega
  · rw [if_pos (by rw [h.2.1]; have := h.2.2.1; omega), if_pos c]
    exact h
theorem zWg.any (h : zWg a k q v nm nO m T β τ s) (c : s.1 ≠ 0) (β' : Int) : zWg a k q v nm nO m T β' τ s := ⟨h.1, h.2.1, h.2.2.1, h.2.2.2.1, fun z => absurd z c⟩
theorem wFail' (hd : zWd a k q v nm nO) (h : zWg a k q v nm nO m T β τ s) (n : Int32) (i : Int) (e : n.toInt = i) (hn : 0 < i) : zWo a k q v nm nO m T (F_X11_fail a n τ) (aFail T i s) := by
  subst e
  exact (wFail hd h n hn).any (aFail_1 (by omega)) _
theorem wIs (hT : zTm T m) (h : zWo a k q v nm nO m T τ s) (x : Int32) (w : Int) (hw : 0 ≤ w ∧ w ≤ 34) (hx : x.toInt = zrho w) : ((F_X11_is a x τ).toInt = 0) = ¬ (s.1 = 0 ∧ T.1 s.2.2.1 = w) := by
  have e5 : (τ.2.2 a 5).getD 0 = k := by rw [h.1.1.1]; rfl
  unfold F_X11_is
  simp only [zlt, e5]
  by_cases c : s.1 = 0
  · have r := h.2.2.2.2 c
    have ei : (τ.1 a 11).toNatClampNeg = s.2.2.1 := by rw [ztn, r.2.1]; rfl
    rw [if_pos (by rw [h.2.1]; exact c), ei, (h.1.2.1 _ r.1).1, hx]
    have rg := hT.2.1 _ r.1
    by_cases c2 : T.1 s.2.2.1 = w
    · rw [c2, if_pos rfl]
      exact propext ⟨fun z => absurd z (by decide), fun z => absurd ⟨c, rfl⟩ z⟩
    · rw [if_neg (fun z => c2 (zrho_inj _ _ rg.1 rg.2 hw.1 hw.2 z))]
      exact propext ⟨fun _ z => c2 z.2, fun _ => by decide⟩
  · rw [if_neg (by rw [h.2.1]; exact c)]
    exact propext ⟨fun _ z => c z.1, fun _ => by decide⟩
/-- on by one -/
def aOn (T : zTn) (s : zA) : zA := if s.1 ≠ 0 then s else if 400 ≤ s.2.2.1 then aFail T 2 s else (s.1, s.2.1, s.2.2.1 + 1, s.2.2.2)
theorem aTake_on {w : Int} (h : T.1 s.2.2.1 = w) : aTake T w s = aOn T s := by
  unfold aTake aOn
  split
  · rfl
  · rw [if_neg (fun z => z h)]
theorem wOn (hd : zWd a k q v nm nO) (hT : zTm T m) (hK : zTK T m) (h : zWg a k q v nm nO m T β τ s) (hb : s.1 = 0 → β ≤ T.2.2.2 s.2.2.1 + 1) (hk : s.1 = 0 → T.1 s.2.2.1 < 33) : zWo a k q v nm nO m T (F_X11_goesOn a τ) (aOn T s) := by
  have e400 : (400 : Int32).toInt = 400 := by decide
  unfold F_X11_goesOn aOn
  simp only [zlt, e400]
  by_cases c : s.1 = 0
  · have r := h.2.2.2.2 c
    obtain ⟨r1, r2, r3, r4, r5, r6, r7, r8, r9⟩ := r
    rw [if_neg (zne c)]
    have m4 := hK.2.1
    by_cases c2 : 400 ≤ s.2.2.1
    · rw [if_pos (by omega), if_pos c2]
      exact wFail' hd h 2 2 (by decide) (by decide)
    · rw [if_neg (by omega), if_neg c2]
      have lt := hK.2.2 _ r1 (hk c) (by omega)
      have g : ∀ j, j ≠ 11 → zu τ.1 a 11 (τ.1 a 11 + (1 : Int32)) a j = τ.1 a j := fun j hj => zu_j _ _ _ _ _ (fun z => hj z.symm)
      refine ⟨h.1.row hd rfl (fun x hx => zu_n _ _ _ hx) rfl, ?_, h.2.2.1, fun z => absurd c z, fun _ => ⟨lt, ?_, ?_, r4, fun z => ⟨?_, ?_⟩, ?_, ?_, r8, r9⟩⟩
      · show (zu τ.1 a 11 _ a 13).toInt = _
        rw [g 13 (by decide)]; exact h.2.1
      · show (zu τ.1 a 11 _ a 11).toInt = _
        rw [zu_s]
        exact zp1 r2 (by omega)
      · show (zu τ.1 a 11 _ a 15).toInt = _
        rw [g 15 (by decide)]; exact r3
      · show (zu τ.1 a 11 _ a 16).toInt = _
        rw [g 16 (by decide)]; exact (r5 z).1
      · have q1 := (r5 z).2
        have q2 := hT.1 _ lt
        have q3 := hb c
        show s.2.2.2.2.1 < T.2.2.2 (s.2.2.1 + 1)
        omega
      · show (zu τ.1 a 11 _ a 41).toInt = _
        rw [g 41 (by decide)]; exact r6
      · show (zu τ.1 a 11 _ a 42).toInt = _
        rw [g 42 (by decide)]; exact r7
  · rw [if_pos c]
    split
    · have q := wFail' hd h 2 2 (by decide) (by decide)
      unfold aFail at q
      rw [if_pos c] at q
      exact q
    · refine ⟨h.1.row hd rfl (fun x hx => zu_n _ _ _ hx) rfl, ?_, h.2.2.1, fun z => ?_, fun z => absurd z c⟩
      · show (zu τ.1 a 11 _ a 13).toInt = _
        rw [zu_j _ _ _ _ _ (by decide)]; exact h.2.1
      · show (zu τ.1 a 11 _ a 14).toInt = _
        rw [zu_j _ _ _ _ _ (by decide)]; exact h.2.2.2.1 z
theorem wMust (hd : zWd a k q v nm nO) (hT : zTm T m) (hK : zTK T m) (h : zWo a k q v nm nO m T τ s) (x : Int32) (w : Int) (hw : 0 ≤ w ∧ w < 33) (hx : x.toInt = zrho w) : zWo a k q v nm nO m T (F_X11_must a x τ) (aTake T w s) := by
  unfold F_X11_must
  simp only [zlt, wIs hT h x w (by omega) hx]
  by_cases c : s.1 = 0 ∧ T.1 s.2.2.1 = w
  · rw [if_neg (fun z => z c), aTake_on c.2]
    exact wOn hd hT hK h (fun _ => by omega) (fun _ => by omega)
  · rw [if_pos c]
    have q := wFail' hd h 1 1 (by decide) (by decide)
    have e : aTake T w s = aFail T 1 s := by
      unfold aTake
      by_cases c2 : s.1 = 0
      · rw [if_neg (fun z => z c2), if_pos (fun z => c ⟨c2, z⟩)]
      · rw [if_pos c2]
        unfold aFail
        rw [if_pos c2]
    rw [e]
    exact q
/-- a late fault at a token at hand or just passed -/
theorem wWrong (hd : zWd a k q v nm nO) (h : zWo a k q v nm nO m T τ s) (hc : s.1 = 0) (n i : Int32) (j : Nat) (hn : 0 < n.toInt) (hi : i.toInt = j) (hj : j < m) (hlp : s.2.2.2.1 ≠ 0 → s.2.2.2.2.1 < T.2.2.2 j) (hjs : T.2.2.2 j < T.2.2.2 s.2.2.1 ∨ j = s.2.2.1) (s2 : zA) (h2 : s2 = (s.1, s.2.1, s.2.2.1, (if s.2.2.2.1 ≠ 0 then s.2.2.2.1 else n.toInt), (if s.2.2.2.1 ≠ 0 then s.2.2.2.2.1 else T.2.2.2 j), s.2.2.2.2.2)) :
    zWs a k q v nm nO m T (F_X11_wrong a n i τ) ∧ (F_X11_wrong a n i τ).2.1 = τ.2.1 ∧ ((F_X11_wrong a n i τ).1 a 13).toInt = 0 ∧ (∀ x, x ≠ 15 → x ≠ 16 → (F_X11_wrong a n i τ).1 a x = τ.1 a x) ∧ ((F_X11_wrong a n i τ).1 a 15).toInt = s2.2.2.2.1 ∧ ((F_X11_wrong a n i τ).1 a 16).toInt = s2.2.2.2.2.1 := by
  subst h2
  have r := h.2.2.2.2 hc
  obtain ⟨r1, r2, r3, r4, r5, r6, r7, r8, r9⟩ := r
  have e6 : (τ.2.2 a 6).getD 0 = q := by rw [h.1.1.2.1]; rfl
  have ei : i.toNatClampNeg = j := by rw [ztn, hi]; rfl
  have eq := (h.1.2.1 _ hj).2.1
  have h13 := h.2.1.trans hc
  unfold F_X11_wrong
  simp only [zlt, e6, ei]
  rw [if_neg (by omega)]
  by_cases c : s.2.2.2.1 = 0
  · rw [if_pos (r3.trans c)]
    refine ⟨h.1.row hd rfl (fun x hx => ?_) rfl, rfl, ?_, fun x h1 h2 => ?_, ?_, ?_⟩
    · show zu (zu τ.1 a 15 n) a 16 _ x = _
      rw [zu_n _ _ _ hx, zu_n _ _ _ hx]
    · show (zu (zu τ.1 a 15 n) a 16 _ a 13).toInt = _
      rw [zu_j _ _ _ _ _ (by decide), zu_j _ _ _ _ _ (by decide)]; exact h13
    · show zu (zu τ.1 a 15 n) a 16 _ a x = _
      rw [zu_j _ _ _ _ _ (fun z => h2 z.symm), zu_j _ _ _ _ _ (fun z => h1 z.symm)]
    · show (zu (zu τ.1 a 15 n) a 16 _ a 15).toInt = if s.2.2.2.1 ≠ 0 then s.2.2.2.1 else n.toInt
      rw [zu_j _ _ _ _ _ (by decide), zu_s, if_neg (zne c)]
    · show (zu (zu τ.1 a 15 n) a 16 _ a 16).toInt = if s.2.2.2.1 ≠ 0 then s.2.2.2.2.1 else T.2.2.2 j
      rw [zu_s, if_neg (zne c), eq]
  · rw [if_neg (fun z => c (r3.symm.trans z)), if_pos (by rw [(r5 c).1, eq]; exact hlp c)]
    refine ⟨h.1, rfl, h13, fun _ _ _ => rfl, ?_, ?_⟩
    · show _ = if s.2.2.2.1 ≠ 0 then s.2.2.2.1 else n.toInt
      rw [if_pos c]; exact r3
    · show _ = if s.2.2.2.1 ≠ 0 then s.2.2.2.2.1 else T.2.2.2 j
      rw [if_pos c]; exact (r5 c).1
end ZW
