/-! A TEXT READ, with something told beside (g), telling by telling -/
def gRun {γ : Type} (T : zTn) (st : zA → γ → γ) : Nat → zA → γ → γ
  | 0, _, g => g
  | n + 1, s, g => if s.1 ≠ 0 then g else if T.1 s.2.2.1 = 33 then g else gRun T st n (aTell T s) (st s g)
/-- where the reference's and the class' tellings end -/
noncomputable def xEnd (a : Nat) (T : zTn) : Nat → zA → zS → zS
  | 0, _, τ => τ
  | n + 1, s, τ => if s.1 ≠ 0 then τ else if T.1 s.2.2.1 = 33 then τ else xEnd a T n (aTell T s) (F_X11_tellOne a τ)
noncomputable def vEnd (P : Nat) (T : zTn) : Nat → zA → zS → zS
  | 0, _, τ => τ
  | n + 1, s, τ => if s.1 ≠ 0 then τ else if T.1 s.2.2.1 = 33 then τ else vEnd P T n (aTell T s) (F_X3_telling P τ)
theorem zu_id {f : Nat → Nat → Int32} {a j : Nat} : zu f a j (f a j) = f := by
  funext b i
  unfold zu
  by_cases e : b = a
  · rw [if_pos e]
    by_cases e2 : i = j
    · rw [if_pos e2, e, e2]
    · rw [if_neg e2]
  · rw [if_neg e]
section XRI
variable {a k q v nm nO m : Nat} {T : zTn} {γ : Type}
/-- the reference's loop -/
theorem xRunE (hd : zWd a k q v nm nO) (hT : zTm T m) (hK : zTK T m) {x7 : Int32} (K : Int32 → zS → Int32 × zS) : ∀ (n : Nat) (τ : zS) (s : zA), zXo a k q v nm nO m T τ s → (s.1 = 0 → 401 < n + s.2.2.1) → 0 < n → ∀ l, (s.1 = 0 → 401 < l + s.2.2.1) → 0 < l → (aAns (aRun T l s) ≠ 0 → ∃ x : Int32, (F_X11_read_117 x7 a K n τ).2 = (zu (xEnd a T l s τ).1 a 17 x, (xEnd a T l s τ).2.1, (xEnd a T l s τ).2.2)) ∧ (aAns (aRun T l s) = 0 → ((aRun T l s).1 = 0 ∧ (aRun T l s).2.2.2.1 = 0) ∧ ∃ K2, F_X11_read_117 x7 a K n τ = F_X11_read_224 a K K2 10000 0 (mBg a (zu (xEnd a T l s τ).1 a 17 (-1), (xEnd a T l s τ).2.1, (xEnd a T l s τ).2.2))) := by
  intro n
  induction n with
  | zero => intro τ s _ _ h; exact absurd h (by omega)
  | succ n ih =>
    intro τ s h hn _ l hl _
    obtain ⟨l, rfl⟩ : ∃ q, l = q + 1 := ⟨l - 1, by omega⟩
    have g' : ∀ (x : Int32) (j : Nat), j ≠ 17 → zu τ.1 a 17 x a j = τ.1 a j := fun x j hj => zu_j _ _ _ _ _ (fun z => hj z.symm)
    have g13 := fun x => g' x 13 (by decide)
    have g15 := fun x => g' x 15 (by decide)
    obtain ⟨r, hr⟩ : ∃ r, r = F_X11_read_117 x7 a K (n + 1) τ := ⟨_, rfl⟩
    rw [← hr]
    rw [F_X11_read_117] at hr
    simp only [zlt, wIs hT h.1 0 33 (by decide) (by decide), g13, g15] at hr
    have h13 := h.1.2.1
    have h0 := h.1.2.2.1
    by_cases c : s.1 = 0
    · obtain ⟨r1, r2, r3, r4, r5, r6, r7, r8, r9⟩ := h.1.2.2.2.2 c
      have rk := hK.2.1
      have hn2 := hn c
      have hl2 := hl c
      rw [if_pos (h13.trans c)] at hr
      by_cases c1 : T.1 s.2.2.1 = 33
      · have ea : aRun T (l + 1) s = s := by rw [aRun, if_neg (zne c), if_pos c1]
        have eg : xEnd a T (l + 1) s τ = τ := by rw [xEnd, if_neg (zne c), if_pos c1]
        have ez : aAns s = s.2.2.2.1 := by unfold aAns; rw [if_neg (zne c)]
        rw [if_neg (fun z => z ⟨c, c1⟩), if_neg (by omega)] at hr
        rw [ea, eg]
        refine ⟨fun z => ?_, fun z => ?_⟩
        · rw [ez] at z
          rw [if_pos (by omega), if_neg (by omega), if_pos (by omega)] at hr
          exact ⟨_, congrArg Prod.snd hr⟩
        · rw [ez] at z
          rw [if_neg (by omega), if_neg (by omega), if_neg (by omega)] at hr
          refine ⟨⟨c, z⟩, F_X11_read_117 x7 a K n, hr.trans ?_⟩
          unfold mBg
          simp only [zlt]
      · have ea : aRun T (l + 1) s = aRun T l (aTell T s) := by rw [aRun, if_neg (zne c), if_neg c1]
        have eg : xEnd a T (l + 1) s τ = xEnd a T l (aTell T s) (F_X11_tellOne a τ) := by rw [xEnd, if_neg (zne c), if_neg c1]
        rw [if_pos (fun z => c1 z.2)] at hr
        rw [hr, ea, eg]
        exact ih _ _ (xTell hd hT hK h c) (fun z => by have := aTell_i z; omega) (by omega) l (fun z => by have := aTell_i z; omega) (by omega)
    · have ea : aRun T (l + 1) s = s := by rw [aRun, if_pos c]
      have eg : xEnd a T (l + 1) s τ = τ := by rw [xEnd, if_pos c]
      rw [if_neg (by omega), if_pos (by omega), if_pos (by omega)] at hr
      rw [ea, eg]
      exact ⟨fun _ => ⟨_, congrArg Prod.snd hr⟩, fun z => absurd z (by unfold aAns; rw [if_pos c]; exact c)⟩
/-- what every telling bears, the end bears -/
theorem xEndI (hd : zWd a k q v nm nO) (hT : zTm T m) (hK : zTK T m) (I : zS → zA → γ → Prop) (st : zA → γ → γ) (hI : ∀ (τ : zS) (s : zA) (g : γ), zXo a k q v nm nO m T τ s → s.1 = 0 → I τ s g → I (F_X11_tellOne a τ) (aTell T s) (st s g)) : ∀ (l : Nat) (τ : zS) (s : zA) (g : γ), zXo a k q v nm nO m T τ s → I τ s g → zXo a k q v nm nO m T (xEnd a T l s τ) (aRun T l s) ∧ I (xEnd a T l s τ) (aRun T l s) (gRun T st l s g) := by
  intro l
  induction l with
  | zero => intro τ s g h hi; exact ⟨h, hi⟩
  | succ l ih =>
    intro τ s g h hi
    rw [xEnd, aRun, gRun]
    by_cases c : s.1 = 0
    · rw [if_neg (zne c), if_neg (zne c), if_neg (zne c)]
      by_cases c1 : T.1 s.2.2.1 = 33
      · rw [if_pos c1, if_pos c1, if_pos c1]; exact ⟨h, hi⟩
      · rw [if_neg c1, if_neg c1, if_neg c1]
        exact ih _ _ _ (xTell hd hT hK h c) (hI _ _ _ h c hi)
    · rw [if_pos c, if_pos c, if_pos c]; exact ⟨h, hi⟩
end XRI
section VRI
variable {P tk kA vA qA tt N m : Nat} {T : zTn} {γ : Type}
/-- the class' loop -/
theorem vParseE (hd : zVd P tk kA vA qA N) (hT : zTK T m) {p1 p3 : Nat} {p2 : Int32} : ∀ (n : Nat) (x : Int32) (j : Nat) (τ : zS) (s : zA), x.toInt = j → j ≤ 401 → 401 - j < n → zV P tk kA vA qA tt N m T τ s → (s.1 = 0 → j ≤ s.2.2.1) → ∀ l, 401 - j < l → ∃ b c z : Int32, (F_X3_parse_59 P p1 p2 p3 n x τ).2 = (zu (zu (zu (vEnd P T l s τ).1 P 8 b) P 9 c) tt 0 z, (vEnd P T l s τ).2.1, (vEnd P T l s τ).2.2) ∧ (aAns (aRun T l s) = 0 → ((aRun T l s).1 = 0 ∧ (aRun T l s).2.2.2.1 = 0) ∧ z.toInt = (if (aRun T l s).2.2.2.2.2.1 = 0 then 0 else 1 + (aRun T l s).2.2.2.2.2.2.1)) := by
  intro n
  induction n with
  | zero => intro x j τ s _ _ h; exact absurd h (by omega)
  | succ n ih =>
    intro x j τ s hx hj hm h hz l hl
    obtain ⟨l, rfl⟩ : ∃ q, l = q + 1 := ⟨l - 1, by omega⟩
    have e400 : (400 : Int32).toInt = 400 := by decide
    have e33 : (33 : Int32).toInt = 33 := by decide
    have e1 : (1 : Int32).toInt = 1 := by decide
    have t0 := vtt h
    obtain ⟨r, hr⟩ : ∃ r, r = F_X3_parse_59 P p1 p2 p3 (n + 1) x τ := ⟨_, rfl⟩
    rw [← hr]
    rw [F_X3_parse_59] at hr
    simp only [zlt, e400, e33, t0] at hr
    by_cases c : s.1 = 0
    · obtain ⟨r1, r2, r3, r4, r5, r6, r7, r8, r9, r10, -⟩ := h.2.2.2 c
      have rk := hT.2.1
      have hj2 := hz c
      have c8 := h.2.1.trans c
      rw [if_neg (by omega), if_pos c8, r3] at hr
      by_cases c1 : T.1 s.2.2.1 = 33
      · have ea : aRun T (l + 1) s = s := by rw [aRun, if_neg (zne c), if_pos c1]
        have eg : vEnd P T (l + 1) s τ = τ := by rw [vEnd, if_neg (zne c), if_pos c1]
        rw [if_pos c1, if_pos c8] at hr
        rw [ea, eg]
        have k6 : ∀ a b : Int32, zu (zu τ.1 P 8 a) P 9 b P 6 = τ.1 P 6 := fun a b => by rw [zu_j _ _ _ _ _ (by decide), zu_j _ _ _ _ _ (by decide)]
        have k7 : ∀ a b : Int32, zu (zu τ.1 P 8 a) P 9 b P 7 = τ.1 P 7 := fun a b => by rw [zu_j _ _ _ _ _ (by decide), zu_j _ _ _ _ _ (by decide)]
        simp only [k6, k7, r8] at hr
        have ez : aAns s = s.2.2.2.1 := by unfold aAns; rw [if_neg (zne c)]
        by_cases cm : s.2.2.2.2.2.1 = 0
        · rw [if_pos cm] at hr
          exact ⟨_, _, _, congrArg Prod.snd hr, fun z => ⟨⟨c, ez.symm.trans z⟩, by rw [if_pos cm]; decide⟩⟩
        · rw [if_neg cm] at hr
          exact ⟨_, _, _, congrArg Prod.snd hr, fun z => ⟨⟨c, ez.symm.trans z⟩, by rw [if_neg cm, zb_add (by rw [e1, r9]; omega) (by rw [e1, r9]; omega), e1, r9]⟩⟩
      · have ea : aRun T (l + 1) s = aRun T l (aTell T s) := by rw [aRun, if_neg (zne c), if_neg c1]
        have eg : vEnd P T (l + 1) s τ = vEnd P T l (aTell T s) (F_X3_telling P τ) := by rw [vEnd, if_neg (zne c), if_neg c1]
        rw [if_neg c1] at hr
        rw [hr, ea, eg]
        exact ih _ (j + 1) _ _ (zp1 hx (by omega)) (by omega) (by omega) (vTell hd hT h c) (fun z => by have := aTell_i z; omega) l (by omega)
    · have ea : aRun T (l + 1) s = s := by rw [aRun, if_pos c]
      have eg : vEnd P T (l + 1) s τ = τ := by rw [vEnd, if_pos c]
      have c8 : ¬ (τ.1 P 8).toInt = 0 := fun z => c (h.2.1.symm.trans z)
      have no : aAns s ≠ 0 := by unfold aAns; rw [if_pos c]; exact c
      simp only [if_neg c8, ite_self] at hr
      rw [ea, eg]
      have fin : ∀ z : Int32, (zu τ.1 tt 0 z, τ.2.1, τ.2.2) = (zu (zu (zu τ.1 P 8 (τ.1 P 8)) P 9 (zu τ.1 P 8 (τ.1 P 8) P 9)) tt 0 z, τ.2.1, τ.2.2) := fun z => by rw [zu_id, zu_id]
      split at hr
      · exact ⟨_, _, _, (congrArg Prod.snd hr).trans (fin _), fun z => absurd z no⟩
      · exact ⟨_, _, _, (congrArg Prod.snd hr).trans (fin _), fun z => absurd z no⟩
theorem vEndI (hd : zVd P tk kA vA qA N) (hT : zTK T m) (I : zS → zA → γ → Prop) (st : zA → γ → γ) (hI : ∀ (τ : zS) (s : zA) (g : γ), zV P tk kA vA qA tt N m T τ s → s.1 = 0 → I τ s g → I (F_X3_telling P τ) (aTell T s) (st s g)) : ∀ (l : Nat) (τ : zS) (s : zA) (g : γ), zV P tk kA vA qA tt N m T τ s → I τ s g → zV P tk kA vA qA tt N m T (vEnd P T l s τ) (aRun T l s) ∧ I (vEnd P T l s τ) (aRun T l s) (gRun T st l s g) := by
  intro l
  induction l with
  | zero => intro τ s g h hi; exact ⟨h, hi⟩
  | succ l ih =>
    intro τ s g h hi
    rw [vEnd, aRun, gRun]
    by_cases c : s.1 = 0
    · rw [if_neg (zne c), if_neg (zne c), if_neg (zne c)]
      by_cases c1 : T.1 s.2.2.1 = 33
      · rw [if_pos c1, if_pos c1, if_pos c1]; exact ⟨h, hi⟩
      · rw [if_neg c1, if_neg c1, if_neg c1]
        exact ih _ _ _ (vTell hd hT h c) (hI _ _ _ h c hi)
    · rw [if_pos c, if_pos c, if_pos c]; exact ⟨h, hi⟩
end VRI
