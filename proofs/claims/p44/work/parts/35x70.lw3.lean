/-! THE REFERENCE'S EXPRESSION, with the codes it puts down -/
/-- where an expression stands, all well -/
def zIn (a A B C c0 p0 : Nat) (τ0 : zS) (o : Int) (s : zA) (τ : zS) (st : List Int) (out : zCs) : Prop := (τ.1 a 12).toInt = o ∧ zPi a A B C c0 τ0 τ st out ∧ br st = o ∧ st.length + out.length + p0 ≤ s.2.2.1
def zGx (a k q v nm nO m A B C c0 p0 : Nat) (τ0 : zS) (T : zTn) (b : Bool) (o : Int) (s : zA) (st : List Int) (out : zCs) (τ' : zS) : Prop := ∃ (s' : zA) (out' : zCs), zWo a k q v nm nO m T τ' s' ∧ (s'.1 = 0 → (τ'.1 a 12).toInt = 0 ∧ zPi a A B C c0 τ0 τ' [] out' ∧ out'.length + p0 ≤ s'.2.2.1) ∧ ∃ e, ∀ n, aX T (n + e) b o s st out = (s', out')
theorem zrho_n6 {x : Int} (h1 : 26 ≤ x) (h2 : x ≤ 29) : ¬ zrho x = 6 := by
  have h : x = 26 ∨ x = 27 ∨ x = 28 ∨ x = 29 := by omega
  rcases h with rfl | rfl | rfl | rfl <;> decide
section RX2
variable {a k q v nm nO m A B C c0 p0 : Nat} {T : zTn} {τ0 τ τ' : zS} {s : zA} {st : List Int} {out : zCs}
theorem zGx.one {o o' : Int} {b b' : Bool} {s1 : zA} {st1 : List Int} {out1 : zCs} (h : zGx a k q v nm nO m A B C c0 p0 τ0 T b' o' s1 st1 out1 τ') (e : ∀ n, aX T (n + 1) b o s st out = aX T n b' o' s1 st1 out1) : zGx a k q v nm nO m A B C c0 p0 τ0 T b o s st out τ' := by
  obtain ⟨s', out', h1, h2, x, h3⟩ := h
  exact ⟨s', out', h1, h2, x + 1, fun n => by rw [← Nat.add_assoc, e, h3]⟩
theorem zGx.flt {o : Int} {b : Bool} (h : zWo a k q v nm nO m T τ' s) (c : s.1 ≠ 0) : zGx a k q v nm nO m A B C c0 p0 τ0 T b o s st out τ' := ⟨s, out, h, fun z => absurd z c, 0, fun n => aX_f c _ _ _ _ _⟩
theorem pOn (h : zPi a A B C c0 τ0 τ st out) : zPi a A B C c0 τ0 (F_X11_goesOn a τ) st out := h.fi (fi_X11_goesOn zFi.id ⟨rfl, by decide, by decide⟩ ⟨rfl, by decide, by decide⟩ ⟨rfl, by decide, by decide⟩)
theorem p12 (h : zPi a A B C c0 τ0 τ st out) (x : Int32) : zPi a A B C c0 τ0 (zu τ.1 a 12 x, τ.2.1, τ.2.2) st out := h.fi (zFi.id.w ⟨rfl, by decide, by decide⟩)
/-- a unit -/
theorem pUnit (hT : zTm T m) (h : zWo a k q v nm nO m T τ s) (hi : zPi a A B C c0 τ0 τ st out) (hb : c0 + out.length ≤ 4000) (c : s.1 = 0) (hu : T.1 s.2.2.1 = 23 ∨ (13 ≤ T.1 s.2.2.1 ∧ T.1 s.2.2.1 < 22)) : zPi a A B C c0 τ0 (F_X11_unit a τ) st (out ++ [aUc T s]) := by
  have e5 : (τ.2.2 a 5).getD 0 = k := by rw [h.1.1.1]; rfl
  have e7 : (τ.2.2 a 7).getD 0 = v := by rw [h.1.1.2.2.1]; rfl
  have e33 : (33 : Int32).toInt = 33 := by decide
  have e41 : (41 : Int32).toInt = 41 := by decide
  obtain ⟨r1, r2, -⟩ := h.2.2.2.2 c
  have ei : (τ.1 a 11).toNatClampNeg = s.2.2.1 := by rw [ztn, r2]; rfl
  have rg := hT.2.1 _ r1
  have kz := (h.1.2.1 _ r1).1
  unfold F_X11_unit
  simp only [zlt, wIs hT h 2 23 (by decide) (by decide), e5, e7, e33, e41, ei, kz]
  by_cases c1 : T.1 s.2.2.1 = 23
  · rw [if_neg (fun z => z ⟨c, c1⟩)]
    refine pOn (pEmit hi hb _ _ (x' := (aUc T s).1) (y' := (aUc T s).2) ?_ ?_)
    · unfold aUc
      rw [if_pos c1]
      exact (by decide : (0 : Int32).toInt = 0)
    · unfold aUc
      rw [if_pos c1]
      exact (h.1.2.1 _ r1).2.2.1 c1
  · have zv := zrho_var rg.1 rg.2
    rw [if_pos (fun z => c1 z.2), if_pos (h.2.1.trans c), if_neg (by omega), if_neg (by omega)]
    refine pOn (pEmit hi hb _ _ (x' := (aUc T s).1) (y' := (aUc T s).2) ?_ ?_)
    · unfold aUc
      rw [if_neg c1]
      exact (by decide : (1 : Int32).toInt = 1)
    · unfold aUc
      rw [if_neg c1, zb_sub (by rw [kz, e33]; omega) (by rw [kz, e33]; omega), kz, e33]
      have : zrho (T.1 s.2.2.1) = 20 + T.1 s.2.2.1 := by unfold zrho; rw [if_pos (by omega)]
      rw [this]
      show _ = T.1 s.2.2.1 - 13
      omega
theorem y96 (hd : zWd a k q v nm nO) (hT : zTm T m) (hK : zTK T m) (hc0 : c0 ≤ 2000) {x7 v5 : Int32} (hv5 : v5.toInt = 0) (K : Int32 → zS → zS) (K2 : zS → zS) (i0 : Nat)
    (hk : ∀ (x : Int32) (τ : zS) (s : zA) (o : Int) (st : List Int) (out : zCs), x.toInt ≠ 0 → zWo a k q v nm nO m T τ s → 0 ≤ o ∧ o ≤ 6 → (s.1 = 0 → i0 < s.2.2.1 ∧ zIn a A B C c0 p0 τ0 o s τ st out) → zGx a k q v nm nO m A B C c0 p0 τ0 T true o s st out (K x τ)) :
    ∀ (n : Nat) (τ : zS) (s : zA) (o : Int) (st : List Int) (out : zCs), zWo a k q v nm nO m T τ s → 0 ≤ o ∧ o ≤ 6 → (s.1 = 0 → (i0 ≤ s.2.2.1 ∧ 401 < n + s.2.2.1) ∧ zIn a A B C c0 p0 τ0 o s τ st out) → 0 < n → zGx a k q v nm nO m A B C c0 p0 τ0 T false o s st out (F_X11_expression_96 x7 v5 a K K2 n τ) := by
  intro n
  induction n with
  | zero => intro τ s o _ _ _ _ _ h; exact absurd h (by omega)
  | succ n ih =>
    intro τ s o st out h ho hs _
    have c00 : ((0 : Int32).toInt = 0) = True := by decide
    have c10 : ((1 : Int32).toInt = 0) = False := by decide
    have i7 := wIs hT h 7 32 (by decide) (by decide)
    have i8 := wIs hT h 8 26 (by decide) (by decide)
    have i9 := wIs hT h 9 27 (by decide) (by decide)
    have i10 := wIs hT h 10 28 (by decide) (by decide)
    have i15 := wIs hT h 15 29 (by decide) (by decide)
    have sgn : ∀ (p x : Int32), x.toInt ≠ 0 → s.1 = 0 → 26 ≤ T.1 s.2.2.1 → T.1 s.2.2.1 ≤ 29 → (28 ≤ T.1 s.2.2.1 ↔ p.toInt ≠ 0) → ∀ (y z : Int32) (i : Nat), i = ((F_X11_comesOut a p τ).1 a 44).toNatClampNeg → y = (F_X11_comesOut a p τ).1 (((F_X11_comesOut a p τ).2.2 a 5).getD 0) ((F_X11_comesOut a p τ).1 a 11).toNatClampNeg → z = zu (F_X11_comesOut a p τ).1 (((F_X11_comesOut a p τ).2.2 a 43).getD 0) i y a 44 + (1 : Int32) → zGx a k q v nm nO m A B C c0 p0 τ0 T false o s st out (K x (F_X11_goesOn a (zu (zu (F_X11_comesOut a p τ).1 (((F_X11_comesOut a p τ).2.2 a 43).getD 0) i y) a 44 z, (F_X11_comesOut a p τ).2.1, (F_X11_comesOut a p τ).2.2))) := fun p x hx c c1 c2 hp y z i hi hy hz => by
      obtain ⟨⟨q0, q1⟩, j1, j2, j3, j4⟩ := hs c
      have rm := (h.2.2.2.2 c).1
      have rk := hK.2.1
      have h1 := wComes hd h p
      have h2 := wPush hd h1.1 i y z
      have h3 := wOn hd hT hK h2.1 (fun _ => by omega) (fun _ => by omega)
      rw [← aTake_on (w := T.1 s.2.2.1) rfl] at h3
      have bp : decide (28 ≤ T.1 s.2.2.1) = true ↔ p.toInt ≠ 0 := by rw [decide_eq_true_eq]; exact hp
      have p1 := pComes bp j2 (by omega)
      have pl1 := pl_len (p := decide (28 ≤ T.1 s.2.2.1)) st out
      have gA := p1.1.1.1
      have gk : ((F_X11_comesOut a p τ).2.2 a 5).getD 0 = k := by rw [h1.1.1.1.1]; rfl
      obtain ⟨t1, t2, -⟩ := h1.1.2.2.2.2 c
      have yv : y.toInt = zrho (T.1 s.2.2.1) := by
        rw [hy, gk, show ((F_X11_comesOut a p τ).1 a 11).toNatClampNeg = s.2.2.1 by rw [ztn, t2]; rfl]
        exact (h1.1.1.2.1 _ t1).1
      rw [gA] at hz h3 ⊢
      have p2 := pPush p1 (by omega) y z yv hi (by rw [hz, zu_n _ _ _ (fun w => p1.1.2.1.1 w.symm)])
      refine zGx.one (hk x _ _ o _ _ hx h3 ho (fun w => ?_)) (fun n => by rw [aX, if_neg (zne c), if_pos ⟨c1, c2⟩])
      have qi := aTake_i w
      refine ⟨by omega, ?_, pOn p2, ?_, ?_⟩
      · rw [wOn12']
        show (zu (zu _ A _ _) a 44 _ a 12 : Int32).toInt = o
        rw [gA] at h2
        rw [h2.2, h1.2]
        exact j1
      · rw [br, if_neg (zrho_n6 c1 c2), pl_br, j3]
        omega
      · rw [List.length_cons, qi.2.2.1]
        omega
    have none : Unit → (s.1 = 0 → ¬ (26 ≤ T.1 s.2.2.1 ∧ T.1 s.2.2.1 ≤ 29)) → (s.1 = 0 → T.1 s.2.2.1 = 32 → o = 0) → zGx a k q v nm nO m A B C c0 p0 τ0 T false o s st out (if v5.toInt < (τ.1 a 12).toInt then F_X11_comesOut a 0 (F_X11_fail a 1 τ) else F_X11_comesOut a 0 τ) := fun _ n1 n2 => by
      by_cases c : s.1 = 0
      · obtain ⟨⟨q0, q1⟩, j1, j2, j3, j4⟩ := hs c
        have rm := (h.2.2.2.2 c).1
        have rk := hK.2.1
        rw [hv5, j1]
        by_cases c2 : 0 < o
        · rw [if_pos c2]
          have h1 := wFail' hd h 1 1 (by decide) (by decide)
          have h2 := wComes hd h1 0
          refine ⟨_, out, h2.1, fun z => absurd z (aFail_1 (by decide)), 1, fun n => ?_⟩
          rw [aX, if_neg (zne c), if_neg (n1 c), if_pos c2, if_neg (fun z => by have := n2 c z; omega)]
        · rw [if_neg c2]
          have h2 := wComes hd h 0
          have p1 := pComes (b := false) (p := 0) ⟨fun z => absurd z (by decide), fun z => absurd (by decide) z⟩ j2 (by omega)
          have z1 := pl_0 st out (by omega)
          have l1 := pl_len (p := false) st out
          rw [z1] at p1 l1
          refine ⟨s, (pl false st out).2, h2.1, fun _ => ⟨by rw [h2.2, j1]; omega, p1, ?_⟩, 1, fun n => ?_⟩
          · rw [List.length_nil] at l1
            omega
          · rw [aX, if_neg (zne c), if_neg (n1 c), if_neg c2]
      · split
        · have h1 := wFail' hd h 1 1 (by decide) (by decide)
          rw [aFail_f c] at h1
          exact zGx.flt (wComes hd h1 0).1 c
        · exact zGx.flt (wComes hd h 0).1 c
    rw [F_X11_expression_96]
    simp only [zlt, c00, c10, if_true, if_false]
    by_cases d7 : s.1 = 0 ∧ T.1 s.2.2.1 = 32
    · obtain ⟨⟨q0, q1⟩, j1, j2, j3, j4⟩ := hs d7.1
      have rm := (h.2.2.2.2 d7.1).1
      have rk := hK.2.1
      have j7 : ((F_X11_is a (7 : Int32) τ).toInt = 0) = False := by rw [i7]; simp [d7.1, d7.2]
      have j8 : ((F_X11_is a (8 : Int32) τ).toInt = 0) = True := by rw [i8]; simp [d7.1, d7.2]
      have j9 : ((F_X11_is a (9 : Int32) τ).toInt = 0) = True := by rw [i9]; simp [d7.1, d7.2]
      have j10 : ((F_X11_is a (10 : Int32) τ).toInt = 0) = True := by rw [i10]; simp [d7.1, d7.2]
      have j15 : ((F_X11_is a (15 : Int32) τ).toInt = 0) = True := by rw [i15]; simp [d7.1, d7.2]
      simp only [j7, j8, j9, j10, j15, if_true, if_false]
      rw [hv5, j1]
      by_cases c2 : 0 < o
      · rw [if_pos c2]
        have h1 := wComes hd h 0
        have h2 := wRow hd h1.1 44 ((F_X11_comesOut a 0 τ).1 a 44 - (1 : Int32)) (by unfold zLv; omega)
        have h3 := wRow hd h2 12 ((zu (F_X11_comesOut a 0 τ).1 a 44 ((F_X11_comesOut a 0 τ).1 a 44 - (1 : Int32))) a 12 - (1 : Int32)) (by unfold zLv; omega)
        have h4 := wOn hd hT hK h3 (fun _ => by omega) (fun _ => by omega)
        rw [← aTake_on (w := 32) d7.2] at h4
        have p1 := pComes (b := false) (p := 0) ⟨fun z => absurd z (by decide), fun z => absurd (by decide) z⟩ j2 (by omega)
        have l1 := pl_len (p := false) st out
        obtain ⟨st', z1, z2⟩ := pl_6 st out (by omega)
        rw [z1] at p1 l1
        rw [List.length_cons] at l1
        have p2 := pPop p1 (by omega) rfl
        refine zGx.one (ih _ _ (o - 1) st' (pl false st out).2 h4 (by omega) (fun z => ?_) (by omega)) (fun n => by rw [aX, if_neg (zne d7.1), if_neg (by omega), if_pos c2, if_pos d7.2, z1]; rfl)
        have qi := aTake_i z
        have e1 : (1 : Int32).toInt = 1 := by decide
        refine ⟨⟨by omega, by omega⟩, ?_, pOn (p12 p2 _), by omega, by omega⟩
        rw [wOn12']
        show (zu (zu (F_X11_comesOut a 0 τ).1 a 44 _) a 12 _ a 12).toInt = _
        rw [zu_s, zu_j _ _ _ _ _ (by decide), h1.2, zb_sub (by rw [j1, e1]; omega) (by rw [j1, e1]; omega), j1, e1]
      · rw [if_neg c2]
        have := none () (fun _ => by omega) (fun _ _ => by omega)
        rw [hv5, j1] at this
        exact this
    · have j7 : ((F_X11_is a (7 : Int32) τ).toInt = 0) = True := by rw [i7]; simp [d7]
      simp only [j7, if_true]
      by_cases d8 : s.1 = 0 ∧ T.1 s.2.2.1 = 26
      · have j8 : ((F_X11_is a (8 : Int32) τ).toInt = 0) = False := by rw [i8]; simp [d8.1, d8.2]
        have j10 : ((F_X11_is a (10 : Int32) τ).toInt = 0) = True := by rw [i10]; simp [d8.1, d8.2]
        have j15 : ((F_X11_is a (15 : Int32) τ).toInt = 0) = True := by rw [i15]; simp [d8.1, d8.2]
        simp only [j8, j10, j15, if_true, if_false]
        exact sgn 0 1 (by decide) d8.1 (by omega) (by omega) ⟨fun z => by omega, fun z => absurd (by decide) z⟩ _ _ _ rfl rfl rfl
      have j8 : ((F_X11_is a (8 : Int32) τ).toInt = 0) = True := by rw [i8]; simp [d8]
      simp only [j8, if_true]
      by_cases d9 : s.1 = 0 ∧ T.1 s.2.2.1 = 27
      · have j9 : ((F_X11_is a (9 : Int32) τ).toInt = 0) = False := by rw [i9]; simp [d9.1, d9.2]
        have j10 : ((F_X11_is a (10 : Int32) τ).toInt = 0) = True := by rw [i10]; simp [d9.1, d9.2]
        have j15 : ((F_X11_is a (15 : Int32) τ).toInt = 0) = True := by rw [i15]; simp [d9.1, d9.2]
        simp only [j9, j10, j15, if_true, if_false]
        exact sgn 0 1 (by decide) d9.1 (by omega) (by omega) ⟨fun z => by omega, fun z => absurd (by decide) z⟩ _ _ _ rfl rfl rfl
      have j9 : ((F_X11_is a (9 : Int32) τ).toInt = 0) = True := by rw [i9]; simp [d9]
      simp only [j9, if_true]
      by_cases d10 : s.1 = 0 ∧ T.1 s.2.2.1 = 28
      · have j10 : ((F_X11_is a (10 : Int32) τ).toInt = 0) = False := by rw [i10]; simp [d10.1, d10.2]
        simp only [j10, if_false]
        exact sgn 1 1 (by decide) d10.1 (by omega) (by omega) ⟨fun _ => by decide, fun _ => by omega⟩ _ _ _ rfl rfl rfl
      have j10 : ((F_X11_is a (10 : Int32) τ).toInt = 0) = True := by rw [i10]; simp [d10]
      simp only [j10, if_true]
      by_cases d15 : s.1 = 0 ∧ T.1 s.2.2.1 = 29
      · have j15 : ((F_X11_is a (15 : Int32) τ).toInt = 0) = False := by rw [i15]; simp [d15.1, d15.2]
        simp only [j15, if_false]
        exact sgn 1 1 (by decide) d15.1 (by omega) (by omega) ⟨fun _ => by decide, fun _ => by omega⟩ _ _ _ rfl rfl rfl
      have j15 : ((F_X11_is a (15 : Int32) τ).toInt = 0) = True := by rw [i15]; simp [d15]
      simp only [j15, if_true]
      exact none () (fun z => by omega) (fun z1 z2 => absurd ⟨z1, z2⟩ d7)
theorem aX_u {o : Int} (c : ¬ (s.1 = 0 ∧ T.1 s.2.2.1 = 31)) (n : Nat) : aX T (n + 1) true o s st out = if s.1 = 0 ∧ (T.1 s.2.2.1 = 23 ∨ (13 ≤ T.1 s.2.2.1 ∧ T.1 s.2.2.1 < 22)) then aX T n false o (aU T s) st (out ++ [aUc T s]) else (aU T s, out) := by
  by_cases c0 : s.1 = 0
  · rw [aX, if_neg (zne c0)]
    unfold aU
    rw [if_neg (zne c0)]
    by_cases c1 : T.1 s.2.2.1 = 23 ∨ (13 ≤ T.1 s.2.2.1 ∧ T.1 s.2.2.1 < 22)
    · rw [if_pos c1, if_pos c1, if_pos ⟨c0, c1⟩, aOn_t (w := T.1 s.2.2.1) (fun _ => rfl)]
    · rw [if_neg c1, if_neg c1, if_neg (fun z => c ⟨c0, z.1⟩), if_neg (fun z => c ⟨c0, z⟩), if_neg (fun z => c1 z.2)]
  · have e : aU T s = s := by
      unfold aU
      rw [if_pos c0]
    rw [e, aX_f c0, if_neg (fun z => c0 z.1)]
theorem y23 (hd : zWd a k q v nm nO) (hT : zTm T m) (hK : zTK T m) (hc0 : c0 ≤ 2000) {x7 v5 : Int32} (hv5 : v5.toInt = 0) (K : Int32 → zS → zS) (i0 : Nat)
    (hk : ∀ (x : Int32) (τ : zS) (s : zA) (o : Int) (st : List Int) (out : zCs), x.toInt ≠ 0 → zWo a k q v nm nO m T τ s → 0 ≤ o ∧ o ≤ 6 → (s.1 = 0 → i0 < s.2.2.1 ∧ zIn a A B C c0 p0 τ0 o s τ st out) → zGx a k q v nm nO m A B C c0 p0 τ0 T true o s st out (K x τ)) :
    ∀ (n : Nat) (τ : zS) (s : zA) (o : Int) (st : List Int) (out : zCs), zWo a k q v nm nO m T τ s → 0 ≤ o ∧ o ≤ 6 → (s.1 = 0 → (i0 ≤ s.2.2.1 ∧ 401 < n + s.2.2.1) ∧ zIn a A B C c0 p0 τ0 o s τ st out) → 0 < n → zGx a k q v nm nO m A B C c0 p0 τ0 T true o s st out (F_X11_expression_23 x7 v5 a K n τ) := by
  intro n
  induction n with
  | zero => intro τ s o _ _ _ _ _ h; exact absurd h (by omega)
  | succ n ih =>
    intro τ s o st out h ho hs _
    have e6 : (6 : Int32).toInt = 6 := by decide
    have e1 : (1 : Int32).toInt = 1 := by decide
    rw [F_X11_expression_23]
    simp only [zlt, wIs hT h 6 31 (by decide) (by decide), e6]
    by_cases c : s.1 = 0 ∧ T.1 s.2.2.1 = 31
    · obtain ⟨⟨q0, q1⟩, j1, j2, j3, j4⟩ := hs c.1
      have rm := (h.2.2.2.2 c.1).1
      have rk := hK.2.1
      have nz : 0 < n := by omega
      rw [if_neg (fun z => z c), j1]
      by_cases c2 : o = 6
      · rw [if_pos c2]
        have h1 := wFail' hd h 2 2 (by decide) (by decide)
        have f : (aFail T 2 s).1 ≠ 0 := aFail_1 (by decide)
        have fin : ∀ x z y : Int32, ∀ i : Nat, zGx a k q v nm nO m A B C c0 p0 τ0 T true o (aFail T 2 s) st out (F_X11_expression_23 x7 v5 a K n (zu (zu (F_X11_goesOn a (zu (F_X11_fail a 2 τ).1 a 12 x, (F_X11_fail a 2 τ).2.1, (F_X11_fail a 2 τ).2.2)).1 (((F_X11_goesOn a (zu (F_X11_fail a 2 τ).1 a 12 x, (F_X11_fail a 2 τ).2.1, (F_X11_fail a 2 τ).2.2)).2.2 a 43).getD 0) i y) a 44 z, (F_X11_goesOn a (zu (F_X11_fail a 2 τ).1 a 12 x, (F_X11_fail a 2 τ).2.1, (F_X11_fail a 2 τ).2.2)).2.1, (F_X11_goesOn a (zu (F_X11_fail a 2 τ).1 a 12 x, (F_X11_fail a 2 τ).2.1, (F_X11_fail a 2 τ).2.2)).2.2)) := fun x z y i => by
          have h2 := wRow hd h1 12 x (by unfold zLv; omega)
          have h3 := wOn hd hT hK h2 (fun z => absurd z f) (fun z => absurd z f)
          rw [aOn_f f] at h3
          have h4 := wPush hd h3 i y z
          exact ih _ _ o st out h4.1 ho (fun z => absurd z f) nz
        exact zGx.one (fin _ _ _ _) (fun n => by rw [aX, if_neg (zne c.1), if_neg (by omega), if_neg (by omega), if_pos c.2, aX_f f])
      · rw [if_neg c2]
        have fin : ∀ z y : Int32, ∀ i : Nat, y = 6 → i = ((F_X11_goesOn a (zu τ.1 a 12 (τ.1 a 12 + (1 : Int32)), τ.2.1, τ.2.2)).1 a 44).toNatClampNeg → z = zu (F_X11_goesOn a (zu τ.1 a 12 (τ.1 a 12 + (1 : Int32)), τ.2.1, τ.2.2)).1 (((F_X11_goesOn a (zu τ.1 a 12 (τ.1 a 12 + (1 : Int32)), τ.2.1, τ.2.2)).2.2 a 43).getD 0) i y a 44 + (1 : Int32) → zGx a k q v nm nO m A B C c0 p0 τ0 T true (o + 1) (aTake T 31 s) (6 :: st) out (F_X11_expression_23 x7 v5 a K n (zu (zu (F_X11_goesOn a (zu τ.1 a 12 (τ.1 a 12 + (1 : Int32)), τ.2.1, τ.2.2)).1 (((F_X11_goesOn a (zu τ.1 a 12 (τ.1 a 12 + (1 : Int32)), τ.2.1, τ.2.2)).2.2 a 43).getD 0) i y) a 44 z, (F_X11_goesOn a (zu τ.1 a 12 (τ.1 a 12 + (1 : Int32)), τ.2.1, τ.2.2)).2.1, (F_X11_goesOn a (zu τ.1 a 12 (τ.1 a 12 + (1 : Int32)), τ.2.1, τ.2.2)).2.2)) := fun z y i hy hi hz => by
          have h2 := wRow hd h 12 (τ.1 a 12 + (1 : Int32)) (by unfold zLv; omega)
          have h3 := wOn hd hT hK h2 (fun _ => by omega) (fun _ => by omega)
          rw [aOn_t (w := 31) (fun _ => c.2)] at h3
          have h4 := wPush hd h3 i y z
          have p1 := pOn (p12 j2 (τ.1 a 12 + (1 : Int32)))
          have gA := p1.1.1.1
          rw [gA] at hz h4 ⊢
          have p2 := pPush p1 (by omega) y z (x' := 6) (by rw [hy]; decide) hi (by rw [hz, zu_n _ _ _ (fun w => p1.1.2.1.1 w.symm)])
          refine ih _ _ (o + 1) (6 :: st) out h4.1 (by omega) (fun w => ?_) nz
          have qi := aTake_i w
          refine ⟨⟨by omega, by omega⟩, ?_, p2, ?_, ?_⟩
          · show (zu (zu _ A _ _) a 44 _ a 12 : Int32).toInt = _
            rw [h4.2, wOn12']
            show (zu τ.1 a 12 _ a 12).toInt = _
            rw [zu_s, zb_add (by rw [j1, e1]; omega) (by rw [j1, e1]; omega), j1, e1]
          · rw [br, if_pos rfl, j3]
            omega
          · rw [List.length_cons, qi.2.2.1]
            omega
        exact zGx.one (fin _ _ _ rfl rfl rfl) (fun n => by rw [aX, if_neg (zne c.1), if_neg (by omega), if_pos (by omega)])
    · rw [if_pos c]
      have h1 := wUnit hd hT hK h
      have f1 := h1.1.2.1
      have g1 := h1.1.2.2.1
      by_cases c3 : (aU T s).1 = 0
      · rw [if_neg (by omega)]
        have qi := aU_i c3
        have cu : T.1 s.2.2.1 = 23 ∨ (13 ≤ T.1 s.2.2.1 ∧ T.1 s.2.2.1 < 22) := by
          apply Classical.byContradiction
          intro z
          unfold aU at c3
          rw [if_neg (zne qi.1), if_neg z] at c3
          exact aFail_1 (by decide) c3
        obtain ⟨⟨q0, q1⟩, j1, j2, j3, j4⟩ := hs qi.1
        have rm := (h.2.2.2.2 qi.1).1
        have rk := hK.2.1
        have p1 := pUnit hT h j2 (by omega) qi.1 cu
        have el : (out ++ [aUc T s]).length = out.length + 1 := by rw [List.length_append]; rfl
        refine zGx.one (b' := false) (o' := o) (s1 := aU T s) (st1 := st) (out1 := out ++ [aUc T s]) ?_ (fun n => by rw [aX_u c, if_pos ⟨qi.1, cu⟩])
        exact y96 hd hT hK hc0 hv5 K _ i0 hk 10000 _ _ o st _ h1.1 ho (fun z => ⟨⟨by omega, by omega⟩, by rw [h1.2]; exact j1, p1, j3, by rw [el]; omega⟩) (by omega)
      · rw [if_pos (by omega)]
        by_cases cu : s.1 = 0 ∧ (T.1 s.2.2.1 = 23 ∨ (13 ≤ T.1 s.2.2.1 ∧ T.1 s.2.2.1 < 22))
        · refine ⟨aU T s, out ++ [aUc T s], h1.1, fun z => absurd z c3, 1, fun n => ?_⟩
          rw [aX_u c, if_pos cu, aX_f c3]
        · refine ⟨aU T s, out, h1.1, fun z => absurd z c3, 1, fun n => ?_⟩
          rw [aX_u c, if_neg cu]
theorem y12 (hd : zWd a k q v nm nO) (hT : zTm T m) (hK : zTK T m) (hc0 : c0 ≤ 2000) {v5 : Int32} (hv5 : v5.toInt = 0) :
    ∀ (n : Nat) (x : Int32) (τ : zS) (s : zA) (o : Int) (st : List Int) (out : zCs), x.toInt ≠ 0 → zWo a k q v nm nO m T τ s → 0 ≤ o ∧ o ≤ 6 → (s.1 = 0 → 401 < n + s.2.2.1 ∧ zIn a A B C c0 p0 τ0 o s τ st out) → 0 < n → zGx a k q v nm nO m A B C c0 p0 τ0 T true o s st out (F_X11_expression_12 v5 a n x τ) := by
  intro n
  induction n with
  | zero => intro x τ s o _ _ _ _ _ _ h; exact absurd h (by omega)
  | succ n ih =>
    intro x τ s o st out hx h ho hs _
    rw [F_X11_expression_12]
    simp only [zlt]
    rw [if_neg hx, h.2.1]
    by_cases c : s.1 = 0
    · rw [if_pos c]
      obtain ⟨q1, q2⟩ := hs c
      have rm := (h.2.2.2.2 c).1
      have rk := hK.2.1
      exact y23 hd hT hK hc0 hv5 _ s.2.2.1 (fun x' τ' s' o' st' out' hx' h' ho' hs' => ih x' τ' s' o' st' out' hx' h' ho' (fun z => ⟨by have := (hs' z).1; omega, (hs' z).2⟩) (by omega)) 10000 τ s o st out h ho (fun _ => ⟨⟨Nat.le_refl _, by omega⟩, q2⟩) (by omega)
    · rw [if_neg c]
      exact zGx.flt h c
/-- an expression: its codes behind those that stand there -/
theorem yExpr (hd : zWd a k q v nm nO) (hT : zTm T m) (hK : zTK T m) (h : zXo a k q v nm nO m T τ s) (hD : zD3 a A B C τ.2.2) (h38 : (τ.1 a 38).toInt = c0) (hc0 : c0 ≤ 2000) (c : s.1 = 0) (hz : (aSum T s).1 = 0) : zHo B C (F_X11_expression a τ) c0 (aCo T s) ∧ ((F_X11_expression a τ).1 a 38).toInt = c0 + (aCo T s).length ∧ (aCo T s).length + s.2.2.1 ≤ (aSum T s).2.2.1 ∧ ∀ i, i < c0 → (F_X11_expression a τ).1 B i = τ.1 B i ∧ (F_X11_expression a τ).1 C i = τ.1 C i := by
  have h1 := xRow hd h 44 0 (by unfold zLv; omega) (by decide)
  have e12 : zu τ.1 a 44 (0 : Int32) a 12 = τ.1 a 12 := zu_j _ _ _ _ _ (by decide)
  unfold F_X11_expression
  simp only [zlt]
  rw [e12]
  have rm := (h.1.2.2.2.2 c).1
  have rk := hK.2.1
  have i0 : zPi a A B C c0 τ (zu τ.1 a 44 0, τ.2.1, τ.2.2) [] [] := ⟨hD, by show (zu τ.1 a 44 (0 : Int32) a 44).toInt = _; rw [zu_s]; rfl, trivial, by show (zu τ.1 a 44 (0 : Int32) a 38).toInt = _; rw [zu_j _ _ _ _ _ (by decide), h38]; show (c0 : Int) = c0 + ((0 : Nat) : Int); omega, trivial, fun i _ => ⟨by show zu τ.1 a 44 (0 : Int32) B i = _; rw [zu_n _ _ _ hD.2.1.2.1], by show zu τ.1 a 44 (0 : Int32) C i = _; rw [zu_n _ _ _ hD.2.1.2.2]⟩⟩
  obtain ⟨s', out', u1, u2, e, u3⟩ := y12 (p0 := s.2.2.1) (τ0 := τ) hd hT hK hc0 (h.2 c) 10000 1 _ s 0 [] [] (by decide) h1.1 (by omega) (fun z => ⟨by omega, h1.2 z, i0, rfl, by show 0 + 0 + s.2.2.1 ≤ s.2.2.1; omega⟩) (by omega)
  obtain ⟨w1, w2⟩ := aCo_e u3 (fun _ => by omega)
  rw [w1] at hz
  obtain ⟨z1, z2, z3⟩ := u2 hz
  rw [w1, w2]
  exact ⟨z2.2.2.2.2.1, z2.2.2.2.1, z3, z2.2.2.2.2.2⟩
end RX2
