-- 35x70.lw3
section
/-! THE REFERENCE'S EXPRESSION, with the codes it puts down -/
/-- where an expression stands, all well -/
def zIn (a A B C c0 p0 : Nat) (τ0 : zS) (o : Int) (s : zA) (τ : zS) (st : List Int) (out : zCs) : Prop := (τ.1 a 12).toInt = o ∧ zPi a A B C c0 τ0 τ st out ∧ br st = o ∧ st.length + out.length + p0 ≤ s.2.2.1
def zGx (a k q v nm nO m A B C c0 p0 : Nat) (τ0 : zS) (T : zTn) (b : Bool) (o : Int) (s : zA) (st : List Int) (out : zCs) (τ' : zS) : Prop := ∃ (s' : zA) (out' : zCs), zWo a k q v nm nO m T τ' s' ∧ (s'.1 = 0 → (τ'.1 a 12).toInt = 0 ∧ zPi a A B C c0 τ0 τ' [] out' ∧ out'.length + p0 ≤ s'.2.2.1) ∧ ∃ e, ∀ n, aX T (n + e) b o s st out = (s', out')
theorem zrho_n6 {x : Int} (h1 : 26 ≤ x) (h2 : x ≤ 29) : ¬ zrho x = 6 := by
  have h : x = 26 ∨ x = 27 ∨ x = 28 ∨ x = 29 := by omega
  rcases h with rfl | rfl | rfl | rfl <;> decide
section RX2
variable {a k q v nm nO m A B C c0 p0 : Nat} {T : zTn} {τ0 τ τ' : zS} {s : zA} {st : List Int} {out : zCs}
theorem zGx.one {o o' : Int} {b b' : Bool} {s1 : zA} {st1 : List Int} {out1 : zCs} (h : zGx a k q v nm nO m A B C c0 p0 τ0 T b' o' s1 st1 out1 τ') (e : ∀ n, aX T (n + 1) b o s st out = aX T n b' o' s1 st1 out1) : zGx a k q v nm nO m A B C c0 p0 τ0 T b o s st out τ' := by
  obtain ⟨s', out', h1, h2, x, h3⟩ := h
  exact ⟨s', out', h1, h2, x + 1, fun n => by rw [← Nat.add_assoc, e, h3]⟩
theorem zGx.flt {o : Int} {b : Bool} (h : zWo a k q v nm nO m T τ' s) (c : s.1 ≠ 0) : zGx a k q v nm nO m A B C c0 p0 τ0 T b o s st out τ' := ⟨s, out, h, fun z => absurd z c, 0, fun n => aX_f c _ _ _ _ _⟩
theorem pOn (h : zPi a A B C c0 τ0 τ st out) : zPi a A B C c0 τ0 (F_X11_goesOn a τ) st out := h.fi (fi_X11_goesOn zFi.id ⟨rfl, by decide, by decide⟩ ⟨rfl, by decide, by decide⟩ ⟨rfl, by decide, by decide⟩)
theorem p12 (h : zPi a A B C c0 τ0 τ st out) (x : Int32) : zPi a A B C c0 τ0 (zu τ.1 a 12 x, τ.2.1, τ.2.2) st out := h.fi (zFi.id.w ⟨rfl, by decide, by decide⟩)
/-- a unit -/
theorem pUnit (hT : zTm T m) (h : zWo a k q v nm nO m T τ s) (hi : zPi a A B C c0 τ0 τ st out) (hb : c0 + out.length ≤ 4000) (c : s.1 = 0) (hu : T.1 s.2.2.1 = 23 ∨ (13 ≤ T.1 s.2.2.1 ∧ T.1 s.2.2.1 < 22)) : zPi a A B C c0 τ0 (F_X11_unit a τ) st (out ++ [aUc T s]) := by
  have e5 : (τ.2.2 a 5).getD 0 = k := by rw [h.1.1.1]; rfl
  have e7 : (τ.2.2 a 7).getD 0 = v := by rw [h.1.1.2.2.1]; rfl
  have e33 : (33 : Int32).toInt = 33 := by decide
  have e41 : (41 : Int32).toInt = 41 := by decide
  obtain ⟨r1, r2, -⟩ := h.2.2.2.2 c
  have ei : (τ.1 a 11).toNatClampNeg = s.2.2.1 := by rw [ztn, r2]; rfl
  have rg := hT.2.1 _ r1
  have kz := (h.1.2.1 _ r1).1
  unfold F_X11_unit
  simp only [zlt, wIs hT h 2 23 (by decide) (by decide), e5, e7, e33, e41, ei, kz]
  by_cases c1 : T.1 s.2.2.1 = 23
  · rw [if_neg (fun z => z ⟨c, c1⟩)]
    refine pOn (pEmit hi hb _ _ (x' := (aUc T s).1) (y' := (aUc T s).2) ?_ ?_)
    · unfold aUc
      rw [if_pos c1]
      exact (by decide : (0 : Int32).toInt = 0)
    · unfold aUc
      rw [if_pos c1]
      exact (h.1.2.1 _ r1).2.2.1 c1
  · have zv := zrho_var rg.1 rg.2
    rw [if_pos (fun z => c1 z.2), if_pos (h.2.1.trans c), if_neg (by omega), if_neg (by omega)]
    refine pOn (pEmit hi hb _ _ (x' := (aUc T s).1) (y' := (aUc T s).2) ?_ ?_)
    · unfold aUc
      rw [if_neg c1]
      exact (by decide : (1 : Int32).toInt = 1)
    · unfold aUc
      rw [if_neg c1, zb_sub (by rw [kz, e33]; omega) (by rw [kz, e33]; omega), kz, e33]
      have : zrho (T.1 s.2.2.1) = 20 + T.1 s.2.2.1 := by unfold zrho; rw [if_pos (by omega)]
      rw [this]
      show _ = T.1 s.2.2.1 - 13
      omega
theorem y96 (hd : zWd a k q v nm nO) (hT : zTm T m) (hK : zTK T m) (hc0 : c0 ≤ 2000) {x7 v5 : Int32} (hv5 : v5.toInt = 0) (K : Int32 → zS → zS) (K2 : zS → zS) (i0 : Nat)
    (hk : ∀ (x : Int32) (τ : zS) (s : zA) (o : Int) (st : List Int) (out : zCs), x.toInt ≠ 0 → zWo a k q v nm nO m T τ s → 0 ≤ o ∧ o ≤ 6 → (s.1 = 0 → i0 < s.2.2.1 ∧ zIn a A B C c0 p0 τ0 o s τ st out) → zGx a k q v nm nO m A B C c0 p0 τ0 T true o s st out (K x τ)) :
    ∀ (n : Nat) (τ : zS) (s : zA) (o : Int) (st : List Int) (out : zCs), zWo a k q v nm nO m T τ s → 0 ≤ o ∧ o ≤ 6 → (s.1 = 0 → (i0 ≤ s.2.2.1 ∧ 401 < n + s.2.2.1) ∧ zIn a A B C c0 p0 τ0 o s τ st out) → 0 < n → zGx a k q v nm nO m A B C c0 p0 τ0 T false o s st out (F_X11_expression_96 x7 v5 a K K2 n τ) := by
  intro n
  induction n with
  | zero => intro τ s o _ _ _ _ _ h; exact absurd h (by omega)
  | succ n ih =>
    intro τ s o st out h ho hs _
    have c00 : ((0 : Int32).toInt = 0) = True := by decide
    have c10 : ((1 : Int32).toInt = 0) = False := by decide
    have i7 := wIs hT h 7 32 (by decide) (by decide)
    have i8 := wIs hT h 8 26 (by decide) (by decide)
    have i9 := wIs hT h 9 27 (by decide) (by decide)
    have i10 := wIs hT h 10 28 (by decide) (by decide)
    have i15 := wIs hT h 15 29 (by decide) (by decide)
    have sgn : ∀ (p x : Int32), x.toInt ≠ 0 → s.1 = 0 → 26 ≤ T.1 s.2.2.1 → T.1 s.2.2.1 ≤ 29 → (28 ≤ T.1 s.2.2.1 ↔ p.toInt ≠ 0) → ∀ (y z : Int32) (i : Nat), i = ((F_X11_comesOut a p τ).1 a 44).toNatClampNeg → y = (F_X11_comesOut a p τ).1 (((F_X11_comesOut a p τ).2.2 a 5).getD 0) ((F_X11_comesOut a p τ).1 a 11).toNatClampNeg → z = zu (F_X11_comesOut a p τ).1 (((F_X11_comesOut a p τ).2.2 a 43).getD 0) i y a 44 + (1 : Int32) → zGx a k q v nm nO m A B C c0 p0 τ0 T false o s st out (K x (F_X11_goesOn a (zu (zu (F_X11_comesOut a p τ).1 (((F_X11_comesOut a p τ).2.2 a 43).getD 0) i y) a 44 z, (F_X11_comesOut a p τ).2.1, (F_X11_comesOut a p τ).2.2))) := fun p x hx c c1 c2 hp y z i hi hy hz => by
      obtain ⟨⟨q0, q1⟩, j1, j2, j3, j4⟩ := hs c
      have rm := (h.2.2.2.2 c).1
      have rk := hK.2.1
      have h1 := wComes hd h p
      have h2 := wPush hd h1.1 i y z
      have h3 := wOn hd hT hK h2.1 (fun _ => by omega) (fun _ => by omega)
      rw [← aTake_on (w := T.1 s.2.2.1) rfl] at h3
      have bp : decide (28 ≤ T.1 s.2.2.1) = true ↔ p.toInt ≠ 0 := by rw [decide_eq_true_eq]; exact hp
      have p1 := pComes bp j2 (by omega)
      have pl1 := pl_len (p := decide (28 ≤ T.1 s.2.2.1)) st out
      have gA := p1.1.1.1
      have gk : ((F_X11_comesOut a p τ).2.2 a 5).getD 0 = k := by rw [h1.1.1.1.1]; rfl
      obtain ⟨t1, t2, -⟩ := h1.1.2.2.2.2 c
      have yv : y.toInt = zrho (T.1 s.2.2.1) := by
        rw [hy, gk, show ((F_X11_comesOut a p τ).1 a 11).toNatClampNeg = s.2.2.1 by rw [ztn, t2]; rfl]
        exact (h1.1.1.2.1 _ t1).1
      rw [gA] at hz h3 ⊢
      have p2 := pPush p1 (by omega) y z yv hi (by rw [hz, zu_n _ _ _ (fun w => p1.1.2.1.1 w.symm)])
      refine zGx.one (hk x _ _ o _ _ hx h3 ho (fun w => ?_)) (fun n => by rw [aX, if_neg (zne c), if_pos ⟨c1, c2⟩])
      have qi := aTake_i w
      refine ⟨by omega, ?_, pOn p2, ?_, ?_⟩
      · rw [wOn12']
        show (zu (zu _ A _ _) a 44 _ a 12 : Int32).toInt = o
        rw [gA] at h2
        rw [h2.2, h1.2]
        exact j1
      · rw [br, if_neg (zrho_n6 c1 c2), pl_br, j3]
        omega
      · rw [List.length_cons, qi.2.2.1]
        omega
    have none : Unit → (s.1 = 0 → ¬ (26 ≤ T.1 s.2.2.1 ∧ T.1 s.2.2.1 ≤ 29)) → (s.1 = 0 → T.1 s.2.2.1 = 32 → o = 0) → zGx a k q v nm nO m A B C c0 p0 τ0 T false o s st out (if v5.toInt < (τ.1 a 12).toInt then F_X11_comesOut a 0 (F_X11_fail a 1 τ) else F_X11_comesOut a 0 τ) := fun _ n1 n2 => by
      by_cases c : s.1 = 0
      · obtain ⟨⟨q0, q1⟩, j1, j2, j3, j4⟩ := hs c
        have rm := (h.2.2.2.2 c).1
        have rk := hK.2.1
        rw [hv5, j1]
        by_cases c2 : 0 < o
        · rw [if_pos c2]
          have h1 := wFail' hd h 1 1 (by decide) (by decide)
          have h2 := wComes hd h1 0
          refine ⟨_, out, h2.1, fun z => absurd z (aFail_1 (by decide)), 1, fun n => ?_⟩
          rw [aX, if_neg (zne c), if_neg (n1 c), if_pos c2, if_neg (fun z => by have := n2 c z; omega)]
        · rw [if_neg c2]
          have h2 := wComes hd h 0
          have p1 := pComes (b := false) (p := 0) ⟨fun z => absurd z (by decide), fun z => absurd (by decide) z⟩ j2 (by omega)
          have z1 := pl_0 st out (by omega)
          have l1 := pl_len (p := false) st out
          rw [z1] at p1 l1
          refine ⟨s, (pl false st out).2, h2.1, fun _ => ⟨by rw [h2.2, j1]; omega, p1, ?_⟩, 1, fun n => ?_⟩
          · rw [List.length_nil] at l1
            omega
          · rw [aX, if_neg (zne c), if_neg (n1 c), if_neg c2]
      · split
        · have h1 := wFail' hd h 1 1 (by decide) (by decide)
          rw [aFail_f c] at h1
          exact zGx.flt (wComes hd h1 0).1 c
        · exact zGx.flt (wComes hd h 0).1 c
    rw [F_X11_expression_96]
    simp only [zlt, c00, c10, if_true, if_false]
    by_cases d7 : s.1 = 0 ∧ T.1 s.2.2.1 = 32
    · obtain ⟨⟨q0, q1⟩, j1, j2, j3, j4⟩ := hs d7.1
      have rm := (h.2.2.2.2 d7.1).1
      have rk := hK.2.1
      have j7 : ((F_X11_is a (7 : Int32) τ).toInt = 0) = False := by rw [i7]; simp [d7.1, d7.2]
      have j8 : ((F_X11_is a (8 : Int32) τ).toInt = 0) = True := by rw [i8]; simp [d7.1, d7.2]
      have j9 : ((F_X11_is a (9 : Int32) τ).toInt = 0) = True := by rw [i9]; simp [d7.1, d7.2]
      have j10 : ((F_X11_is a (10 : Int32) τ).toInt = 0) = True := by rw [i10]; simp [d7.1, d7.2]
      have j15 : ((F_X11_is a (15 : Int32) τ).toInt = 0) = True := by rw [i15]; simp [d7.1, d7.2]
      simp only [j7, j8, j9, j10, j15, if_true, if_false]
      rw [hv5, j1]
      by_cases c2 : 0 < o
      · rw [if_pos c2]
        have h1 := wComes hd h 0
        have h2 := wRow hd h1.1 44 ((F_X11_comesOut a 0 τ).1 a 44 - (1 : Int32)) (by unfold zLv; omega)
        have h3 := wRow hd h2 12 ((zu (F_X11_comesOut a 0 τ).1 a 44 ((F_X11_comesOut a 0 τ).1 a 44 - (1 : Int32))) a 12 - (1 : Int32)) (by unfold zLv; omega)
        have h4 := wOn hd hT hK h3 (fun _ => by omega) (fun _ => by omega)
        rw [← aTake_on (w := 32) d7.2] at h4
        have p1 := pComes (b := false) (p := 0) ⟨fun z => absurd z (by decide), fun z => absurd (by decide) z⟩ j2 (by omega)
        have l1 := pl_len (p := false) st out
        obtain ⟨st', z1, z2⟩ := pl_6 st out (by omega)
        rw [z1] at p1 l1
        rw [List.length_cons] at l1
        have p2 := pPop p1 (by omega) rfl
        refine zGx.one (ih _ _ (o - 1) st' (pl false st out).2 h4 (by omega) (fun z => ?_) (by omega)) (fun n => by rw [aX, if_neg (zne d7.1), if_neg (by omega), if_pos c2, if_pos d7.2, z1]; rfl)
        have qi := aTake_i z
        have e1 : (1 : Int32).toInt = 1 := by decide
        refine ⟨⟨by omega, by omega⟩, ?_, pOn (p12 p2 _), by omega, by omega⟩
        rw [wOn12']
        show (zu (zu (F_X11_comesOut a 0 τ).1 a 44 _) a 12 _ a 12).toInt = _
        rw [zu_s, zu_j _ _ _ _ _ (by decide), h1.2, zb_sub (by rw [j1, e1]; omega) (by rw [j1, e1]; omega), j1, e1]
      · rw [if_neg c2]
        have := none () (fun _ => by omega) (fun _ _ => by omega)
        rw [hv5, j1] at this
        exact this
    · have j7 : ((F_X11_is a (7 : Int32) τ).toInt = 0) = True := by rw [i7]; simp [d7]
      simp only [j7, if_true]
      by_cases d8 : s.1 = 0 ∧ T.1 s.2.2.1 = 26
      · have j8 : ((F_X11_is a (8 : Int32) τ).toInt = 0) = False := by rw [i8]; simp [d8.1, d8.2]
        have j10 : ((F_X11_is a (10 : Int32) τ).toInt = 0) = True := by rw [i10]; simp [d8.1, d8.2]
        have j15 : ((F_X11_is a (15 : Int32) τ).toInt = 0) = True := by rw [i15]; simp [d8.1, d8.2]
        simp only [j8, j10, j15, if_true, if_false]
        exact sgn 0 1 (by decide) d8.1 (by omega) (by omega) ⟨fun z => by omega, fun z => absurd (by decide) z⟩ _ _ _ rfl rfl rfl
      have j8 : ((F_X11_is a (8 : Int32) τ).toInt = 0) = True := by rw [i8]; simp [d8]
      simp only [j8, if_true]
      by_cases d9 : s.1 = 0 ∧ T.1 s.2.2.1 = 27
      · have j9 : ((F_X11_is a (9 : Int32) τ).toInt = 0) = False := by rw [i9]; simp [d9.1, d9.2]
        have j10 : ((F_X11_is a (10 : Int32) τ).toInt = 0) = True := by rw [i10]; simp [d9.1, d9.2]
        have j15 : ((F_X11_is a (15 : Int32) τ).toInt = 0) = True := by rw [i15]; simp [d9.1, d9.2]
        simp only [j9, j10, j15, if_true, if_false]
        exact sgn 0 1 (by decide) d9.1 (by omega) (by omega) ⟨fun z => by omega, fun z => absurd (by decide) z⟩ _ _ _ rfl rfl rfl
      have j9 : ((F_X11_is a (9 : Int32) τ).toInt = 0) = True := by rw [i9]; simp [d9]
      simp only [j9, if_true]
      by_cases d10 : s.1 = 0 ∧ T.1 s.2.2.1 = 28
      · have j10 : ((F_X11_is a (10 : Int32) τ).toInt = 0) = False := by rw [i10]; simp [d10.1, d10.2]
        simp only [j10, if_false]
        exact sgn 1 1 (by decide) d10.1 (by omega) (by omega) ⟨fun _ => by decide, fun _ => by omega⟩ _ _ _ rfl rfl rfl
      have j10 : ((F_X11_is a (10 : Int32) τ).toInt = 0) = True := by rw [i10]; simp [d10]
      simp only [j10, if_true]
      by_cases d15 : s.1 = 0 ∧ T.1 s.2.2.1 = 29
      · have j15 : ((F_X11_is a (15 : Int32) τ).toInt = 0) = False := by rw [i15]; simp [d15.1, d15.2]
        simp only [j15, if_false]
        exact sgn 1 1 (by decide) d15.1 (by omega) (by omega) ⟨fun _ => by decide, fun _ => by omega⟩ _ _ _ rfl rfl rfl
      have j15 : ((F_X11_is a (15 : Int32) τ).toInt = 0) = True := by rw [i15]; simp [d15]
      simp only [j15, if_true]
      exact none () (fun z => by omega) (fun z1 z2 => absurd ⟨z1, z2⟩ d7)
theorem aX_u {o : Int} (c : ¬ (s.1 = 0 ∧ T.1 s.2.2.1 = 31)) (n : Nat) : aX T (n + 1) true o s st out = if s.1 = 0 ∧ (T.1 s.2.2.1 = 23 ∨ (13 ≤ T.1 s.2.2.1 ∧ T.1 s.2.2.1 < 22)) then aX T n false o (aU T s) st (out ++ [aUc T s]) else (aU T s, out) := by
  by_cases c0 : s.1 = 0
  · rw [aX, if_neg (zne c0)]
    unfold aU
    rw [if_neg (zne c0)]
    by_cases c1 : T.1 s.2.2.1 = 23 ∨ (13 ≤ T.1 s.2.2.1 ∧ T.1 s.2.2.1 < 22)
    · rw [if_pos c1, if_pos c1, if_pos ⟨c0, c1⟩, aOn_t (w := T.1 s.2.2.1) (fun _ => rfl)]
    · rw [if_neg c1, if_neg c1, if_neg (fun z => c ⟨c0, z.1⟩), if_neg (fun z => c ⟨c0, z⟩), if_neg (fun z => c1 z.2)]
  · have e : aU T s = s := by
      unfold aU
      rw [if_pos c0]
    rw [e, aX_f c0, if_neg (fun z => c0 z.1)]
theorem y23 (hd : zWd a k q v nm nO) (hT : zTm T m) (hK : zTK T m) (hc0 : c0 ≤ 2000) {x7 v5 : Int32} (hv5 : v5.toInt = 0) (K : Int32 → zS → zS) (i0 : Nat)
    (hk : ∀ (x : Int32) (τ : zS) (s : zA) (o : Int) (st : List Int) (out : zCs), x.toInt ≠ 0 → zWo a k q v nm nO m T τ s → 0 ≤ o ∧ o ≤ 6 → (s.1 = 0 → i0 < s.2.2.1 ∧ zIn a A B C c0 p0 τ0 o s τ st out) → zGx a k q v nm nO m A B C c0 p0 τ0 T true o s st out (K x τ)) :
    ∀ (n : Nat) (τ : zS) (s : zA) (o : Int) (st : List Int) (out : zCs), zWo a k q v nm nO m T τ s → 0 ≤ o ∧ o ≤ 6 → (s.1 = 0 → (i0 ≤ s.2.2.1 ∧ 401 < n + s.2.2.1) ∧ zIn a A B C c0 p0 τ0 o s τ st out) → 0 < n → zGx a k q v nm nO m A B C c0 p0 τ0 T true o s st out (F_X11_expression_23 x7 v5 a K n τ) := by
  intro n
  induction n with
  | zero => intro τ s o _ _ _ _ _ h; exact absurd h (by omega)
  | succ n ih =>
    intro τ s o st out h ho hs _
    have e6 : (6 : Int32).toInt = 6 := by decide
    have e1 : (1 : Int32).toInt = 1 := by decide
    rw [F_X11_expression_23]
    simp only [zlt, wIs hT h 6 31 (by decide) (by decide), e6]
    by_cases c : s.1 = 0 ∧ T.1 s.2.2.1 = 31
    · obtain ⟨⟨q0, q1⟩, j1, j2, j3, j4⟩ := hs c.1
      have rm := (h.2.2.2.2 c.1).1
      have rk := hK.2.1
      have nz : 0 < n := by omega
      rw [if_neg (fun z => z c), j1]
      by_cases c2 : o = 6
      · rw [if_pos c2]
        have h1 := wFail' hd h 2 2 (by decide) (by decide)
        have f : (aFail T 2 s).1 ≠ 0 := aFail_1 (by decide)
        have fin : ∀ x z y : Int32, ∀ i : Nat, zGx a k q v nm nO m A B C c0 p0 τ0 T true o (aFail T 2 s) st out (F_X11_expression_23 x7 v5 a K n (zu (zu (F_X11_goesOn a (zu (F_X11_fail a 2 τ).1 a 12 x, (F_X11_fail a 2 τ).2.1, (F_X11_fail a 2 τ).2.2)).1 (((F_X11_goesOn a (zu (F_X11_fail a 2 τ).1 a 12 x, (F_X11_fail a 2 τ).2.1, (F_X11_fail a 2 τ).2.2)).2.2 a 43).getD 0) i y) a 44 z, (F_X11_goesOn a (zu (F_X11_fail a 2 τ).1 a 12 x, (F_X11_fail a 2 τ).2.1, (F_X11_fail a 2 τ).2.2)).2.1, (F_X11_goesOn a (zu (F_X11_fail a 2 τ).1 a 12 x, (F_X11_fail a 2 τ).2.1, (F_X11_fail a 2 τ).2.2)).2.2)) := fun x z y i => by
          have h2 := wRow hd h1 12 x (by unfold zLv; omega)
          have h3 := wOn hd hT hK h2 (fun z => absurd z f) (fun z => absurd z f)
          rw [aOn_f f] at h3
          have h4 := wPush hd h3 i y z
          exact ih _ _ o st out h4.1 ho (fun z => absurd z f) nz
        exact zGx.one (fin _ _ _ _) (fun n => by rw [aX, if_neg (zne c.1), if_neg (by omega), if_neg (by omega), if_pos c.2, aX_f f])
      · rw [if_neg c2]
        have fin : ∀ z y : Int32, ∀ i : Nat, y = 6 → i = ((F_X11_goesOn a (zu τ.1 a 12 (τ.1 a 12 + (1 : Int32)), τ.2.1, τ.2.2)).1 a 44).toNatClampNeg → z = zu (F_X11_goesOn a (zu τ.1 a 12 (τ.1 a 12 + (1 : Int32)), τ.2.1, τ.2.2)).1 (((F_X11_goesOn a (zu τ.1 a 12 (τ.1 a 12 + (1 : Int32)), τ.2.1, τ.2.2)).2.2 a 43).getD 0) i y a 44 + (1 : Int32) → zGx a k q v nm nO m A B C c0 p0 τ0 T true (o + 1) (aTake T 31 s) (6 :: st) out (F_X11_expression_23 x7 v5 a K n (zu (zu (F_X11_goesOn a (zu τ.1 a 12 (τ.1 a 12 + (1 : Int32)), τ.2.1, τ.2.2)).1 (((F_X11_goesOn a (zu τ.1 a 12 (τ.1 a 12 + (1 : Int32)), τ.2.1, τ.2.2)).2.2 a 43).getD 0) i y) a 44 z, (F_X11_goesOn a (zu τ.1 a 12 (τ.1 a 12 + (1 : Int32)), τ.2.1, τ.2.2)).2.1, (F_X11_goesOn a (zu τ.1 a 12 (τ.1 a 12 + (1 : Int32)), τ.2.1, τ.2.2)).2.2)) := fun z y i hy hi hz => by
          have h2 := wRow hd h 12 (τ.1 a 12 + (1 : Int32)) (by unfold zLv; omega)
          have h3 := wOn hd hT hK h2 (fun _ => by omega) (fun _ => by omega)
          rw [aOn_t (w := 31) (fun _ => c.2)] at h3
          have h4 := wPush hd h3 i y z
          have p1 := pOn (p12 j2 (τ.1 a 12 + (1 : Int32)))
          have gA := p1.1.1.1
          rw [gA] at hz h4 ⊢
          have p2 := pPush p1 (by omega) y z (x' := 6) (by rw [hy]; decide) hi (by rw [hz, zu_n _ _ _ (fun w => p1.1.2.1.1 w.symm)])
          refine ih _ _ (o + 1) (6 :: st) out h4.1 (by omega) (fun w => ?_) nz
          have qi := aTake_i w
          refine ⟨⟨by omega, by omega⟩, ?_, p2, ?_, ?_⟩
          · show (zu (zu _ A _ _) a 44 _ a 12 : Int32).toInt = _
            rw [h4.2, wOn12']
            show (zu τ.1 a 12 _ a 12).toInt = _
            rw [zu_s, zb_add (by rw [j1, e1]; omega) (by rw [j1, e1]; omega), j1, e1]
          · rw [br, if_pos rfl, j3]
            omega
          · rw [List.length_cons, qi.2.2.1]
            omega
        exact zGx.one (fin _ _ _ rfl rfl rfl) (fun n => by rw [aX, if_neg (zne c.1), if_neg (by omega), if_pos (by omega)])
    · rw [if_pos c]
      have h1 := wUnit hd hT hK h
      have f1 := h1.1.2.1
      have g1 := h1.1.2.2.1
      by_cases c3 : (aU T s).1 = 0
      · rw [if_neg (by omega)]
        have qi := aU_i c3
        have cu : T.1 s.2.2.1 = 23 ∨ (13 ≤ T.1 s.2.2.1 ∧ T.1 s.2.2.1 < 22) := by
          apply Classical.byContradiction
          intro z
          unfold aU at c3
          rw [if_neg (zne qi.1), if_neg z] at c3
          exact aFail_1 (by decide) c3
        obtain ⟨⟨q0, q1⟩, j1, j2, j3, j4⟩ := hs qi.1
        have rm := (h.2.2.2.2 qi.1).1
        have rk := hK.2.1
        have p1 := pUnit hT h j2 (by omega) qi.1 cu
        have el : (out ++ [aUc T s]).length = out.length + 1 := by rw [List.length_append]; rfl
        refine zGx.one (b' := false) (o' := o) (s1 := aU T s) (st1 := st) (out1 := out ++ [aUc T s]) ?_ (fun n => by rw [aX_u c, if_pos ⟨qi.1, cu⟩])
        exact y96 hd hT hK hc0 hv5 K _ i0 hk 10000 _ _ o st _ h1.1 ho (fun z => ⟨⟨by omega, by omega⟩, by rw [h1.2]; exact j1, p1, j3, by rw [el]; omega⟩) (by omega)
      · rw [if_pos (by omega)]
        by_cases cu : s.1 = 0 ∧ (T.1 s.2.2.1 = 23 ∨ (13 ≤ T.1 s.2.2.1 ∧ T.1 s.2.2.1 < 22))
        · refine ⟨aU T s, out ++ [aUc T s], h1.1, fun z => absurd z c3, 1, fun n => ?_⟩
          rw [aX_u c, if_pos cu, aX_f c3]
        · refine ⟨aU T s, out, h1.1, fun z => absurd z c3, 1, fun n => ?_⟩
          rw [aX_u c, if_neg cu]
theorem y12 (hd : zWd a k q v nm nO) (hT : zTm T m) (hK : zTK T m) (hc0 : c0 ≤ 2000) {v5 : Int32} (hv5 : v5.toInt = 0) :
    ∀ (n : Nat) (x : Int32) (τ : zS) (s : zA) (o : Int) (st : List Int) (out : zCs), x.toInt ≠ 0 → zWo a k q v nm nO m T τ s → 0 ≤ o ∧ o ≤ 6 → (s.1 = 0 → 401 < n + s.2.2.1 ∧ zIn a A B C c0 p0 τ0 o s τ st out) → 0 < n → zGx a k q v nm nO m A B C c0 p0 τ0 T true o s st out (F_X11_expression_12 v5 a n x τ) := by
  intro n
  induction n with
  | zero => intro x τ s o _ _ _ _ _ _ h; exact absurd h (by omega)
  | succ n ih =>
    intro x τ s o st out hx h ho hs _
    rw [F_X11_expression_12]
    simp only [zlt]
    rw [if_neg hx, h.2.1]
    by_cases c : s.1 = 0
    · rw [if_pos c]
      obtain ⟨q1, q2⟩ := hs c
      have rm := (h.2.2.2.2 c).1
      have rk := hK.2.1
      exact y23 hd hT hK hc0 hv5 _ s.2.2.1 (fun x' τ' s' o' st' out' hx' h' ho' hs' => ih x' τ' s' o' st' out' hx' h' ho' (fun z => ⟨by have := (hs' z).1; omega, (hs' z).2⟩) (by omega)) 10000 τ s o st out h ho (fun _ => ⟨⟨Nat.le_refl _, by omega⟩, q2⟩) (by omega)
    · rw [if_neg c]
      exact zGx.flt h c
/-- an expression: its codes behind those that stand there -/
theorem yExpr (hd : zWd a k q v nm nO) (hT : zTm T m) (hK : zTK T m) (h : zXo a k q v nm nO m T τ s) (hD : zD3 a A B C τ.2.2) (h38 : (τ.1 a 38).toInt = c0) (hc0 : c0 ≤ 2000) (c : s.1 = 0) (hz : (aSum T s).1 = 0) : zHo B C (F_X11_expression a τ) c0 (aCo T s) ∧ ((F_X11_expression a τ).1 a 38).toInt = c0 + (aCo T s).length ∧ (aCo T s).length + s.2.2.1 ≤ (aSum T s).2.2.1 ∧ ∀ i, i < c0 → (F_X11_expression a τ).1 B i = τ.1 B i ∧ (F_X11_expression a τ).1 C i = τ.1 C i := by
  have h1 := xRow hd h 44 0 (by unfold zLv; omega) (by decide)
  have e12 : zu τ.1 a 44 (0 : Int32) a 12 = τ.1 a 12 := zu_j _ _ _ _ _ (by decide)
  unfold F_X11_expression
  simp only [zlt]
  rw [e12]
  have rm := (h.1.2.2.2.2 c).1
  have rk := hK.2.1
  have i0 : zPi a A B C c0 τ (zu τ.1 a 44 0, τ.2.1, τ.2.2) [] [] := ⟨hD, by show (zu τ.1 a 44 (0 : Int32) a 44).toInt = _; rw [zu_s]; rfl, trivial, by show (zu τ.1 a 44 (0 : Int32) a 38).toInt = _; rw [zu_j _ _ _ _ _ (by decide), h38]; show (c0 : Int) = c0 + ((0 : Nat) : Int); omega, trivial, fun i _ => ⟨by show zu τ.1 a 44 (0 : Int32) B i = _; rw [zu_n _ _ _ hD.2.1.2.1], by show zu τ.1 a 44 (0 : Int32) C i = _; rw [zu_n _ _ _ hD.2.1.2.2]⟩⟩
  obtain ⟨s', out', u1, u2, e, u3⟩ := y12 (p0 := s.2.2.1) (τ0 := τ) hd hT hK hc0 (h.2 c) 10000 1 _ s 0 [] [] (by decide) h1.1 (by omega) (fun z => ⟨by omega, h1.2 z, i0, rfl, by show 0 + 0 + s.2.2.1 ≤ s.2.2.1; omega⟩) (by omega)
  obtain ⟨w1, w2⟩ := aCo_e u3 (fun _ => by omega)
  rw [w1] at hz
  obtain ⟨z1, z2, z3⟩ := u2 hz
  rw [w1, w2]
  exact ⟨z2.2.2.2.2.1, z2.2.2.2.1, z3, z2.2.2.2.2.2⟩
end RX2
end
-- 35x71.lw4
section
/-! THE CLASS PUTS DOWN AN EXPRESSION -/
/-- codes that can be gone through: the height before, the limit, the height after -/
def zWl : zCs → Nat → Nat → Nat → Prop
  | [], d, _, d' => d = d'
  | c :: L, d, m, d' => (((c.1 = 0 ∧ 0 ≤ c.2) ∨ (c.1 = 1 ∧ 0 ≤ c.2 ∧ c.2 < 9)) ∧ d < m ∧ zWl L (d + 1) m d') ∨ (2 ≤ c.1 ∧ c.1 ≤ 5 ∧ 2 ≤ d ∧ zWl L (d - 1) m d')
theorem zWl_app {M : zCs} {m d1 d2 : Nat} : ∀ (L : zCs) (d : Nat), zWl L d m d1 → zWl M d1 m d2 → zWl (L ++ M) d m d2 := by
  intro L
  induction L with
  | nil =>
    intro d h g
    have h' : d = d1 := h
    rw [h']
    exact g
  | cons c L ih =>
    intro d h g
    rcases h with ⟨h1, h2, h3⟩ | ⟨h1, h2, h3, h4⟩
    · exact Or.inl ⟨h1, h2, ih _ h3 g⟩
    · exact Or.inr ⟨h1, h2, h3, ih _ h4 g⟩
theorem zWl_up {m m' d' : Nat} (hm : m ≤ m') : ∀ (L : zCs) (d : Nat), zWl L d m d' → zWl L d m' d' := by
  intro L
  induction L with
  | nil => intro d h; exact h
  | cons c L ih =>
    intro d h
    rcases h with ⟨h1, h2, h3⟩ | ⟨h1, h2, h3, h4⟩
    · exact Or.inl ⟨h1, by omega, ih _ h3⟩
    · exact Or.inr ⟨h1, h2, h3, ih _ h4⟩
theorem zWl_1 {m d' : Nat} : ∀ (L : zCs) (d : Nat), zWl L d m d' → zWl L (d + 1) (m + 1) (d' + 1) := by
  intro L
  induction L with
  | nil =>
    intro d h
    have h' : d = d' := h
    show d + 1 = d' + 1
    omega
  | cons c L ih =>
    intro d h
    rcases h with ⟨h1, h2, h3⟩ | ⟨h1, h2, h3, h4⟩
    · exact Or.inl ⟨h1, by omega, ih _ h3⟩
    · refine Or.inr ⟨h1, h2, by omega, ?_⟩
      have q := ih _ h4
      rw [show d + 1 - 1 = d - 1 + 1 by omega]
      exact q
/-- a number token bears no sign -/
def zNn (T : zTn) (m : Nat) : Prop := ∀ j, j < m → T.1 j = 23 → 0 ≤ T.2.2.1 j
theorem zWl_u {T : zTn} {m : Nat} {s : zA} (hN : zNn T m) (hs : s.2.2.1 < m) (hu : T.1 s.2.2.1 = 23 ∨ (13 ≤ T.1 s.2.2.1 ∧ T.1 s.2.2.1 < 22)) : zWl [aUc T s] 0 1 1 := by
  refine Or.inl ⟨?_, by decide, rfl⟩
  unfold aUc
  by_cases c : T.1 s.2.2.1 = 23
  · rw [if_pos c]
    exact Or.inl ⟨rfl, hN _ hs c⟩
  · rw [if_neg c]
    exact Or.inr ⟨rfl, by show 0 ≤ T.1 s.2.2.1 - 13; omega, by show T.1 s.2.2.1 - 13 < 9; omega⟩
/-- codes that stand from n0 on -/
def zCd (tt A6 A7 n0 : Nat) (σ : zS) (c : zCs) : Prop := (((σ.2.2 tt 6).getD 0 = A6 ∧ (σ.2.2 tt 7).getD 0 = A7) ∧ (A6 ≠ tt ∧ A7 ≠ tt) ∧ A6 ≠ A7) ∧ (σ.1 tt 8).toInt = n0 + c.length ∧ zHo A6 A7 σ n0 c
section CX1
variable {P tt A6 A7 n0 : Nat} {σ σ' : zS} {c : zCs}
theorem zCd.fi (h : zCd tt A6 A7 n0 σ c) (g : zFi (fun b _ => b = P) σ σ') (hP : tt ≠ P ∧ A6 ≠ P ∧ A7 ≠ P) : zCd tt A6 A7 n0 σ' c := by
  obtain ⟨hD, h8, hh⟩ := h
  obtain ⟨g1, g2⟩ := g
  exact ⟨by rw [g1]; exact hD, by rw [g2 tt 8 hP.1]; exact h8, zHo_cg c n0 (fun i _ _ => ⟨g2 A6 i hP.2.1, g2 A7 i hP.2.2⟩) hh⟩
theorem cStep (h : zCd tt A6 A7 n0 σ c) (hb : n0 + c.length < 420) (x y : Int32) {x' y' : Int} (hx : x.toInt = x') (hy : y.toInt = y') : zCd tt A6 A7 n0 (F_X9_addStep tt x y σ) (c ++ [(x', y')]) := by
  have e1 : (1 : Int32).toInt = 1 := by decide
  have e420 : (420 : Int32).toInt = 420 := by decide
  obtain ⟨⟨⟨g6, g7⟩, ⟨n6, n7⟩, n67⟩, h8, hh⟩ := h
  have q6 : ¬ tt = A6 := fun z => n6 z.symm
  have q7 : ¬ tt = A7 := fun z => n7 z.symm
  have n8 : (σ.1 tt 8).toNatClampNeg = n0 + c.length := by rw [ztn]; omega
  have el : (c ++ [(x', y')]).length = c.length + 1 := by rw [List.length_append]; rfl
  have E : F_X9_addStep tt x y σ = (zu (zu (zu σ.1 A6 (n0 + c.length) x) A7 (n0 + c.length) y) tt 8 (σ.1 tt 8 + (1 : Int32)), σ.2.1, σ.2.2) := by
    unfold F_X9_addStep
    simp only [zlt, e420]
    rw [if_pos (by omega)]
    simp only [g6, g7, zu_n _ _ _ q6, zu_n _ _ _ q7, n8]
  rw [E]
  refine ⟨⟨⟨g6, g7⟩, ⟨n6, n7⟩, n67⟩, ?_, (zHo_app _ _ _).mpr ⟨zHo_cg c n0 (fun i i1 i2 => ⟨?_, ?_⟩) hh, zHo_1 ?_ ?_⟩⟩
  · show (zu (zu (zu σ.1 A6 _ x) A7 _ y) tt 8 _ tt 8).toInt = _
    rw [zu_s, zb_add (by rw [e1]; omega) (by rw [e1]; omega), e1, el]
    omega
  · show zu (zu (zu σ.1 A6 _ x) A7 _ y) tt 8 _ A6 i = _
    rw [zu_n _ _ _ n6, zu_n _ _ _ n67, zu_j _ _ _ _ _ (by omega)]
  · show zu (zu (zu σ.1 A6 _ x) A7 _ y) tt 8 _ A7 i = _
    rw [zu_n _ _ _ n7, zu_j _ _ _ _ _ (by omega), zu_n _ _ _ (fun z => n67 z.symm)]
  · show (zu (zu (zu σ.1 A6 _ x) A7 _ y) tt 8 _ A6 _).toInt = _
    rw [zu_n _ _ _ n6, zu_n _ _ _ n67, zu_s]
    exact hx
  · show (zu (zu (zu σ.1 A6 _ x) A7 _ y) tt 8 _ A7 _).toInt = _
    rw [zu_n _ _ _ n7, zu_s]
    exact hy
theorem cTake (h : zCd tt A6 A7 n0 σ c) (hP : tt ≠ P ∧ A6 ≠ P ∧ A7 ≠ P) (w : Int32) : zCd tt A6 A7 n0 (F_X3_take P w σ) c := h.fi (fi_X3_take zFi.id rfl rfl rfl rfl rfl) hP
end CX1
/-- what waits, put down -/
def flw (w : List Int) : zCs := w.map (fun x => (opc x, 0))
def hdP (st : List Int) : Prop := ∀ x st', st = x :: st' → x = 6 ∨ x = 8 ∨ x = 9
def hdS (st : List Int) : Prop := ∀ x st', st = x :: st' → x = 6
theorem flw_s (w : List Int) (x : Int) : flw (w ++ [x]) = flw w ++ [(opc x, 0)] := by
  unfold flw
  rw [List.map_append]
  rfl
theorem pl_w {b : Bool} {st : List Int} : ∀ (w : List Int) (out : zCs), (∀ x ∈ w, x ≠ 6 ∧ (b = true → x ≠ 8 ∧ x ≠ 9)) → pl b (w ++ st) out = pl b st (out ++ flw w) := by
  intro w
  induction w with
  | nil =>
    intro out _
    show pl b st out = pl b st (out ++ [])
    rw [List.append_nil]
  | cons x w ih =>
    intro out h
    have hx := h x List.mem_cons_self
    rw [List.cons_append, pl, if_neg hx.1, if_neg (fun z => z.2.elim (hx.2 z.1).1 (hx.2 z.1).2), ih _ (fun y hy => h y (List.mem_cons_of_mem _ hy)), List.append_assoc]
    rfl
theorem pl_hP {st : List Int} (h : hdP st) (out : zCs) : pl true st out = (st, out) := by
  cases st with
  | nil => rfl
  | cons x st =>
    rw [pl]
    by_cases c : x = 6
    · rw [if_pos c]
    · rw [if_neg c, if_pos ⟨rfl, (h x st rfl).resolve_left c⟩]
theorem pl_hS {b : Bool} {st : List Int} (h : hdS st) (out : zCs) : pl b st out = (st, out) := by
  cases st with
  | nil => rfl
  | cons x st => rw [pl, if_pos (h x st rfl)]
/-- what F puts down: codes ew, and w waits (brought down at once by what comes next) -/
def zUo (P tk kA vA qA tt N m A6 A7 : Nat) (T : zTn) (H : List Int → Prop) (Z Wp : Int → Prop) (o : Int) (h : Nat) (s : zA) (n0 : Nat) (c : zCs) (σ' : zS) : Prop :=
  ∃ s' : zA, zV P tk kA vA qA tt N m T σ' s' ∧ (s'.1 = 0 → (s.1 = 0 ∧ s.2.2.1 < s'.2.2.1 ∧ s'.2.2.2 = s.2.2.2 ∧ Z (T.1 s'.2.2.1)) ∧ ∃ (ew : zCs) (w : List Int), zCd tt A6 A7 n0 σ' (c ++ (ew ++ flw w)) ∧ (ew ++ flw w).length + s.2.2.1 ≤ s'.2.2.1 ∧ zWl (ew ++ flw w) 0 h 1 ∧ (∀ x ∈ w, Wp x) ∧ ∃ k, ∀ (st : List Int) (out : zCs) (n : Nat), H st → aX T (n + k) true o s st out = aX T n false o s' (w ++ st) (out ++ ew))
def zUx (P tk kA vA qA tt N m A6 A7 : Nat) (T : zTn) (H : List Int → Prop) (Z Wp : Int → Prop) (F : zS → zS) (o : Int) (h : Nat) : Prop :=
  ∀ (σ : zS) (s : zA) (n0 : Nat) (c : zCs), zV P tk kA vA qA tt N m T σ s → (s.1 = 0 → zCd tt A6 A7 n0 σ c ∧ n0 + c.length ≤ 10 + s.2.2.1) → zUo P tk kA vA qA tt N m A6 A7 T H Z Wp o h s n0 c (F σ)
section CX2
variable {P tk kA vA qA tt N m A6 A7 : Nat} {T : zTn} {σ σ' : zS} {s : zA}
theorem cRow (hd : zVd P tk kA vA qA N) (hT : zTK T m) (hP : tt ≠ P ∧ A6 ≠ P ∧ A7 ≠ P) {F : zS → zS} {o lo : Int} {h : Nat} {A B C D : Int32} (hlo : 26 ≤ lo ∧ lo ≤ 28) (hA : A.toInt = lo) (hB : B.toInt = lo + 1) (hC : C.toInt = opc (zrho lo)) (hD : D.toInt = opc (zrho (lo + 1))) {H H' : List Int → Prop} {Z Wp Wp' : Int → Prop}
    (hpop : ∀ (K : Int) (w st : List Int) (out : zCs), lo ≤ K → K ≤ lo + 1 → (∀ x ∈ w, Wp x) → H st → pl (decide (28 ≤ K)) (w ++ st) out = (st, out ++ flw w)) (hH : ∀ (K : Int) (st : List Int), lo ≤ K → K ≤ lo + 1 → H' (zrho K :: st)) (hW : ∀ x, Wp' x → Wp x) (hWz : ∀ K : Int, lo ≤ K → K ≤ lo + 1 → Wp (zrho K))
    (hF : zUx P tk kA vA qA tt N m A6 A7 T H' Z Wp' F o h) (G : Nat → Int32 → zS → zS)
    (hG : ∀ (n : Nat) (x : Int32) (τ : zS), G (n + 1) x τ = if (400 : Int32).toInt < x.toInt then τ else if (F_X10_isWithin (τ.1 P 3) A B).toInt = 0 then τ else if (τ.1 P 3).toInt = A.toInt then G n (x + (1 : Int32)) (F_X9_addStep (((F (F_X3_take P (τ.1 P 3) τ)).2.2 P 1).getD 0) C 0 (F (F_X3_take P (τ.1 P 3) τ))) else G n (x + (1 : Int32)) (F_X9_addStep (((F (F_X3_take P (τ.1 P 3) τ)).2.2 P 1).getD 0) D 0 (F (F_X3_take P (τ.1 P 3) τ)))) {n0 : Nat} {c : zCs} :
    ∀ (n : Nat) (x : Int32) (j : Nat) (τ : zS) (s : zA) (ew : zCs) (w : List Int), x.toInt = j → j ≤ 401 → 401 - j < n → zV P tk kA vA qA tt N m T τ s → (s.1 = 0 → (j ≤ s.2.2.1 ∧ Z (T.1 s.2.2.1)) ∧ zCd tt A6 A7 n0 τ (c ++ (ew ++ flw w)) ∧ n0 + c.length + (ew ++ flw w).length ≤ 10 + s.2.2.1 ∧ zWl (ew ++ flw w) 0 (h + 1) 1 ∧ ∀ x ∈ w, Wp x) → ∃ s' : zA, zV P tk kA vA qA tt N m T (G n x τ) s' ∧ (s'.1 = 0 → (s.1 = 0 ∧ s.2.2.1 ≤ s'.2.2.1 ∧ s'.2.2.2 = s.2.2.2 ∧ Z (T.1 s'.2.2.1) ∧ ¬ (lo ≤ T.1 s'.2.2.1 ∧ T.1 s'.2.2.1 ≤ lo + 1)) ∧ ∃ (ew' : zCs) (w' : List Int), zCd tt A6 A7 n0 (G n x τ) (c ++ (ew' ++ flw w')) ∧ (ew' ++ flw w').length + s.2.2.1 ≤ s'.2.2.1 + (ew ++ flw w).length ∧ zWl (ew' ++ flw w') 0 (h + 1) 1 ∧ (∀ x ∈ w', Wp x) ∧ ∃ k, ∀ (st : List Int) (out : zCs) (n : Nat), H st → aX T (n + k) false o s (w ++ st) (out ++ ew) = aX T n false o s' (w' ++ st) (out ++ ew')) := by
  intro n
  induction n with
  | zero => intro x j τ s _ _ _ _ h; exact absurd h (by omega)
  | succ n ih =>
    intro x j τ s ew w hx hj hm h' hz
    have e400 : (400 : Int32).toInt = 400 := by decide
    rw [hG, e400]
    simp only [zwi, hA, hB]
    have stay : Unit → (s.1 = 0 → ¬ (lo ≤ T.1 s.2.2.1 ∧ T.1 s.2.2.1 ≤ lo + 1)) → ∃ s' : zA, zV P tk kA vA qA tt N m T τ s' ∧ (s'.1 = 0 → (s.1 = 0 ∧ s.2.2.1 ≤ s'.2.2.1 ∧ s'.2.2.2 = s.2.2.2 ∧ Z (T.1 s'.2.2.1) ∧ ¬ (lo ≤ T.1 s'.2.2.1 ∧ T.1 s'.2.2.1 ≤ lo + 1)) ∧ ∃ (ew' : zCs) (w' : List Int), zCd tt A6 A7 n0 τ (c ++ (ew' ++ flw w')) ∧ (ew' ++ flw w').length + s.2.2.1 ≤ s'.2.2.1 + (ew ++ flw w).length ∧ zWl (ew' ++ flw w') 0 (h + 1) 1 ∧ (∀ x ∈ w', Wp x) ∧ ∃ k, ∀ (st : List Int) (out : zCs) (n : Nat), H st → aX T (n + k) false o s (w ++ st) (out ++ ew) = aX T n false o s' (w' ++ st) (out ++ ew')) := fun _ q => ⟨s, h', fun z => ⟨⟨z, Nat.le_refl _, rfl, (hz z).1.2, q z⟩, ew, w, (hz z).2.1, by omega, (hz z).2.2.2.1, (hz z).2.2.2.2, 0, fun _ _ _ _ => rfl⟩⟩
    by_cases c0 : 400 < x.toInt
    · rw [if_pos c0]
      refine stay () (fun z => ?_)
      have r1 := (h'.2.2.2 z).1
      have r2 := (hz z).1.1
      have := hT.2.1
      omega
    rw [if_neg c0]
    by_cases cs : s.1 = 0
    · have r3 := (h'.2.2.2 cs).2.2.1
      rw [r3]
      by_cases c1 : lo ≤ T.1 s.2.2.1 ∧ T.1 s.2.2.1 ≤ lo + 1
      · rw [if_neg (fun z => z c1)]
        obtain ⟨⟨z1, z2⟩, z3, z4, z5, z6⟩ := hz cs
        have t1 := vTake hd hT h' (τ.1 P 3) (by omega)
        rw [r3] at t1
        obtain ⟨s2, u1, u2⟩ := hF _ _ n0 (c ++ (ew ++ flw w)) t1 (fun z => ⟨cTake z3 hP _, by rw [List.length_append, (aTake_i z).2.2.1]; omega⟩)
        have ut := vtt u1
        rw [ut]
        have key : ∀ C : Int32, C.toInt = opc (zrho (T.1 s.2.2.1)) → ∃ s' : zA, zV P tk kA vA qA tt N m T (G n (x + (1 : Int32)) (F_X9_addStep tt C 0 (F (F_X3_take P (τ.1 P 3) τ)))) s' ∧ (s'.1 = 0 → (s.1 = 0 ∧ s.2.2.1 ≤ s'.2.2.1 ∧ s'.2.2.2 = s.2.2.2 ∧ Z (T.1 s'.2.2.1) ∧ ¬ (lo ≤ T.1 s'.2.2.1 ∧ T.1 s'.2.2.1 ≤ lo + 1)) ∧ ∃ (ew' : zCs) (w' : List Int), zCd tt A6 A7 n0 (G n (x + (1 : Int32)) (F_X9_addStep tt C 0 (F (F_X3_take P (τ.1 P 3) τ)))) (c ++ (ew' ++ flw w')) ∧ (ew' ++ flw w').length + s.2.2.1 ≤ s'.2.2.1 + (ew ++ flw w).length ∧ zWl (ew' ++ flw w') 0 (h + 1) 1 ∧ (∀ x ∈ w', Wp x) ∧ ∃ k, ∀ (st : List Int) (out : zCs) (n : Nat), H st → aX T (n + k) false o s (w ++ st) (out ++ ew) = aX T n false o s' (w' ++ st) (out ++ ew')) := fun C hC' => by
          by_cases cf : s2.1 = 0
          · obtain ⟨⟨y1, y2, y3, y4⟩, ew2, w2, y5, y6, y7, y8, k, y9⟩ := u2 cf
            have qi := aTake_i y1
            have pm := (u1.2.2.2 cf).1
            have pk := hT.2.1
            obtain ⟨e, he⟩ : ∃ e : zCs, e = ew ++ flw w := ⟨_, rfl⟩
            obtain ⟨e2, he2⟩ : ∃ e2 : zCs, e2 = ew2 ++ flw w2 := ⟨_, rfl⟩
            rw [← he] at z3 z4 z5 y5 ⊢
            rw [← he2] at y5 y6 y7
            have ll : (c ++ e ++ e2).length = c.length + e.length + e2.length := by rw [List.length_append, List.length_append]
            have lq : e.length = ew.length + (flw w).length := by rw [he, List.length_append]
            have ass : c ++ ((e ++ ew2) ++ flw (w2 ++ [zrho (T.1 s.2.2.1)])) = c ++ e ++ e2 ++ [(opc (zrho (T.1 s.2.2.1)), 0)] := by
              rw [flw_s, he2]
              simp only [List.append_assoc]
            have ass2 : (e ++ ew2) ++ flw (w2 ++ [zrho (T.1 s.2.2.1)]) = e ++ (e2 ++ [(opc (zrho (T.1 s.2.2.1)), 0)]) := by
              rw [flw_s, he2]
              simp only [List.append_assoc]
            have l2 : ((e ++ ew2) ++ flw (w2 ++ [zrho (T.1 s.2.2.1)])).length = e.length + e2.length + 1 := by
              rw [ass2, List.length_append, List.length_append]
              show e.length + (e2.length + 1) = _
              omega
            have st2 := cStep y5 (by rw [ll]; omega) C 0 hC' (by decide : (0 : Int32).toInt = 0)
            rw [← ass] at st2
            obtain ⟨s', v1, v2⟩ := ih (x + (1 : Int32)) (j + 1) (F_X9_addStep tt C 0 (F (F_X3_take P (τ.1 P 3) τ))) s2 (e ++ ew2) (w2 ++ [zrho (T.1 s.2.2.1)]) (zp1 hx (by omega)) (by omega) (by omega) (vStep u1 C 0) (fun _ => ⟨⟨by omega, y4⟩, st2, by rw [l2]; omega, by
              rw [ass2]
              refine zWl_app e 0 z5 (zWl_app e2 1 (zWl_1 e2 0 y7) (Or.inr ⟨?_, ?_, by decide, rfl⟩))
              · show 2 ≤ opc (zrho (T.1 s.2.2.1))
                unfold opc
                split
                · decide
                · split
                  · decide
                  · split <;> decide
              · show opc (zrho (T.1 s.2.2.1)) ≤ 5
                unfold opc
                split
                · decide
                · split
                  · decide
                  · split <;> decide, fun y hy => by
              rcases List.mem_append.mp hy with hy | hy
              · exact hW _ (y8 y hy)
              · rw [List.mem_singleton.mp hy]
                exact hWz _ c1.1 c1.2⟩)
            refine ⟨s', v1, fun z => ?_⟩
            obtain ⟨⟨x1, x2, x3, x4, x5⟩, ew', w', x6, x7, x8, x9, k2, x10⟩ := v2 z
            rw [l2] at x7
            refine ⟨⟨cs, by omega, by rw [x3, y3, qi.2.2.2], x4, x5⟩, ew', w', x6, by omega, x8, x9, k2 + k + 1, fun st out n hst => ?_⟩
            rw [show n + (k2 + k + 1) = (n + k2 + k) + 1 by omega, aX, if_neg (zne cs), if_pos (by omega), hpop _ w st (out ++ ew) c1.1 c1.2 z6 hst]
            show aX T (n + k2 + k) true o (aTake T (T.1 s.2.2.1) s) (zrho (T.1 s.2.2.1) :: st) (out ++ ew ++ flw w) = _
            rw [y9 _ _ _ (hH _ st c1.1 c1.2)]
            have x11 := x10 st out n hst
            rw [← x11, he]
            simp only [List.append_assoc, List.cons_append, List.nil_append]
          · obtain ⟨s', v1, v2⟩ := ih (x + (1 : Int32)) (j + 1) (F_X9_addStep tt C 0 (F (F_X3_take P (τ.1 P 3) τ))) s2 [] [] (zp1 hx (by clear u2; omega)) (by clear u2; omega) (by clear u2; omega) (vStep u1 C 0) (fun z => absurd z cf)
            exact ⟨s', v1, fun z => absurd (v2 z).1.1 cf⟩
        by_cases c2 : T.1 s.2.2.1 = lo
        · rw [if_pos c2]
          exact key C (by rw [hC, c2])
        · rw [if_neg c2]
          exact key D (by rw [hD, show T.1 s.2.2.1 = lo + 1 by omega])
      · rw [if_pos c1]
        exact stay () (fun _ => c1)
    · rw [if_pos (by rw [(h'.2.2.1 cs).2]; omega)]
      exact stay () (fun z => absurd z cs)
end CX2
end
-- 35x72.lw5
section
/-! THE CLASS' UNITS, PRODUCTS, SUMS, with the codes they put down -/
abbrev zU0 (P tk kA vA qA tt N m A6 A7 : Nat) (T : zTn) (F : zS → zS) (o : Int) (h : Nat) : Prop := zUx P tk kA vA qA tt N m A6 A7 T (fun _ => True) (fun _ => True) (fun _ => False) F o h
abbrev zU1 (P tk kA vA qA tt N m A6 A7 : Nat) (T : zTn) (F : zS → zS) (o : Int) (h : Nat) : Prop := zUx P tk kA vA qA tt N m A6 A7 T hdP (fun K => ¬ (28 ≤ K ∧ K ≤ 29)) (fun x => x = 10 ∨ x = 15) F o h
abbrev zU2 (P tk kA vA qA tt N m A6 A7 : Nat) (T : zTn) (F : zS → zS) (o : Int) (h : Nat) : Prop := zUx P tk kA vA qA tt N m A6 A7 T hdS (fun K => ¬ (26 ≤ K ∧ K ≤ 29)) (fun x => x ≠ 6) F o h
section CX3
variable {P tk kA vA qA tt N m A6 A7 : Nat} {T : zTn} {σ σ' : zS} {s : zA} {n0 : Nat} {c : zCs}
theorem cProd (hd : zVd P tk kA vA qA N) (hT : zTK T m) (hP : tt ≠ P ∧ A6 ≠ P ∧ A7 ≠ P) {U : zS → zS} {o : Int} {h : Nat} (hU : zU0 P tk kA vA qA tt N m A6 A7 T U o h) (G : Nat → Int32 → zS → zS)
    (hG : ∀ (n : Nat) (x : Int32) (τ : zS), G (n + 1) x τ = if (400 : Int32).toInt < x.toInt then τ else if (F_X10_isWithin (τ.1 P 3) (28 : Int32) (29 : Int32)).toInt = 0 then τ else if (τ.1 P 3).toInt = (28 : Int32).toInt then G n (x + (1 : Int32)) (F_X9_addStep (((U (F_X3_take P (τ.1 P 3) τ)).2.2 P 1).getD 0) 4 0 (U (F_X3_take P (τ.1 P 3) τ))) else G n (x + (1 : Int32)) (F_X9_addStep (((U (F_X3_take P (τ.1 P 3) τ)).2.2 P 1).getD 0) 5 0 (U (F_X3_take P (τ.1 P 3) τ)))) (N0 : Nat) (hN0 : 401 < N0) : zU1 P tk kA vA qA tt N m A6 A7 T (fun σ => G N0 0 (U σ)) o (h + 1) := by
  intro σ s n0 c hv hz
  obtain ⟨s1, u1, u2⟩ := hU σ s n0 c hv hz
  have row := fun (ew : zCs) (hs : s1.1 = 0 → ((0 : Nat) ≤ s1.2.2.1 ∧ True) ∧ zCd tt A6 A7 n0 (U σ) (c ++ (ew ++ flw [])) ∧ n0 + c.length + (ew ++ flw []).length ≤ 10 + s1.2.2.1 ∧ zWl (ew ++ flw []) 0 (h + 1) 1 ∧ ∀ x ∈ ([] : List Int), x = 10 ∨ x = 15) => cRow (lo := 28) (C := 4) (D := 5) (H := hdP) (Wp := fun x => x = 10 ∨ x = 15) hd hT hP (by decide) (by decide) (by decide) (by decide) (by decide) (fun K w st out k1 k2 hw hst => by
    rw [decide_eq_true (by omega : 28 ≤ K), pl_w w out (fun x hx => by
      have := hw x hx
      exact ⟨by omega, fun _ => by omega⟩), pl_hP hst]) (fun _ _ _ _ => trivial) (fun _ z => z.elim) (fun K k1 k2 => by
    have : K = 28 ∨ K = 29 := by omega
    rcases this with rfl | rfl
    · exact Or.inl (by decide)
    · exact Or.inr (by decide)) hU G hG (n0 := n0) (c := c) N0 0 0 (U σ) s1 ew [] (by decide) (by omega) (by omega) u1 hs
  by_cases cf : s1.1 = 0
  · obtain ⟨⟨y1, y2, y3, -⟩, ew, w, y5, y6, y7, y8, k, y9⟩ := u2 cf
    have w0 : w = [] := by
      cases w with
      | nil => rfl
      | cons x w => exact (y8 x List.mem_cons_self).elim
    rw [w0] at y5 y6 y7 y9
    obtain ⟨s2, v1, v2⟩ := row ew (fun _ => ⟨⟨Nat.zero_le _, trivial⟩, y5, by have := (hz y1).2; omega, zWl_up (by omega) _ _ y7, fun x hx => by cases hx⟩)
    refine ⟨s2, v1, fun z => ?_⟩
    obtain ⟨⟨x1, x2, x3, -, x5⟩, ew', w', x6, x7, x8, x9, k2, x10⟩ := v2 z
    refine ⟨⟨y1, by omega, by rw [x3, y3], x5⟩, ew', w', x6, by omega, x8, x9, k2 + k, fun st out n hst => ?_⟩
    rw [← Nat.add_assoc, y9 st out _ trivial]
    exact x10 st out n hst
  · obtain ⟨s2, v1, v2⟩ := row [] (fun z => absurd z cf)
    exact ⟨s2, v1, fun z => absurd (v2 z).1.1 cf⟩
theorem cSum (hd : zVd P tk kA vA qA N) (hT : zTK T m) (hP : tt ≠ P ∧ A6 ≠ P ∧ A7 ≠ P) {U : zS → zS} {o : Int} {h : Nat} (hU : zU1 P tk kA vA qA tt N m A6 A7 T U o h) (G : Nat → Int32 → zS → zS)
    (hG : ∀ (n : Nat) (x : Int32) (τ : zS), G (n + 1) x τ = if (400 : Int32).toInt < x.toInt then τ else if (F_X10_isWithin (τ.1 P 3) (26 : Int32) (27 : Int32)).toInt = 0 then τ else if (τ.1 P 3).toInt = (26 : Int32).toInt then G n (x + (1 : Int32)) (F_X9_addStep (((U (F_X3_take P (τ.1 P 3) τ)).2.2 P 1).getD 0) 2 0 (U (F_X3_take P (τ.1 P 3) τ))) else G n (x + (1 : Int32)) (F_X9_addStep (((U (F_X3_take P (τ.1 P 3) τ)).2.2 P 1).getD 0) 3 0 (U (F_X3_take P (τ.1 P 3) τ)))) (N0 : Nat) (hN0 : 401 < N0) : zU2 P tk kA vA qA tt N m A6 A7 T (fun σ => G N0 0 (U σ)) o (h + 1) := by
  intro σ s n0 c hv hz
  obtain ⟨s1, u1, u2⟩ := hU σ s n0 c hv hz
  have row := fun (ew : zCs) (w : List Int) (hs : s1.1 = 0 → ((0 : Nat) ≤ s1.2.2.1 ∧ ¬ (28 ≤ T.1 s1.2.2.1 ∧ T.1 s1.2.2.1 ≤ 29)) ∧ zCd tt A6 A7 n0 (U σ) (c ++ (ew ++ flw w)) ∧ n0 + c.length + (ew ++ flw w).length ≤ 10 + s1.2.2.1 ∧ zWl (ew ++ flw w) 0 (h + 1) 1 ∧ ∀ x ∈ w, x ≠ 6) => cRow (lo := 26) (C := 2) (D := 3) (H := hdS) (Wp := fun x => x ≠ 6) hd hT hP (by decide) (by decide) (by decide) (by decide) (by decide) (fun K w st out k1 k2 hw hst => by
    rw [decide_eq_false (by omega : ¬ 28 ≤ K), pl_w w out (fun x hx => ⟨hw x hx, fun z => absurd z (by decide)⟩), pl_hS hst]) (fun K st k1 k2 => by
    intro x st' e
    injection e with e1 e2
    have : K = 26 ∨ K = 27 := by omega
    rcases this with rfl | rfl
    · exact Or.inr (Or.inl (e1.symm.trans (by decide)))
    · exact Or.inr (Or.inr (e1.symm.trans (by decide)))) (fun x hx => by omega) (fun K k1 k2 => by
    have : K = 26 ∨ K = 27 := by omega
    rcases this with rfl | rfl <;> decide) hU G hG (n0 := n0) (c := c) N0 0 0 (U σ) s1 ew w (by decide) (by omega) (by omega) u1 hs
  by_cases cf : s1.1 = 0
  · obtain ⟨⟨y1, y2, y3, y4⟩, ew, w, y5, y6, y7, y8, k, y9⟩ := u2 cf
    obtain ⟨s2, v1, v2⟩ := row ew w (fun _ => ⟨⟨Nat.zero_le _, y4⟩, y5, by have := (hz y1).2; omega, zWl_up (by omega) _ _ y7, fun x hx => by have := y8 x hx; omega⟩)
    refine ⟨s2, v1, fun z => ?_⟩
    obtain ⟨⟨x1, x2, x3, x4, x5⟩, ew', w', x6, x7, x8, x9, k2, x10⟩ := v2 z
    refine ⟨⟨y1, by omega, by rw [x3, y3], by omega⟩, ew', w', x6, by omega, x8, x9, k2 + k, fun st out n hst => ?_⟩
    rw [← Nat.add_assoc, y9 st out _ (fun x st' e => Or.inl (hst x st' e))]
    exact x10 st out n hst
  · obtain ⟨s2, v1, v2⟩ := row [] [] (fun z => absurd z cf)
    exact ⟨s2, v1, fun z => absurd (v2 z).1.1 cf⟩
theorem cUnit0 (hd : zVd P tk kA vA qA N) (hT : zTK T m) (hP : tt ≠ P ∧ A6 ≠ P ∧ A7 ≠ P) (hN : zNn T m) (o : Int) {h : Nat} (h1 : 1 ≤ h) (hv : zV P tk kA vA qA tt N m T σ s) (hz : s.1 = 0 → zCd tt A6 A7 n0 σ c ∧ n0 + c.length ≤ 10 + s.2.2.1) (hc : s.1 = 0) (cu : T.1 s.2.2.1 = 23 ∨ (13 ≤ T.1 s.2.2.1 ∧ T.1 s.2.2.1 < 22)) (A B : Int32) (hA : A.toInt = (aUc T s).1) (hB : B.toInt = (aUc T s).2) : zUo P tk kA vA qA tt N m A6 A7 T (fun _ => True) (fun _ => True) (fun _ => False) o h s n0 c (F_X3_take P ((F_X9_addStep ((σ.2.2 P 1).getD 0) A B σ).1 P 3) (F_X9_addStep ((σ.2.2 P 1).getD 0) A B σ)) := by
  rw [vtt hv]
  have g1 := vStep hv A B
  obtain ⟨r1, -, r3, -⟩ := g1.2.2.2 hc
  have t1 := vTake hd hT g1 ((F_X9_addStep tt A B σ).1 P 3) (by omega)
  rw [r3] at t1
  have rk := hT.2.1
  obtain ⟨z1, z2⟩ := hz hc
  have s1 := cTake (cStep z1 (by omega) A B hA hB) hP ((F_X9_addStep tt A B σ).1 P 3)
  refine ⟨_, t1, fun z => ?_⟩
  have q := aTake_i z
  refine ⟨⟨hc, by omega, q.2.2.2, trivial⟩, [aUc T s], [], s1, ?_, zWl_up h1 _ _ (zWl_u hN r1 cu), (fun x hx => by cases hx), 1, fun st out n _ => ?_⟩
  · show 1 + s.2.2.1 ≤ _
    omega
  · rw [aX, if_neg (zne hc), if_pos cu]
    rfl
theorem cUnitF (hd : zVd P tk kA vA qA N) (o : Int) {h : Nat} (hv : zV P tk kA vA qA tt N m T σ s) (A : Int32) (hA : A.toInt ≠ 0) {H : List Int → Prop} {Z Wp : Int → Prop} : zUo P tk kA vA qA tt N m A6 A7 T H Z Wp o h s n0 c (F_X3_fail P A σ) := ⟨_, vFail hd hv A hA, fun z => absurd z (aFail_1 hA)⟩
theorem cUnitB (hd : zVd P tk kA vA qA N) (hT : zTK T m) (hP : tt ≠ P ∧ A6 ≠ P ∧ A7 ≠ P) {F : zS → zS} (o : Int) {h : Nat} (ho : 0 ≤ o ∧ o < 6) (hS : zU2 P tk kA vA qA tt N m A6 A7 T F (o + 1) h) (hv : zV P tk kA vA qA tt N m T σ s) (hz : s.1 = 0 → zCd tt A6 A7 n0 σ c ∧ n0 + c.length ≤ 10 + s.2.2.1) (hc : s.1 = 0) (c1 : T.1 s.2.2.1 = 31) : zUo P tk kA vA qA tt N m A6 A7 T (fun _ => True) (fun _ => True) (fun _ => False) o h s n0 c (F_X3_take P 32 (F (F_X3_take P (σ.1 P 3) σ))) := by
  have e32 : (32 : Int32).toInt = 32 := by decide
  have r3 := (hv.2.2.2 hc).2.2.1
  have t1 := vTake hd hT hv (σ.1 P 3) (by omega)
  rw [r3, c1] at t1
  obtain ⟨z1, z2⟩ := hz hc
  obtain ⟨s2, u1, u2⟩ := hS _ _ n0 c t1 (fun z => ⟨cTake z1 hP _, by rw [(aTake_i z).2.2.1]; omega⟩)
  have t2 := vTake hd hT u1 32 (by decide)
  rw [e32] at t2
  refine ⟨_, t2, fun z => ?_⟩
  have q := aTake_i z
  obtain ⟨⟨y1, y2, y3, y4⟩, ew, w, y5, y6, y7, y8, k, y9⟩ := u2 q.1
  have q3 := aTake_i y1
  have en : (ew ++ flw w) ++ flw [] = ew ++ flw w := List.append_nil _
  refine ⟨⟨hc, by omega, by rw [q.2.2.2, y3, q3.2.2.2], trivial⟩, ew ++ flw w, [], by rw [en]; exact cTake y5 hP _, by rw [en]; omega, by rw [en]; exact y7, (fun x hx => by cases hx), 1 + k + 1, fun st out n _ => ?_⟩
  have h6 : hdS (6 :: st) := fun x st' e => by
    injection e with e1 e2
    exact e1.symm
  have e1 : aX T (n + (1 + k + 1)) true o s st out = aX T (n + 1 + k) true (o + 1) (aTake T 31 s) (6 :: st) out := by
    show aX T ((n + (1 + k)) + 1) true o s st out = _
    rw [aX, if_neg (zne hc), if_neg (by omega), if_pos ⟨c1, ho.2⟩, Nat.add_assoc]
  rw [e1, y9 _ _ _ h6, aX, if_neg (fun z => z q.1), if_neg y4, if_pos (by omega), if_pos q.2.1, show o + 1 - 1 = o by omega, pl_w w _ (fun x hx => ⟨y8 x hx, fun z => absurd z (by decide)⟩), pl_hS h6]
  show aX T n false o (aTake T 32 s2) st (out ++ ew ++ flw w) = aX T n false o (aTake T 32 s2) st (out ++ (ew ++ flw w))
  rw [List.append_assoc]
theorem cUnit_6 (hd : zVd P tk kA vA qA N) (hT : zTK T m) (hP : tt ≠ P ∧ A6 ≠ P ∧ A7 ≠ P) (hN : zNn T m) (p : Int32) (hp : p.toInt = 6) : zU0 P tk kA vA qA tt N m A6 A7 T (F_X3_unit_o6 P p) 6 1 := by
  intro σ s n0 c h hz
  have e23 : (23 : Int32).toInt = 23 := by decide
  have e13 : (13 : Int32).toInt = 13 := by decide
  have e31 : (31 : Int32).toInt = 31 := by decide
  have e22 : (22 : Int32).toInt = 22 := by decide
  have e6 : (6 : Int32).toInt = 6 := by decide
  have r : (s.1 = 0 → (σ.1 P 3).toInt = T.1 s.2.2.1) ∧ (s.1 ≠ 0 → (σ.1 P 3).toInt = 34) := ⟨fun z => (h.2.2.2 z).2.2.1, fun z => (h.2.2.1 z).2⟩
  unfold F_X3_unit_o6
  simp only [zlt, e23, e13, e31, e22, e6]
  by_cases c1 : (σ.1 P 3).toInt = 23
  · rw [if_pos c1]
    have hc : s.1 = 0 := Classical.byContradiction (fun z => by have := r.2 z; omega)
    have rr := r.1 hc
    have cu : T.1 s.2.2.1 = 23 := by omega
    have v4 := (h.2.2.2 hc).2.2.2.1
    have tv := h.1.2.2.1 s.2.2.1
    refine cUnit0 hd hT hP hN 6 (by decide) h hz hc (Or.inl cu) _ _ ?_ ?_
    · unfold aUc
      rw [if_pos cu]
      exact (by decide : (0 : Int32).toInt = 0)
    · unfold aUc
      rw [if_pos cu, v4, ← tv.2.1]
      exact tv.2.2.1
  rw [if_neg c1]
  by_cases c2 : (σ.1 P 3).toInt < 13
  · rw [if_pos c2, if_neg (by omega), if_neg (by omega)]
    exact cUnitF hd 6 h 1 (by decide)
  rw [if_neg c2]
  by_cases c3 : (σ.1 P 3).toInt < 22
  · rw [if_pos c3]
    have hc : s.1 = 0 := Classical.byContradiction (fun z => by have := r.2 z; omega)
    have rr := r.1 hc
    refine cUnit0 hd hT hP hN 6 (by decide) h hz hc (Or.inr (by omega)) _ _ ?_ ?_
    · unfold aUc
      rw [if_neg (by omega)]
      exact (by decide : (1 : Int32).toInt = 1)
    · unfold aUc
      rw [if_neg (by omega), zb_sub (by rw [e13]; omega) (by rw [e13]; omega), e13, rr]
  rw [if_neg c3]
  by_cases c4 : (σ.1 P 3).toInt = 31
  · rw [if_pos c4, if_neg (by omega), if_pos c4]
    exact cUnitF hd 6 h 2 (by decide)
  · rw [if_neg c4, if_neg c4]
    exact cUnitF hd 6 h 1 (by decide)
theorem cProd_6 (hd : zVd P tk kA vA qA N) (hT : zTK T m) (hP : tt ≠ P ∧ A6 ≠ P ∧ A7 ≠ P) (hN : zNn T m) (p : Int32) (hp : p.toInt = 6) : zU1 P tk kA vA qA tt N m A6 A7 T (F_X3_product_o6 P p) 6 2 := by
  intro σ s n0 c h hz
  obtain ⟨n, hn, e⟩ : ∃ n : Nat, n = 10000 ∧ F_X3_product_o6 P p σ = F_X3_product_o6_7 P p n 0 (F_X3_unit_o6 P p σ) := by
    unfold F_X3_product_o6
    simp only [zlt]
    exact ⟨10000, rfl, rfl⟩
  rw [e]
  exact cProd hd hT hP (cUnit_6 hd hT hP hN p hp) (F_X3_product_o6_7 P p) (fun n x τ => by rw [F_X3_product_o6_7]; simp only [zlt]) n (by omega) σ s n0 c h hz
theorem cSum_6 (hd : zVd P tk kA vA qA N) (hT : zTK T m) (hP : tt ≠ P ∧ A6 ≠ P ∧ A7 ≠ P) (hN : zNn T m) (p : Int32) (hp : p.toInt = 6) : zU2 P tk kA vA qA tt N m A6 A7 T (F_X3_sum_o6 P p) 6 3 := by
  intro σ s n0 c h hz
  obtain ⟨n, hn, e⟩ : ∃ n : Nat, n = 10000 ∧ F_X3_sum_o6 P p σ = F_X3_sum_o6_7 P p n 0 (F_X3_product_o6 P p σ) := by
    unfold F_X3_sum_o6
    simp only [zlt]
    exact ⟨10000, rfl, rfl⟩
  rw [e]
  exact cSum hd hT hP (cProd_6 hd hT hP hN p hp) (F_X3_sum_o6_7 P p) (fun n x τ => by rw [F_X3_sum_o6_7]; simp only [zlt]) n (by omega) σ s n0 c h hz
theorem cUnit_5 (hd : zVd P tk kA vA qA N) (hT : zTK T m) (hP : tt ≠ P ∧ A6 ≠ P ∧ A7 ≠ P) (hN : zNn T m) (p : Int32) (hp : p.toInt = 5) (hS : ∀ p : Int32, p.toInt = 6 → zU2 P tk kA vA qA tt N m A6 A7 T (F_X3_sum_o6 P p) 6 3) : zU0 P tk kA vA qA tt N m A6 A7 T (F_X3_unit_o5 P p) 5 3 := by
  intro σ s n0 c h hz
  have e23 : (23 : Int32).toInt = 23 := by decide
  have e13 : (13 : Int32).toInt = 13 := by decide
  have e31 : (31 : Int32).toInt = 31 := by decide
  have e22 : (22 : Int32).toInt = 22 := by decide
  have e6 : (6 : Int32).toInt = 6 := by decide
  have r : (s.1 = 0 → (σ.1 P 3).toInt = T.1 s.2.2.1) ∧ (s.1 ≠ 0 → (σ.1 P 3).toInt = 34) := ⟨fun z => (h.2.2.2 z).2.2.1, fun z => (h.2.2.1 z).2⟩
  unfold F_X3_unit_o5
  simp only [zlt, e23, e13, e31, e22, e6]
  by_cases c1 : (σ.1 P 3).toInt = 23
  · rw [if_pos c1]
    have hc : s.1 = 0 := Classical.byContradiction (fun z => by have := r.2 z; omega)
    have rr := r.1 hc
    have cu : T.1 s.2.2.1 = 23 := by omega
    have v4 := (h.2.2.2 hc).2.2.2.1
    have tv := h.1.2.2.1 s.2.2.1
    refine cUnit0 hd hT hP hN 5 (by decide) h hz hc (Or.inl cu) _ _ ?_ ?_
    · unfold aUc
      rw [if_pos cu]
      exact (by decide : (0 : Int32).toInt = 0)
    · unfold aUc
      rw [if_pos cu, v4, ← tv.2.1]
      exact tv.2.2.1
  rw [if_neg c1]
  by_cases c2 : (σ.1 P 3).toInt < 13
  · rw [if_pos c2, if_neg (by omega), if_neg (by omega)]
    exact cUnitF hd 5 h 1 (by decide)
  rw [if_neg c2]
  by_cases c3 : (σ.1 P 3).toInt < 22
  · rw [if_pos c3]
    have hc : s.1 = 0 := Classical.byContradiction (fun z => by have := r.2 z; omega)
    have rr := r.1 hc
    refine cUnit0 hd hT hP hN 5 (by decide) h hz hc (Or.inr (by omega)) _ _ ?_ ?_
    · unfold aUc
      rw [if_neg (by omega)]
      exact (by decide : (1 : Int32).toInt = 1)
    · unfold aUc
      rw [if_neg (by omega), zb_sub (by rw [e13]; omega) (by rw [e13]; omega), e13, rr]
  rw [if_neg c3]
  by_cases c4 : (σ.1 P 3).toInt = 31
  · have hc : s.1 = 0 := Classical.byContradiction (fun z => by have := r.2 z; omega)
    have rr := r.1 hc
    rw [if_pos c4, if_pos (by omega)]
    have e1 : (1 : Int32).toInt = 1 := by decide
    exact cUnitB hd hT hP 5 (by decide) (hS (p + 1) (by rw [zb_add (by rw [hp, e1]; decide) (by rw [hp, e1]; decide), hp, e1]; rfl)) h hz hc (by omega)
  · rw [if_neg c4, if_neg c4]
    exact cUnitF hd 5 h 1 (by decide)
theorem cProd_5 (hd : zVd P tk kA vA qA N) (hT : zTK T m) (hP : tt ≠ P ∧ A6 ≠ P ∧ A7 ≠ P) (hN : zNn T m) (p : Int32) (hp : p.toInt = 5) : zU1 P tk kA vA qA tt N m A6 A7 T (F_X3_product_o5 P p) 5 4 := by
  intro σ s n0 c h hz
  obtain ⟨n, hn, e⟩ : ∃ n : Nat, n = 10000 ∧ F_X3_product_o5 P p σ = F_X3_product_o5_7 P p n 0 (F_X3_unit_o5 P p σ) := by
    unfold F_X3_product_o5
    simp only [zlt]
    exact ⟨10000, rfl, rfl⟩
  rw [e]
  exact cProd hd hT hP (cUnit_5 hd hT hP hN p hp (fun p hp => cSum_6 hd hT hP hN p hp)) (F_X3_product_o5_7 P p) (fun n x τ => by rw [F_X3_product_o5_7]; simp only [zlt]) n (by omega) σ s n0 c h hz
theorem cSum_5 (hd : zVd P tk kA vA qA N) (hT : zTK T m) (hP : tt ≠ P ∧ A6 ≠ P ∧ A7 ≠ P) (hN : zNn T m) (p : Int32) (hp : p.toInt = 5) : zU2 P tk kA vA qA tt N m A6 A7 T (F_X3_sum_o5 P p) 5 5 := by
  intro σ s n0 c h hz
  obtain ⟨n, hn, e⟩ : ∃ n : Nat, n = 10000 ∧ F_X3_sum_o5 P p σ = F_X3_sum_o5_7 P p n 0 (F_X3_product_o5 P p σ) := by
    unfold F_X3_sum_o5
    simp only [zlt]
    exact ⟨10000, rfl, rfl⟩
  rw [e]
  exact cSum hd hT hP (cProd_5 hd hT hP hN p hp) (F_X3_sum_o5_7 P p) (fun n x τ => by rw [F_X3_sum_o5_7]; simp only [zlt]) n (by omega) σ s n0 c h hz
theorem cUnit_4 (hd : zVd P tk kA vA qA N) (hT : zTK T m) (hP : tt ≠ P ∧ A6 ≠ P ∧ A7 ≠ P) (hN : zNn T m) (p : Int32) (hp : p.toInt = 4) (hS : ∀ p : Int32, p.toInt = 5 → zU2 P tk kA vA qA tt N m A6 A7 T (F_X3_sum_o5 P p) 5 5) : zU0 P tk kA vA qA tt N m A6 A7 T (F_X3_unit_o4 P p) 4 5 := by
  intro σ s n0 c h hz
  have e23 : (23 : Int32).toInt = 23 := by decide
  have e13 : (13 : Int32).toInt = 13 := by decide
  have e31 : (31 : Int32).toInt = 31 := by decide
  have e22 : (22 : Int32).toInt = 22 := by decide
  have e6 : (6 : Int32).toInt = 6 := by decide
  have r : (s.1 = 0 → (σ.1 P 3).toInt = T.1 s.2.2.1) ∧ (s.1 ≠ 0 → (σ.1 P 3).toInt = 34) := ⟨fun z => (h.2.2.2 z).2.2.1, fun z => (h.2.2.1 z).2⟩
  unfold F_X3_unit_o4
  simp only [zlt, e23, e13, e31, e22, e6]
  by_cases c1 : (σ.1 P 3).toInt = 23
  · rw [if_pos c1]
    have hc : s.1 = 0 := Classical.byContradiction (fun z => by have := r.2 z; omega)
    have rr := r.1 hc
    have cu : T.1 s.2.2.1 = 23 := by omega
    have v4 := (h.2.2.2 hc).2.2.2.1
    have tv := h.1.2.2.1 s.2.2.1
    refine cUnit0 hd hT hP hN 4 (by decide) h hz hc (Or.inl cu) _ _ ?_ ?_
    · unfold aUc
      rw [if_pos cu]
      exact (by decide : (0 : Int32).toInt = 0)
    · unfold aUc
      rw [if_pos cu, v4, ← tv.2.1]
      exact tv.2.2.1
  rw [if_neg c1]
  by_cases c2 : (σ.1 P 3).toInt < 13
  · rw [if_pos c2, if_neg (by omega), if_neg (by omega)]
    exact cUnitF hd 4 h 1 (by decide)
  rw [if_neg c2]
  by_cases c3 : (σ.1 P 3).toInt < 22
  · rw [if_pos c3]
    have hc : s.1 = 0 := Classical.byContradiction (fun z => by have := r.2 z; omega)
    have rr := r.1 hc
    refine cUnit0 hd hT hP hN 4 (by decide) h hz hc (Or.inr (by omega)) _ _ ?_ ?_
    · unfold aUc
      rw [if_neg (by omega)]
      exact (by decide : (1 : Int32).toInt = 1)
    · unfold aUc
      rw [if_neg (by omega), zb_sub (by rw [e13]; omega) (by rw [e13]; omega), e13, rr]
  rw [if_neg c3]
  by_cases c4 : (σ.1 P 3).toInt = 31
  · have hc : s.1 = 0 := Classical.byContradiction (fun z => by have := r.2 z; omega)
    have rr := r.1 hc
    rw [if_pos c4, if_pos (by omega)]
    have e1 : (1 : Int32).toInt = 1 := by decide
    exact cUnitB hd hT hP 4 (by decide) (hS (p + 1) (by rw [zb_add (by rw [hp, e1]; decide) (by rw [hp, e1]; decide), hp, e1]; rfl)) h hz hc (by omega)
  · rw [if_neg c4, if_neg c4]
    exact cUnitF hd 4 h 1 (by decide)
theorem cProd_4 (hd : zVd P tk kA vA qA N) (hT : zTK T m) (hP : tt ≠ P ∧ A6 ≠ P ∧ A7 ≠ P) (hN : zNn T m) (p : Int32) (hp : p.toInt = 4) : zU1 P tk kA vA qA tt N m A6 A7 T (F_X3_product_o4 P p) 4 6 := by
  intro σ s n0 c h hz
  obtain ⟨n, hn, e⟩ : ∃ n : Nat, n = 10000 ∧ F_X3_product_o4 P p σ = F_X3_product_o4_7 P p n 0 (F_X3_unit_o4 P p σ) := by
    unfold F_X3_product_o4
    simp only [zlt]
    exact ⟨10000, rfl, rfl⟩
  rw [e]
  exact cProd hd hT hP (cUnit_4 hd hT hP hN p hp (fun p hp => cSum_5 hd hT hP hN p hp)) (F_X3_product_o4_7 P p) (fun n x τ => by rw [F_X3_product_o4_7]; simp only [zlt]) n (by omega) σ s n0 c h hz
theorem cSum_4 (hd : zVd P tk kA vA qA N) (hT : zTK T m) (hP : tt ≠ P ∧ A6 ≠ P ∧ A7 ≠ P) (hN : zNn T m) (p : Int32) (hp : p.toInt = 4) : zU2 P tk kA vA qA tt N m A6 A7 T (F_X3_sum_o4 P p) 4 7 := by
  intro σ s n0 c h hz
  obtain ⟨n, hn, e⟩ : ∃ n : Nat, n = 10000 ∧ F_X3_sum_o4 P p σ = F_X3_sum_o4_7 P p n 0 (F_X3_product_o4 P p σ) := by
    unfold F_X3_sum_o4
    simp only [zlt]
    exact ⟨10000, rfl, rfl⟩
  rw [e]
  exact cSum hd hT hP (cProd_4 hd hT hP hN p hp) (F_X3_sum_o4_7 P p) (fun n x τ => by rw [F_X3_sum_o4_7]; simp only [zlt]) n (by omega) σ s n0 c h hz
theorem cUnit_3 (hd : zVd P tk kA vA qA N) (hT : zTK T m) (hP : tt ≠ P ∧ A6 ≠ P ∧ A7 ≠ P) (hN : zNn T m) (p : Int32) (hp : p.toInt = 3) (hS : ∀ p : Int32, p.toInt = 4 → zU2 P tk kA vA qA tt N m A6 A7 T (F_X3_sum_o4 P p) 4 7) : zU0 P tk kA vA qA tt N m A6 A7 T (F_X3_unit_o3 P p) 3 7 := by
  intro σ s n0 c h hz
  have e23 : (23 : Int32).toInt = 23 := by decide
  have e13 : (13 : Int32).toInt = 13 := by decide
  have e31 : (31 : Int32).toInt = 31 := by decide
  have e22 : (22 : Int32).toInt = 22 := by decide
  have e6 : (6 : Int32).toInt = 6 := by decide
  have r : (s.1 = 0 → (σ.1 P 3).toInt = T.1 s.2.2.1) ∧ (s.1 ≠ 0 → (σ.1 P 3).toInt = 34) := ⟨fun z => (h.2.2.2 z).2.2.1, fun z => (h.2.2.1 z).2⟩
  unfold F_X3_unit_o3
  simp only [zlt, e23, e13, e31, e22, e6]
  by_cases c1 : (σ.1 P 3).toInt = 23
  · rw [if_pos c1]
    have hc : s.1 = 0 := Classical.byContradiction (fun z => by have := r.2 z; omega)
    have rr := r.1 hc
    have cu : T.1 s.2.2.1 = 23 := by omega
    have v4 := (h.2.2.2 hc).2.2.2.1
    have tv := h.1.2.2.1 s.2.2.1
    refine cUnit0 hd hT hP hN 3 (by decide) h hz hc (Or.inl cu) _ _ ?_ ?_
    · unfold aUc
      rw [if_pos cu]
      exact (by decide : (0 : Int32).toInt = 0)
    · unfold aUc
      rw [if_pos cu, v4, ← tv.2.1]
      exact tv.2.2.1
  rw [if_neg c1]
  by_cases c2 : (σ.1 P 3).toInt < 13
  · rw [if_pos c2, if_neg (by omega), if_neg (by omega)]
    exact cUnitF hd 3 h 1 (by decide)
  rw [if_neg c2]
  by_cases c3 : (σ.1 P 3).toInt < 22
  · rw [if_pos c3]
    have hc : s.1 = 0 := Classical.byContradiction (fun z => by have := r.2 z; omega)
    have rr := r.1 hc
    refine cUnit0 hd hT hP hN 3 (by decide) h hz hc (Or.inr (by omega)) _ _ ?_ ?_
    · unfold aUc
      rw [if_neg (by omega)]
      exact (by decide : (1 : Int32).toInt = 1)
    · unfold aUc
      rw [if_neg (by omega), zb_sub (by rw [e13]; omega) (by rw [e13]; omega), e13, rr]
  rw [if_neg c3]
  by_cases c4 : (σ.1 P 3).toInt = 31
  · have hc : s.1 = 0 := Classical.byContradiction (fun z => by have := r.2 z; omega)
    have rr := r.1 hc
    rw [if_pos c4, if_pos (by omega)]
    have e1 : (1 : Int32).toInt = 1 := by decide
    exact cUnitB hd hT hP 3 (by decide) (hS (p + 1) (by rw [zb_add (by rw [hp, e1]; decide) (by rw [hp, e1]; decide), hp, e1]; rfl)) h hz hc (by omega)
  · rw [if_neg c4, if_neg c4]
    exact cUnitF hd 3 h 1 (by decide)
theorem cProd_3 (hd : zVd P tk kA vA qA N) (hT : zTK T m) (hP : tt ≠ P ∧ A6 ≠ P ∧ A7 ≠ P) (hN : zNn T m) (p : Int32) (hp : p.toInt = 3) : zU1 P tk kA vA qA tt N m A6 A7 T (F_X3_product_o3 P p) 3 8 := by
  intro σ s n0 c h hz
  obtain ⟨n, hn, e⟩ : ∃ n : Nat, n = 10000 ∧ F_X3_product_o3 P p σ = F_X3_product_o3_7 P p n 0 (F_X3_unit_o3 P p σ) := by
    unfold F_X3_product_o3
    simp only [zlt]
    exact ⟨10000, rfl, rfl⟩
  rw [e]
  exact cProd hd hT hP (cUnit_3 hd hT hP hN p hp (fun p hp => cSum_4 hd hT hP hN p hp)) (F_X3_product_o3_7 P p) (fun n x τ => by rw [F_X3_product_o3_7]; simp only [zlt]) n (by omega) σ s n0 c h hz
theorem cSum_3 (hd : zVd P tk kA vA qA N) (hT : zTK T m) (hP : tt ≠ P ∧ A6 ≠ P ∧ A7 ≠ P) (hN : zNn T m) (p : Int32) (hp : p.toInt = 3) : zU2 P tk kA vA qA tt N m A6 A7 T (F_X3_sum_o3 P p) 3 9 := by
  intro σ s n0 c h hz
  obtain ⟨n, hn, e⟩ : ∃ n : Nat, n = 10000 ∧ F_X3_sum_o3 P p σ = F_X3_sum_o3_7 P p n 0 (F_X3_product_o3 P p σ) := by
    unfold F_X3_sum_o3
    simp only [zlt]
    exact ⟨10000, rfl, rfl⟩
  rw [e]
  exact cSum hd hT hP (cProd_3 hd hT hP hN p hp) (F_X3_sum_o3_7 P p) (fun n x τ => by rw [F_X3_sum_o3_7]; simp only [zlt]) n (by omega) σ s n0 c h hz
theorem cUnit_2 (hd : zVd P tk kA vA qA N) (hT : zTK T m) (hP : tt ≠ P ∧ A6 ≠ P ∧ A7 ≠ P) (hN : zNn T m) (p : Int32) (hp : p.toInt = 2) (hS : ∀ p : Int32, p.toInt = 3 → zU2 P tk kA vA qA tt N m A6 A7 T (F_X3_sum_o3 P p) 3 9) : zU0 P tk kA vA qA tt N m A6 A7 T (F_X3_unit_o2 P p) 2 9 := by
  intro σ s n0 c h hz
  have e23 : (23 : Int32).toInt = 23 := by decide
  have e13 : (13 : Int32).toInt = 13 := by decide
  have e31 : (31 : Int32).toInt = 31 := by decide
  have e22 : (22 : Int32).toInt = 22 := by decide
  have e6 : (6 : Int32).toInt = 6 := by decide
  have r : (s.1 = 0 → (σ.1 P 3).toInt = T.1 s.2.2.1) ∧ (s.1 ≠ 0 → (σ.1 P 3).toInt = 34) := ⟨fun z => (h.2.2.2 z).2.2.1, fun z => (h.2.2.1 z).2⟩
  unfold F_X3_unit_o2
  simp only [zlt, e23, e13, e31, e22, e6]
  by_cases c1 : (σ.1 P 3).toInt = 23
  · rw [if_pos c1]
    have hc : s.1 = 0 := Classical.byContradiction (fun z => by have := r.2 z; omega)
    have rr := r.1 hc
    have cu : T.1 s.2.2.1 = 23 := by omega
    have v4 := (h.2.2.2 hc).2.2.2.1
    have tv := h.1.2.2.1 s.2.2.1
    refine cUnit0 hd hT hP hN 2 (by decide) h hz hc (Or.inl cu) _ _ ?_ ?_
    · unfold aUc
      rw [if_pos cu]
      exact (by decide : (0 : Int32).toInt = 0)
    · unfold aUc
      rw [if_pos cu, v4, ← tv.2.1]
      exact tv.2.2.1
  rw [if_neg c1]
  by_cases c2 : (σ.1 P 3).toInt < 13
  · rw [if_pos c2, if_neg (by omega), if_neg (by omega)]
    exact cUnitF hd 2 h 1 (by decide)
  rw [if_neg c2]
  by_cases c3 : (σ.1 P 3).toInt < 22
  · rw [if_pos c3]
    have hc : s.1 = 0 := Classical.byContradiction (fun z => by have := r.2 z; omega)
    have rr := r.1 hc
    refine cUnit0 hd hT hP hN 2 (by decide) h hz hc (Or.inr (by omega)) _ _ ?_ ?_
    · unfold aUc
      rw [if_neg (by omega)]
      exact (by decide : (1 : Int32).toInt = 1)
    · unfold aUc
      rw [if_neg (by omega), zb_sub (by rw [e13]; omega) (by rw [e13]; omega), e13, rr]
  rw [if_neg c3]
  by_cases c4 : (σ.1 P 3).toInt = 31
  · have hc : s.1 = 0 := Classical.byContradiction (fun z => by have := r.2 z; omega)
    have rr := r.1 hc
    rw [if_pos c4, if_pos (by omega)]
    have e1 : (1 : Int32).toInt = 1 := by decide
    exact cUnitB hd hT hP 2 (by decide) (hS (p + 1) (by rw [zb_add (by rw [hp, e1]; decide) (by rw [hp, e1]; decide), hp, e1]; rfl)) h hz hc (by omega)
  · rw [if_neg c4, if_neg c4]
    exact cUnitF hd 2 h 1 (by decide)
theorem cProd_2 (hd : zVd P tk kA vA qA N) (hT : zTK T m) (hP : tt ≠ P ∧ A6 ≠ P ∧ A7 ≠ P) (hN : zNn T m) (p : Int32) (hp : p.toInt = 2) : zU1 P tk kA vA qA tt N m A6 A7 T (F_X3_product_o2 P p) 2 10 := by
  intro σ s n0 c h hz
  obtain ⟨n, hn, e⟩ : ∃ n : Nat, n = 10000 ∧ F_X3_product_o2 P p σ = F_X3_product_o2_7 P p n 0 (F_X3_unit_o2 P p σ) := by
    unfold F_X3_product_o2
    simp only [zlt]
    exact ⟨10000, rfl, rfl⟩
  rw [e]
  exact cProd hd hT hP (cUnit_2 hd hT hP hN p hp (fun p hp => cSum_3 hd hT hP hN p hp)) (F_X3_product_o2_7 P p) (fun n x τ => by rw [F_X3_product_o2_7]; simp only [zlt]) n (by omega) σ s n0 c h hz
theorem cSum_2 (hd : zVd P tk kA vA qA N) (hT : zTK T m) (hP : tt ≠ P ∧ A6 ≠ P ∧ A7 ≠ P) (hN : zNn T m) (p : Int32) (hp : p.toInt = 2) : zU2 P tk kA vA qA tt N m A6 A7 T (F_X3_sum_o2 P p) 2 11 := by
  intro σ s n0 c h hz
  obtain ⟨n, hn, e⟩ : ∃ n : Nat, n = 10000 ∧ F_X3_sum_o2 P p σ = F_X3_sum_o2_7 P p n 0 (F_X3_product_o2 P p σ) := by
    unfold F_X3_sum_o2
    simp only [zlt]
    exact ⟨10000, rfl, rfl⟩
  rw [e]
  exact cSum hd hT hP (cProd_2 hd hT hP hN p hp) (F_X3_sum_o2_7 P p) (fun n x τ => by rw [F_X3_sum_o2_7]; simp only [zlt]) n (by omega) σ s n0 c h hz
theorem cUnit_1 (hd : zVd P tk kA vA qA N) (hT : zTK T m) (hP : tt ≠ P ∧ A6 ≠ P ∧ A7 ≠ P) (hN : zNn T m) (p : Int32) (hp : p.toInt = 1) (hS : ∀ p : Int32, p.toInt = 2 → zU2 P tk kA vA qA tt N m A6 A7 T (F_X3_sum_o2 P p) 2 11) : zU0 P tk kA vA qA tt N m A6 A7 T (F_X3_unit_o1 P p) 1 11 := by
  intro σ s n0 c h hz
  have e23 : (23 : Int32).toInt = 23 := by decide
  have e13 : (13 : Int32).toInt = 13 := by decide
  have e31 : (31 : Int32).toInt = 31 := by decide
  have e22 : (22 : Int32).toInt = 22 := by decide
  have e6 : (6 : Int32).toInt = 6 := by decide
  have r : (s.1 = 0 → (σ.1 P 3).toInt = T.1 s.2.2.1) ∧ (s.1 ≠ 0 → (σ.1 P 3).toInt = 34) := ⟨fun z => (h.2.2.2 z).2.2.1, fun z => (h.2.2.1 z).2⟩
  unfold F_X3_unit_o1
  simp only [zlt, e23, e13, e31, e22, e6]
  by_cases c1 : (σ.1 P 3).toInt = 23
  · rw [if_pos c1]
    have hc : s.1 = 0 := Classical.byContradiction (fun z => by have := r.2 z; omega)
    have rr := r.1 hc
    have cu : T.1 s.2.2.1 = 23 := by omega
    have v4 := (h.2.2.2 hc).2.2.2.1
    have tv := h.1.2.2.1 s.2.2.1
    refine cUnit0 hd hT hP hN 1 (by decide) h hz hc (Or.inl cu) _ _ ?_ ?_
    · unfold aUc
      rw [if_pos cu]
      exact (by decide : (0 : Int32).toInt = 0)
    · unfold aUc
      rw [if_pos cu, v4, ← tv.2.1]
      exact tv.2.2.1
  rw [if_neg c1]
  by_cases c2 : (σ.1 P 3).toInt < 13
  · rw [if_pos c2, if_neg (by omega), if_neg (by omega)]
    exact cUnitF hd 1 h 1 (by decide)
  rw [if_neg c2]
  by_cases c3 : (σ.1 P 3).toInt < 22
  · rw [if_pos c3]
    have hc : s.1 = 0 := Classical.byContradiction (fun z => by have := r.2 z; omega)
    have rr := r.1 hc
    refine cUnit0 hd hT hP hN 1 (by decide) h hz hc (Or.inr (by omega)) _ _ ?_ ?_
    · unfold aUc
      rw [if_neg (by omega)]
      exact (by decide : (1 : Int32).toInt = 1)
    · unfold aUc
      rw [if_neg (by omega), zb_sub (by rw [e13]; omega) (by rw [e13]; omega), e13, rr]
  rw [if_neg c3]
  by_cases c4 : (σ.1 P 3).toInt = 31
  · have hc : s.1 = 0 := Classical.byContradiction (fun z => by have := r.2 z; omega)
    have rr := r.1 hc
    rw [if_pos c4, if_pos (by omega)]
    have e1 : (1 : Int32).toInt = 1 := by decide
    exact cUnitB hd hT hP 1 (by decide) (hS (p + 1) (by rw [zb_add (by rw [hp, e1]; decide) (by rw [hp, e1]; decide), hp, e1]; rfl)) h hz hc (by omega)
  · rw [if_neg c4, if_neg c4]
    exact cUnitF hd 1 h 1 (by decide)
theorem cProd_1 (hd : zVd P tk kA vA qA N) (hT : zTK T m) (hP : tt ≠ P ∧ A6 ≠ P ∧ A7 ≠ P) (hN : zNn T m) (p : Int32) (hp : p.toInt = 1) : zU1 P tk kA vA qA tt N m A6 A7 T (F_X3_product_o1 P p) 1 12 := by
  intro σ s n0 c h hz
  obtain ⟨n, hn, e⟩ : ∃ n : Nat, n = 10000 ∧ F_X3_product_o1 P p σ = F_X3_product_o1_7 P p n 0 (F_X3_unit_o1 P p σ) := by
    unfold F_X3_product_o1
    simp only [zlt]
    exact ⟨10000, rfl, rfl⟩
  rw [e]
  exact cProd hd hT hP (cUnit_1 hd hT hP hN p hp (fun p hp => cSum_2 hd hT hP hN p hp)) (F_X3_product_o1_7 P p) (fun n x τ => by rw [F_X3_product_o1_7]; simp only [zlt]) n (by omega) σ s n0 c h hz
theorem cSum_1 (hd : zVd P tk kA vA qA N) (hT : zTK T m) (hP : tt ≠ P ∧ A6 ≠ P ∧ A7 ≠ P) (hN : zNn T m) (p : Int32) (hp : p.toInt = 1) : zU2 P tk kA vA qA tt N m A6 A7 T (F_X3_sum_o1 P p) 1 13 := by
  intro σ s n0 c h hz
  obtain ⟨n, hn, e⟩ : ∃ n : Nat, n = 10000 ∧ F_X3_sum_o1 P p σ = F_X3_sum_o1_7 P p n 0 (F_X3_product_o1 P p σ) := by
    unfold F_X3_sum_o1
    simp only [zlt]
    exact ⟨10000, rfl, rfl⟩
  rw [e]
  exact cSum hd hT hP (cProd_1 hd hT hP hN p hp) (F_X3_sum_o1_7 P p) (fun n x τ => by rw [F_X3_sum_o1_7]; simp only [zlt]) n (by omega) σ s n0 c h hz
theorem cUnit_0 (hd : zVd P tk kA vA qA N) (hT : zTK T m) (hP : tt ≠ P ∧ A6 ≠ P ∧ A7 ≠ P) (hN : zNn T m) (p : Int32) (hp : p.toInt = 0) (hS : ∀ p : Int32, p.toInt = 1 → zU2 P tk kA vA qA tt N m A6 A7 T (F_X3_sum_o1 P p) 1 13) : zU0 P tk kA vA qA tt N m A6 A7 T (F_X3_unit_o0 P p) 0 13 := by
  intro σ s n0 c h hz
  have e23 : (23 : Int32).toInt = 23 := by decide
  have e13 : (13 : Int32).toInt = 13 := by decide
  have e31 : (31 : Int32).toInt = 31 := by decide
  have e22 : (22 : Int32).toInt = 22 := by decide
  have e6 : (6 : Int32).toInt = 6 := by decide
  have r : (s.1 = 0 → (σ.1 P 3).toInt = T.1 s.2.2.1) ∧ (s.1 ≠ 0 → (σ.1 P 3).toInt = 34) := ⟨fun z => (h.2.2.2 z).2.2.1, fun z => (h.2.2.1 z).2⟩
  unfold F_X3_unit_o0
  simp only [zlt, e23, e13, e31, e22, e6]
  by_cases c1 : (σ.1 P 3).toInt = 23
  · rw [if_pos c1]
    have hc : s.1 = 0 := Classical.byContradiction (fun z => by have := r.2 z; omega)
    have rr := r.1 hc
    have cu : T.1 s.2.2.1 = 23 := by omega
    have v4 := (h.2.2.2 hc).2.2.2.1
    have tv := h.1.2.2.1 s.2.2.1
    refine cUnit0 hd hT hP hN 0 (by decide) h hz hc (Or.inl cu) _ _ ?_ ?_
    · unfold aUc
      rw [if_pos cu]
      exact (by decide : (0 : Int32).toInt = 0)
    · unfold aUc
      rw [if_pos cu, v4, ← tv.2.1]
      exact tv.2.2.1
  rw [if_neg c1]
  by_cases c2 : (σ.1 P 3).toInt < 13
  · rw [if_pos c2, if_neg (by omega), if_neg (by omega)]
    exact cUnitF hd 0 h 1 (by decide)
  rw [if_neg c2]
  by_cases c3 : (σ.1 P 3).toInt < 22
  · rw [if_pos c3]
    have hc : s.1 = 0 := Classical.byContradiction (fun z => by have := r.2 z; omega)
    have rr := r.1 hc
    refine cUnit0 hd hT hP hN 0 (by decide) h hz hc (Or.inr (by omega)) _ _ ?_ ?_
    · unfold aUc
      rw [if_neg (by omega)]
      exact (by decide : (1 : Int32).toInt = 1)
    · unfold aUc
      rw [if_neg (by omega), zb_sub (by rw [e13]; omega) (by rw [e13]; omega), e13, rr]
  rw [if_neg c3]
  by_cases c4 : (σ.1 P 3).toInt = 31
  · have hc : s.1 = 0 := Classical.byContradiction (fun z => by have := r.2 z; omega)
    have rr := r.1 hc
    rw [if_pos c4, if_pos (by omega)]
    have e1 : (1 : Int32).toInt = 1 := by decide
    exact cUnitB hd hT hP 0 (by decide) (hS (p + 1) (by rw [zb_add (by rw [hp, e1]; decide) (by rw [hp, e1]; decide), hp, e1]; rfl)) h hz hc (by omega)
  · rw [if_neg c4, if_neg c4]
    exact cUnitF hd 0 h 1 (by decide)
theorem cProd_0 (hd : zVd P tk kA vA qA N) (hT : zTK T m) (hP : tt ≠ P ∧ A6 ≠ P ∧ A7 ≠ P) (hN : zNn T m) (p : Int32) (hp : p.toInt = 0) : zU1 P tk kA vA qA tt N m A6 A7 T (F_X3_product_o0 P p) 0 14 := by
  intro σ s n0 c h hz
  obtain ⟨n, hn, e⟩ : ∃ n : Nat, n = 10000 ∧ F_X3_product_o0 P p σ = F_X3_product_o0_7 P p n 0 (F_X3_unit_o0 P p σ) := by
    unfold F_X3_product_o0
    simp only [zlt]
    exact ⟨10000, rfl, rfl⟩
  rw [e]
  exact cProd hd hT hP (cUnit_0 hd hT hP hN p hp (fun p hp => cSum_1 hd hT hP hN p hp)) (F_X3_product_o0_7 P p) (fun n x τ => by rw [F_X3_product_o0_7]; simp only [zlt]) n (by omega) σ s n0 c h hz
theorem cSum_0 (hd : zVd P tk kA vA qA N) (hT : zTK T m) (hP : tt ≠ P ∧ A6 ≠ P ∧ A7 ≠ P) (hN : zNn T m) (p : Int32) (hp : p.toInt = 0) : zU2 P tk kA vA qA tt N m A6 A7 T (F_X3_sum_o0 P p) 0 15 := by
  intro σ s n0 c h hz
  obtain ⟨n, hn, e⟩ : ∃ n : Nat, n = 10000 ∧ F_X3_sum_o0 P p σ = F_X3_sum_o0_7 P p n 0 (F_X3_product_o0 P p σ) := by
    unfold F_X3_sum_o0
    simp only [zlt]
    exact ⟨10000, rfl, rfl⟩
  rw [e]
  exact cSum hd hT hP (cProd_0 hd hT hP hN p hp) (F_X3_sum_o0_7 P p) (fun n x τ => by rw [F_X3_sum_o0_7]; simp only [zlt]) n (by omega) σ s n0 c h hz
/-- a whole expression of the class -/
theorem cExpr (hd : zVd P tk kA vA qA N) (hT : zTK T m) (hP : tt ≠ P ∧ A6 ≠ P ∧ A7 ≠ P) (hN : zNn T m) (h : zV P tk kA vA qA tt N m T σ s) (hc : s.1 = 0) (h1 : zCd tt A6 A7 n0 σ c) (h2 : n0 + c.length ≤ 10 + s.2.2.1) (hz : (aSum T s).1 = 0) : zCd tt A6 A7 n0 (F_X3_sum_o0 P 0 σ) (c ++ aCo T s) ∧ (aCo T s).length + s.2.2.1 ≤ (aSum T s).2.2.1 ∧ zWl (aCo T s) 0 15 1 := by
  have rm := (h.2.2.2 hc).1
  have rk := hT.2.1
  have q := vSumZ hd hT h
  obtain ⟨s', u1, u2⟩ := cSum_0 hd hT hP hN 0 (by decide) σ s n0 c h (fun _ => ⟨h1, h2⟩)
  have z' : s'.1 = 0 := u1.2.1.symm.trans (q.2.1.trans hz)
  obtain ⟨⟨y1, y2, y3, y4⟩, ew, w, y5, y6, y7, y8, k, y9⟩ := u2 z'
  have e : ∀ n, aX T (n + (k + 1)) true 0 s [] [] = (s', ew ++ flw w) := fun n => by
    have t := y9 [] [] (n + 1) (fun x st' e => by cases e)
    rw [show n + (k + 1) = n + 1 + k by omega, t, aX, if_neg (zne z'), if_neg y4, if_neg (by decide), pl_w w _ (fun x hx => ⟨y8 x hx, fun z => absurd z (by decide)⟩)]
    rfl
  obtain ⟨w1, w2⟩ := aCo_e e (fun _ => by omega)
  rw [w1, w2]
  exact ⟨y5, y6, y7⟩
end CX3
end
-- 35x73.lw6
section
/-! A LAW OF THE CLASS: its branches -/
abbrev zBr : Type := Option (zCs × zCs) × zCs
/-- the branches that a text tells -/
def aLb (T : zTn) : Nat → Int → zA → List zBr
  | 0, _, _ => []
  | k + 1, n, s => if n ≤ 4 ∧ s.1 = 0 ∧ T.1 s.2.2.1 = 10 then (some (aCo T (aTake T 10 s), aCo T (aTake T 30 (aSum T (aTake T 10 s)))), aCo T (aTake T 11 (aSum T (aTake T 30 (aSum T (aTake T 10 s)))))) :: aLb T k (n + 1) (aIf T n s) else [(none, aCo T s)]
/-- how the class puts them down from n on -/
def cBr : Nat → List zBr → zCs
  | _, [] => []
  | _, (none, v) :: _ => v ++ [(7, 0)]
  | n, (some (l, r), v) :: B => l ++ (r ++ ((6, ((n + l.length + r.length + v.length + 2 : Nat) : Int)) :: (v ++ ((7, 0) :: cBr (n + l.length + r.length + v.length + 2) B))))
/-- branches that can be gone through, the last without a condition -/
def okB : List zBr → Prop
  | [] => False
  | (none, v) :: _ => zWl v 0 15 1
  | (some (l, r), v) :: B => zWl l 0 15 1 ∧ zWl r 0 15 1 ∧ zWl v 0 15 1 ∧ okB B
section LAWC
variable {P tk kA vA qA tt N m A6 A7 A9 : Nat} {T : zTn} {σ σ' : zS} {s : zA} {k : Nat} {j : Int}
theorem aSum_z (h : (aSum T s).1 = 0) : s.1 = 0 := Classical.byContradiction (fun c => by rw [aSum_f c] at h; exact c h)
theorem aLw_z (h : (aLw T k j s).1 = 0) : s.1 = 0 := Classical.byContradiction (fun c => by
  cases k with
  | zero => exact c h
  | succ k =>
    rw [aLw, if_neg (fun z => c z.2.1), aSum_f c] at h
    exact c h)
theorem cSet {a b : zCs} {t : Int} {x y : Int32} (h : zCd tt A6 A7 0 σ (a ++ (6, 0) :: b)) (hx : x.toInt = a.length) (hy : y.toInt = t) (ha : a.length < 4000) : zCd tt A6 A7 0 (F_X9_setValue tt x y σ) (a ++ (6, t) :: b) := by
  obtain ⟨⟨⟨g6, g7⟩, ⟨n6, n7⟩, n67⟩, h8, hh⟩ := h
  have el : (a ++ (6, (0 : Int)) :: b).length = a.length + (b.length + 1) := by rw [List.length_append]; rfl
  have el2 : (a ++ (6, t) :: b).length = a.length + (b.length + 1) := by rw [List.length_append]; rfl
  have nx : x.toNatClampNeg = a.length := by rw [ztn, hx]; rfl
  have E : F_X9_setValue tt x y σ = (zu σ.1 A7 a.length y, σ.2.1, σ.2.2) := by
    unfold F_X9_setValue
    simp only [zlt]
    rw [if_neg (by omega), if_pos (by rw [h8, el]; omega)]
    simp only [g7, nx]
  obtain ⟨ha1, hb1⟩ := (zHo_app _ _ _).mp hh
  rw [E]
  refine ⟨⟨⟨g6, g7⟩, ⟨n6, n7⟩, n67⟩, ?_, (zHo_app _ _ _).mpr ⟨zHo_cg a 0 (fun i _ i2 => ⟨?_, ?_⟩) ha1, ⟨⟨?_, ?_⟩, zHo_cg b _ (fun i i1 _ => ⟨?_, ?_⟩) hb1.2⟩⟩⟩
  · show (zu σ.1 A7 _ y tt 8).toInt = _
    rw [zu_n _ _ _ (fun z => n7 z.symm), h8, el, el2]
  · show zu σ.1 A7 _ y A6 i = _
    rw [zu_n _ _ _ n67]
  · show zu σ.1 A7 _ y A7 i = _
    rw [zu_j _ _ _ _ _ (by omega)]
  · show (zu σ.1 A7 _ y A6 _).toInt = _
    rw [zu_n _ _ _ n67]
    exact hb1.1.1
  · show (zu σ.1 A7 _ y A7 (0 + a.length)).toInt = _
    rw [Nat.zero_add, zu_s]
    exact hy
  · show zu σ.1 A7 _ y A6 i = _
    rw [zu_n _ _ _ n67]
  · show zu σ.1 A7 _ y A7 i = _
    rw [zu_j _ _ _ _ _ (by omega)]
/-- what a law of the class writes, but for where it begins -/
def zAl (P tt A6 A7 : Nat) : Nat → Nat → Prop := fun b i => b = P ∨ (b = tt ∧ i = 8) ∨ b = A6 ∨ b = A7
theorem cLaw_loop (hd : zVd P tk kA vA qA N) (hT : zTK T m) (hP : tt ≠ P ∧ A6 ≠ P ∧ A7 ≠ P) (hN : zNn T m) {v7 p1 : Int32} {τ0 : zS} (h1 : (τ0.2.2 P 1).getD 0 = tt) (h67 : (τ0.2.2 tt 6).getD 0 = A6 ∧ (τ0.2.2 tt 7).getD 0 = A7) (h9 : (τ0.2.2 tt 9).getD 0 = A9) : ∀ (n : Nat) (x : Int32) (j : Nat) (τ : zS) (s : zA) (c : zCs), x.toInt = j → j ≤ 5 → 5 - j < n → zV P tk kA vA qA tt N m T τ s → zFi (zAl P tt A6 A7) τ0 τ → zCd tt A6 A7 0 τ c → c.length ≤ 10 + s.2.2.1 → ∀ k, 5 - j < k → (aLw T k j s).1 = 0 → ∃ τ', F_X3_law_23 v7 P p1 n x τ = (zu τ'.1 A9 p1.toNatClampNeg v7, τ'.2.1, τ'.2.2) ∧ zFi (zAl P tt A6 A7) τ0 τ' ∧ zCd tt A6 A7 0 τ' (c ++ cBr c.length (aLb T k j s)) ∧ (c ++ cBr c.length (aLb T k j s)).length ≤ 11 + (aLw T k j s).2.2.1 ∧ okB (aLb T k j s) := by
  have o6 : ∀ j, zAl P tt A6 A7 ((τ0.2.2 ((τ0.2.2 P 1).getD 0) 6).getD 0) j := fun j => by
    rw [h1, h67.1]
    exact Or.inr (Or.inr (Or.inl rfl))
  have o7 : ∀ j, zAl P tt A6 A7 ((τ0.2.2 ((τ0.2.2 P 1).getD 0) 7).getD 0) j := fun j => by
    rw [h1, h67.2]
    exact Or.inr (Or.inr (Or.inr rfl))
  have o8 : zAl P tt A6 A7 ((τ0.2.2 P 1).getD 0) 8 := by
    rw [h1]
    exact Or.inr (Or.inl ⟨rfl, rfl⟩)
  have q6 : ∀ j, zAl P tt A6 A7 ((τ0.2.2 tt 6).getD 0) j := fun j => by rw [h67.1]; exact Or.inr (Or.inr (Or.inl rfl))
  have q7 : ∀ j, zAl P tt A6 A7 ((τ0.2.2 tt 7).getD 0) j := fun j => by rw [h67.2]; exact Or.inr (Or.inr (Or.inr rfl))
  have fs : ∀ τ : zS, zFi (zAl P tt A6 A7) τ0 τ → zFi (zAl P tt A6 A7) τ0 (F_X3_sum_o0 P 0 τ) := fun τ g => fi_X3_sum_o0 g o6 o7 o8 (Or.inl rfl) (Or.inl rfl) (Or.inl rfl) (Or.inl rfl) (Or.inl rfl)
  have ft : ∀ (w : Int32) (τ : zS), zFi (zAl P tt A6 A7) τ0 τ → zFi (zAl P tt A6 A7) τ0 (F_X3_take P w τ) := fun w τ g => fi_X3_take g (Or.inl rfl) (Or.inl rfl) (Or.inl rfl) (Or.inl rfl) (Or.inl rfl)
  have fa : ∀ (x y : Int32) (τ : zS), zFi (zAl P tt A6 A7) τ0 τ → zFi (zAl P tt A6 A7) τ0 (F_X9_addStep tt x y τ) := fun x y τ g => fi_X9_addStep g q6 q7 (Or.inr (Or.inl ⟨rfl, rfl⟩))
  have fv : ∀ (x y : Int32) (τ : zS), zFi (zAl P tt A6 A7) τ0 τ → zFi (zAl P tt A6 A7) τ0 (F_X9_setValue tt x y τ) := fun x y τ g => fi_X9_setValue g q7
  have e4 : (4 : Int32).toInt = 4 := by decide
  have e10 : (10 : Int32).toInt = 10 := by decide
  have e70 : (7 : Int32).toInt = 7 := by decide
  have e60 : (6 : Int32).toInt = 6 := by decide
  have e00 : (0 : Int32).toInt = 0 := by decide
  have rk := hT.2.1
  intro n
  induction n with
  | zero => intro x j τ s _ _ _ h; exact absurd h (by omega)
  | succ n ih =>
    intro x j τ s c hx hj hm h hg hC hl k hk hw
    obtain ⟨k, rfl⟩ : ∃ q, k = q + 1 := ⟨k - 1, by omega⟩
    have cs : s.1 = 0 := aLw_z hw
    have fin : (aSum T s).1 = 0 → ∃ τ', (zu (F_X9_addStep (((F_X3_sum_o0 P 0 τ).2.2 P 1).getD 0) 7 0 (F_X3_sum_o0 P 0 τ)).1 (((F_X9_addStep (((F_X3_sum_o0 P 0 τ).2.2 P 1).getD 0) 7 0 (F_X3_sum_o0 P 0 τ)).2.2 (((F_X9_addStep (((F_X3_sum_o0 P 0 τ).2.2 P 1).getD 0) 7 0 (F_X3_sum_o0 P 0 τ)).2.2 P 1).getD 0) 9).getD 0) p1.toNatClampNeg v7, (F_X9_addStep (((F_X3_sum_o0 P 0 τ).2.2 P 1).getD 0) 7 0 (F_X3_sum_o0 P 0 τ)).2.1, (F_X9_addStep (((F_X3_sum_o0 P 0 τ).2.2 P 1).getD 0) 7 0 (F_X3_sum_o0 P 0 τ)).2.2) = (zu τ'.1 A9 p1.toNatClampNeg v7, τ'.2.1, τ'.2.2) ∧ zFi (zAl P tt A6 A7) τ0 τ' ∧ zCd tt A6 A7 0 τ' (c ++ (aCo T s ++ [(7, 0)])) ∧ (c ++ (aCo T s ++ [(7, 0)])).length ≤ 11 + (aSum T s).2.2.1 ∧ okB [(none, aCo T s)] := fun hz => by
      have q := vSumZ hd hT h
      rw [vtt q]
      have q2 := vStep q 7 0
      rw [vtt q2]
      obtain ⟨x1, x2, x3⟩ := cExpr hd hT hP hN h cs hC (by omega) hz
      have pm := (q.2.2.2 hz).1
      have l1 : (c ++ aCo T s).length = c.length + (aCo T s).length := List.length_append
      have st := cStep x1 (by omega) 7 0 e70 e00
      have g2 := fa 7 0 _ (fs τ hg)
      refine ⟨F_X9_addStep tt 7 0 (F_X3_sum_o0 P 0 τ), by rw [g2.1, h9], g2, by rw [← List.append_assoc]; exact st, ?_, x3⟩
      rw [← List.append_assoc, List.length_append, l1]
      show c.length + (aCo T s).length + 1 ≤ _
      omega
    rw [F_X3_law_23]
    simp only [zlt, e4, e10]
    rw [aLw] at hw ⊢
    rw [aLb]
    by_cases c0 : 4 < x.toInt
    · have nc : ¬ ((j : Int) ≤ 4 ∧ s.1 = 0 ∧ T.1 s.2.2.1 = 10) := fun z => by have := z.1; omega
      rw [if_neg nc] at hw
      rw [if_pos c0, if_neg nc, if_neg nc]
      exact fin hw
    rw [if_neg c0]
    by_cases c1 : (τ.1 P 3).toInt = 10
    · have r3 := (h.2.2.2 cs).2.2.1
      rw [if_pos (by omega : (j : Int) ≤ 4 ∧ s.1 = 0 ∧ T.1 s.2.2.1 = 10)] at hw ⊢
      rw [if_pos c1, if_pos (by omega : (j : Int) ≤ 4 ∧ s.1 = 0 ∧ T.1 s.2.2.1 = 10)]
      have zi := aLw_z hw
      have nj : ¬ (j : Int) = 4 := fun e => by
        have f : (aFail T 2 s).1 ≠ 0 := aFail_1 (by decide)
        unfold aIf at zi
        rw [if_pos e] at zi
        exact f (aTake_z (aSum_z (aTake_z (aSum_z (aTake_z (aSum_z (aTake_z zi)))))))
      rw [if_neg (by omega)]
      have ei : aIf T j s = aTake T 12 (aSum T (aTake T 11 (aSum T (aTake T 30 (aSum T (aTake T 10 s)))))) := by
        unfold aIf
        rw [if_neg nj]
      rw [ei] at hw zi ⊢
      obtain ⟨s1, hs1⟩ : ∃ s1, s1 = aTake T 10 s := ⟨_, rfl⟩
      obtain ⟨s2, hs2⟩ : ∃ s2, s2 = aSum T s1 := ⟨_, rfl⟩
      obtain ⟨s3, hs3⟩ : ∃ s3, s3 = aTake T 30 s2 := ⟨_, rfl⟩
      obtain ⟨s4, hs4⟩ : ∃ s4, s4 = aSum T s3 := ⟨_, rfl⟩
      obtain ⟨s5, hs5⟩ : ∃ s5, s5 = aTake T 11 s4 := ⟨_, rfl⟩
      obtain ⟨s6, hs6⟩ : ∃ s6, s6 = aSum T s5 := ⟨_, rfl⟩
      obtain ⟨s7, hs7⟩ : ∃ s7, s7 = aTake T 12 s6 := ⟨_, rfl⟩
      rw [← hs1, ← hs2, ← hs3, ← hs4, ← hs5, ← hs6, ← hs7] at hw zi
      rw [← hs1, ← hs2, ← hs3, ← hs4, ← hs5, ← hs6, ← hs7]
      have a1 := vTake' hd hT h 10 10 (by decide) (by decide)
      rw [← hs1] at a1
      have a2 := vSumZ hd hT a1
      rw [← hs2] at a2
      have a3 := vTake' hd hT a2 30 30 (by decide) (by decide)
      rw [← hs3] at a3
      have a4 := vSumZ hd hT a3
      rw [← hs4] at a4
      have a5 := vTake' hd hT a4 11 11 (by decide) (by decide)
      rw [← hs5] at a5
      have zi6 : s6.1 = 0 := by rw [hs7] at zi; exact aTake_z zi
      have zi5 : s5.1 = 0 := by rw [hs6] at zi6; exact aSum_z zi6
      have zi4 : s4.1 = 0 := by rw [hs5] at zi5; exact aTake_z zi5
      have zi3 : s3.1 = 0 := by rw [hs4] at zi4; exact aSum_z zi4
      have zi2 : s2.1 = 0 := by rw [hs3] at zi3; exact aTake_z zi3
      have zi1 : s1.1 = 0 := by rw [hs2] at zi2; exact aSum_z zi2
      have t1 := aTake_i (by rw [← hs1]; exact zi1 : (aTake T 10 s).1 = 0)
      have t3 := aTake_i (by rw [← hs3]; exact zi3 : (aTake T 30 s2).1 = 0)
      have t5 := aTake_i (by rw [← hs5]; exact zi5 : (aTake T 11 s4).1 = 0)
      have t7 := aTake_i (by rw [← hs7]; exact zi : (aTake T 12 s6).1 = 0)
      rw [← hs1] at t1
      rw [← hs3] at t3
      rw [← hs5] at t5
      rw [← hs7] at t7
      obtain ⟨b1, b2, o1⟩ := cExpr hd hT hP hN a1 zi1 (cTake hC hP 10) (by omega) (by rw [← hs2]; exact zi2)
      rw [← hs2] at b2
      have l1 : (c ++ aCo T s1).length = c.length + (aCo T s1).length := List.length_append
      obtain ⟨b3, b4, o2⟩ := cExpr hd hT hP hN a3 zi3 (cTake b1 hP 30) (by rw [l1]; omega) (by rw [← hs4]; exact zi4)
      rw [← hs4] at b4
      have l2 : (c ++ aCo T s1 ++ aCo T s3).length = c.length + (aCo T s1).length + (aCo T s3).length := by rw [List.length_append, l1]
      have b5 := cTake b3 hP 11
      have p5 := (a5.2.2.2 zi5).1
      rw [vtt a5]
      have b6 := cStep b5 (by rw [l2]; omega) 6 0 e60 e00
      have a6 := vStep a5 6 0
      have a7 := vSumZ hd hT a6
      rw [← hs6] at a7
      have l3 : (c ++ aCo T s1 ++ aCo T s3 ++ [((6 : Int), (0 : Int))]).length = c.length + (aCo T s1).length + (aCo T s3).length + 1 := by rw [List.length_append, l2]; rfl
      obtain ⟨b7, b8, o3⟩ := cExpr hd hT hP hN a6 zi5 b6 (by rw [l3]; omega) (by rw [← hs6]; exact zi6)
      rw [← hs6] at b8
      have a8 := vTake' hd hT a7 12 12 (by decide) (by decide)
      rw [← hs7] at a8
      rw [vtt a8]
      have p7 := (a8.2.2.2 zi).1
      have l4 : (c ++ aCo T s1 ++ aCo T s3 ++ [((6 : Int), (0 : Int))] ++ aCo T s5).length = c.length + (aCo T s1).length + (aCo T s3).length + 1 + (aCo T s5).length := by rw [List.length_append, l3]
      have b9 := cStep (cTake b7 hP 12) (by rw [l4]; omega) 7 0 e70 e00
      have a9 := vStep a8 7 0
      rw [vtt a9]
      have ass : c ++ aCo T s1 ++ aCo T s3 ++ [((6 : Int), (0 : Int))] ++ aCo T s5 ++ [((7 : Int), (0 : Int))] = (c ++ aCo T s1 ++ aCo T s3) ++ (6, 0) :: (aCo T s5 ++ [(7, 0)]) := by simp only [List.append_assoc, List.cons_append, List.nil_append]
      have l5 : (c ++ aCo T s1 ++ aCo T s3 ++ [((6 : Int), (0 : Int))] ++ aCo T s5 ++ [((7 : Int), (0 : Int))]).length = c.length + (aCo T s1).length + (aCo T s3).length + (aCo T s5).length + 2 := by
        rw [List.length_append, l4]
        show _ + 1 = _
        omega
      have v47 := b5.2.1
      have v62 := b9.2.1
      rw [l5] at v62
      rw [ass] at b9
      have b10 := cSet (t := ((c.length + (aCo T s1).length + (aCo T s3).length + (aCo T s5).length + 2 : Nat) : Int)) b9 (by rw [v47]; omega) (by rw [v62]; omega) (by rw [l2]; omega)
      have l6 : ((c ++ aCo T s1 ++ aCo T s3) ++ (6, ((c.length + (aCo T s1).length + (aCo T s3).length + (aCo T s5).length + 2 : Nat) : Int)) :: (aCo T s5 ++ [(7, 0)])).length = c.length + (aCo T s1).length + (aCo T s3).length + (aCo T s5).length + 2 := by
        rw [List.length_append, l2, List.length_cons, List.length_append]
        show _ + (_ + 1 + 1) = _
        omega
      have g10 := fun x y : Int32 => fv x y _ (fa 7 0 _ (ft 12 _ (fs _ (fa 6 0 _ (ft 11 _ (fs _ (ft 30 _ (fs _ (ft 10 _ hg)))))))))
      obtain ⟨τ', w1, w2, w3, w4, w5⟩ := ih (x + (1 : Int32)) (j + 1) _ s7 _ (zp1 hx (by omega)) (by omega) (by omega) (vSetV a9 _ _) (g10 _ _) b10 (by rw [l6]; omega) k (by omega) (by rw [show ((j + 1 : Nat) : Int) = (j : Int) + 1 by omega]; exact hw)
      rw [l6] at w3 w4
      rw [show ((j + 1 : Nat) : Int) = (j : Int) + 1 by omega] at w3 w4 w5
      have eB : c ++ cBr c.length ((some (aCo T s1, aCo T s3), aCo T s5) :: aLb T k ((j : Int) + 1) s7) = (c ++ aCo T s1 ++ aCo T s3) ++ (6, ((c.length + (aCo T s1).length + (aCo T s3).length + (aCo T s5).length + 2 : Nat) : Int)) :: (aCo T s5 ++ [(7, 0)]) ++ cBr (c.length + (aCo T s1).length + (aCo T s3).length + (aCo T s5).length + 2) (aLb T k ((j : Int) + 1) s7) := by
        rw [cBr]
        simp only [List.append_assoc, List.cons_append, List.nil_append]
      rw [eB]
      exact ⟨τ', w1, w2, w3, w4, o1, o2, o3, w5⟩
    · have r3 := (h.2.2.2 cs).2.2.1
      have nc : ¬ ((j : Int) ≤ 4 ∧ s.1 = 0 ∧ T.1 s.2.2.1 = 10) := fun z => c1 (by rw [r3]; exact z.2.2)
      rw [if_neg nc] at hw
      rw [if_neg c1, if_neg nc, if_neg nc]
      exact fin hw
end LAWC
end
-- 35x74.lw7
section
/-! A LAW OF THE REFERENCE: its branches -/
/-- codes from lo to hi, all ahead of M, none ahead of cl -/
def zSg (Y : Nat → Nat) (cl : Nat) (τ : zS) (M : Nat) (lo hi : Int32) (L : zCs) : Prop := ∃ i : Nat, lo.toInt = i ∧ hi.toInt = i + L.length ∧ zHo (Y 39) (Y 40) τ i L ∧ i + L.length ≤ M ∧ cl ≤ i
/-- one branch -/
def zB1 (Y : Nat → Nat) (cl : Nat) (τ : zS) (M b : Nat) : zBr → Prop
  | (none, v) => (τ.1 (Y 33) b).toInt = 0 ∧ zSg Y cl τ M (τ.1 (Y 36) b) (τ.1 (Y 37) b) v
  | (some (l, r), v) => (τ.1 (Y 33) b).toInt = 1 ∧ zSg Y cl τ M (τ.1 (Y 34) b) (τ.1 (Y 35) b) l ∧ zSg Y cl τ M (τ.1 (Y 35) b) (τ.1 (Y 36) b) r ∧ zSg Y cl τ M (τ.1 (Y 36) b) (τ.1 (Y 37) b) v
/-- the branches from b on -/
def zBz (Y : Nat → Nat) (cl : Nat) (τ : zS) (M : Nat) : Nat → List zBr → Prop
  | _, [] => True
  | b, x :: B => zB1 Y cl τ M b x ∧ zBz Y cl τ M (b + 1) B
section BZ
variable {Y : Nat → Nat} {τ τ' : zS} {M M' cl : Nat}
theorem zSg.cg {lo hi : Int32} {L : zCs} (h : zSg Y cl τ M lo hi L) (hM : M ≤ M') (e : ∀ i, cl ≤ i → i < M → τ'.1 (Y 39) i = τ.1 (Y 39) i ∧ τ'.1 (Y 40) i = τ.1 (Y 40) i) : zSg Y cl τ' M' lo hi L := by
  obtain ⟨i, h1, h2, h3, h4, h5⟩ := h
  exact ⟨i, h1, h2, zHo_cg L i (fun j j1 j2 => e j (by omega) (by omega)) h3, by omega, h5⟩
theorem zB1.cg {b : Nat} {x : zBr} (h : zB1 Y cl τ M b x) (hM : M ≤ M') (e : ∀ i, cl ≤ i → i < M → τ'.1 (Y 39) i = τ.1 (Y 39) i ∧ τ'.1 (Y 40) i = τ.1 (Y 40) i) (r : ∀ j, 33 ≤ j → j ≤ 37 → τ'.1 (Y j) b = τ.1 (Y j) b) : zB1 Y cl τ' M' b x := by
  obtain ⟨o, v⟩ := x
  cases o with
  | none =>
    obtain ⟨h1, h2⟩ := h
    refine ⟨?_, ?_⟩
    · rw [r 33 (by omega) (by omega)]
      exact h1
    · rw [r 36 (by omega) (by omega), r 37 (by omega) (by omega)]
      exact h2.cg hM e
  | some lr =>
    obtain ⟨l, q⟩ := lr
    obtain ⟨h1, h2, h3, h4⟩ := h
    refine ⟨?_, ?_, ?_, ?_⟩
    · rw [r 33 (by omega) (by omega)]
      exact h1
    · rw [r 34 (by omega) (by omega), r 35 (by omega) (by omega)]
      exact h2.cg hM e
    · rw [r 35 (by omega) (by omega), r 36 (by omega) (by omega)]
      exact h3.cg hM e
    · rw [r 36 (by omega) (by omega), r 37 (by omega) (by omega)]
      exact h4.cg hM e
theorem zBz_cg (hM : M ≤ M') (e : ∀ i, cl ≤ i → i < M → τ'.1 (Y 39) i = τ.1 (Y 39) i ∧ τ'.1 (Y 40) i = τ.1 (Y 40) i) : ∀ (B : List zBr) (b : Nat), (∀ j i, 33 ≤ j → j ≤ 37 → b ≤ i → i < b + B.length → τ'.1 (Y j) i = τ.1 (Y j) i) → zBz Y cl τ M b B → zBz Y cl τ' M' b B := by
  intro B
  induction B with
  | nil => intro b _ _; exact trivial
  | cons x B ih =>
    intro b r h
    exact ⟨h.1.cg hM e (fun j j1 j2 => r j b j1 j2 (Nat.le_refl _) (by rw [List.length_cons]; omega)), ih (b + 1) (fun j i j1 j2 i1 i2 => r j i j1 j2 (by omega) (by rw [List.length_cons]; omega)) h.2⟩
end BZ
end
-- 35x75.lw8
section
/-! WHAT CODES ARE WORTH -/
def opv (k : Int) (x y : Int32) : Int32 := if k = 2 then x + y else if k = 3 then x - y else if k = 4 then x * y else x / y
def ev2 (k : Int) : List Int32 → Option (List Int32)
  | y :: x :: r => if k = 5 ∧ y.toInt = 0 then none else some (opv k x y :: r)
  | _ => none
/-- codes gone through on a pile (top first); none: a division by nothing -/
def evC (ft : Nat → Int32) : zCs → List Int32 → Option (List Int32)
  | [], st => some st
  | c :: L, st => if c.1 = 0 then evC ft L (Int32.ofInt c.2 :: st) else if c.1 = 1 then evC ft L (ft c.2.toNat :: st) else (ev2 c.1 st).bind (evC ft L)
theorem evC_0 {ft : Nat → Int32} {c : Int × Int} {L : zCs} {st : List Int32} (h : c.1 = 0) : evC ft (c :: L) st = evC ft L (Int32.ofInt c.2 :: st) := by rw [evC, if_pos h]
theorem evC_1 {ft : Nat → Int32} {c : Int × Int} {L : zCs} {st : List Int32} (h : c.1 = 1) : evC ft (c :: L) st = evC ft L (ft c.2.toNat :: st) := by rw [evC, if_neg (by omega), if_pos h]
theorem evC_z {ft : Nat → Int32} {c : Int × Int} {L : zCs} {x y : Int32} {st : List Int32} (h : c.1 = 5 ∧ y.toInt = 0) : evC ft (c :: L) (y :: x :: st) = none := by
  rw [evC, if_neg (by omega), if_neg (by omega), ev2, if_pos h]
  rfl
theorem evC_2 {ft : Nat → Int32} {c : Int × Int} {L : zCs} {x y : Int32} {st : List Int32} (h : 2 ≤ c.1) (z : ¬ (c.1 = 5 ∧ y.toInt = 0)) : evC ft (c :: L) (y :: x :: st) = evC ft L (opv c.1 x y :: st) := by
  rw [evC, if_neg (by omega), if_neg (by omega), ev2, if_neg z]
  rfl
def zSk (f : Nat → Int32) : List Int32 → Prop
  | [] => True
  | x :: st => f st.length = x ∧ zSk f st
theorem zSk_cg {f g : Nat → Int32} : ∀ st : List Int32, (∀ i, i < st.length → g i = f i) → zSk f st → zSk g st := by
  intro st
  induction st with
  | nil => intro _ _; exact trivial
  | cons x st ih =>
    intro e h
    refine ⟨?_, ih (fun i hi => e i (by rw [List.length_cons]; omega)) h.2⟩
    rw [e st.length (by rw [List.length_cons]; omega)]
    exact h.1
/-- what lies deeper doesn't bear on it -/
theorem evC_sh {ft : Nat → Int32} {m d' : Nat} {r : List Int32} : ∀ (L : zCs) (d : Nat) (st : List Int32), st.length = d → zWl L d m d' → (evC ft L st = none ∧ evC ft L (st ++ r) = none) ∨ ∃ st', evC ft L st = some st' ∧ st'.length = d' ∧ evC ft L (st ++ r) = some (st' ++ r) := by
  intro L
  induction L with
  | nil =>
    intro d st hd h
    exact Or.inr ⟨st, rfl, hd.trans h, rfl⟩
  | cons c L ih =>
    intro d st hd h
    rcases h with ⟨h1, h2, h3⟩ | ⟨h1, h2, h3, h4⟩
    · rcases h1 with ⟨c0, -⟩ | ⟨c1, -⟩
      · have q := ih (d + 1) (Int32.ofInt c.2 :: st) (by rw [List.length_cons, hd]) h3
        rw [evC_0 c0, evC_0 c0]
        exact q
      · have q := ih (d + 1) (ft c.2.toNat :: st) (by rw [List.length_cons, hd]) h3
        rw [evC_1 c1, evC_1 c1]
        exact q
    · cases st with
      | nil => rw [List.length_nil] at hd; omega
      | cons y st =>
        cases st with
        | nil => rw [List.length_cons, List.length_nil] at hd; omega
        | cons x st =>
          rw [List.length_cons, List.length_cons] at hd
          have q := ih (d - 1) (opv c.1 x y :: st) (by rw [List.length_cons]; omega) h4
          have e : y :: x :: st ++ r = y :: x :: (st ++ r) := rfl
          rw [e]
          by_cases z : c.1 = 5 ∧ y.toInt = 0
          · rw [evC_z z, evC_z z]
            exact Or.inl ⟨rfl, rfl⟩
          · rw [evC_2 h1 z, evC_2 h1 z]
            exact q
/-- the worth of an expression -/
def vlC (ft : Nat → Int32) (L : zCs) : Option Int32 := match evC ft L [] with
  | some (x :: _) => some x
  | _ => none
/-- the worth of a law -/
def evB (ft : Nat → Int32) : List zBr → Int32
  | [] => 0
  | (none, v) :: _ => (vlC ft v).getD 0
  | (some (l, r), v) :: B => match vlC ft l, vlC ft r with
    | some a, some b => if a.toInt < b.toInt then (vlC ft v).getD 0 else evB ft B
    | _, _ => 0
theorem vlC_2 {ft : Nat → Int32} {m : Nat} {L : zCs} (h : zWl L 0 m 1) (r : List Int32) : (vlC ft L = none ∧ evC ft L r = none) ∨ ∃ x, vlC ft L = some x ∧ evC ft L r = some (x :: r) := by
  rcases evC_sh (ft := ft) (r := r) L 0 [] rfl h with ⟨h1, h2⟩ | ⟨st', h1, h2, h3⟩
  · left
    unfold vlC
    rw [h1]
    exact ⟨rfl, h2⟩
  · cases st' with
    | nil => rw [List.length_nil] at h2; omega
    | cons x st' =>
      cases st' with
      | nil =>
        right
        unfold vlC
        rw [h1]
        exact ⟨x, rfl, h3⟩
      | cons y st' => rw [List.length_cons, List.length_cons] at h2; omega
theorem ofI {x : Int32} {v : Int} (h : x.toInt = v) : x = Int32.ofInt v := by rw [← h, Int32.ofInt_toInt]
end
-- 35x76.lw9
section
/-! THE CLASS WORKS CODES OUT -/
section EVC
variable {a tt A F A6 A7 K : Nat} {p2 : Int32} {ft : Nat → Int32} {t0 : zS}
/-- pile A, facts F, codes A6 A7 of the told tt, K codes in all -/
def zEc (a tt A F A6 A7 K : Nat) (ft : Nat → Int32) (t0 : zS) : Prop := ((t0.2.2 a 1).getD 0 = A ∧ (t0.2.2 a 0).getD 0 = F ∧ (t0.2.2 tt 6).getD 0 = A6 ∧ (t0.2.2 tt 7).getD 0 = A7) ∧ (F ≠ A ∧ A6 ≠ A ∧ A7 ≠ A ∧ tt ≠ A) ∧ (t0.1 tt 8).toInt = K ∧ K ≤ 420 ∧ ∀ i, i < 9 → t0.1 F i = ft i
/-- where it stands: step k, at code i, the pile st -/
def zEw (A : Nat) (t0 : zS) (i : Nat) (st : List Int32) (n k : Nat) (x5 x6 x7 : Int32) (τ : zS) : Prop := x5.toInt = k ∧ k ≤ i ∧ 430 < n + k ∧ x6.toInt = i ∧ x7.toInt = st.length ∧ zSk (τ.1 A) st ∧ zFr (fun c _ => c = A) t0 τ
section STEP
variable {i n k : Nat} {st : List Int32} {x5 x6 x7 : Int32} {τ : zS}
theorem zEw_b (E : zEc a tt A F A6 A7 K ft t0) (s : zEw A t0 i st (n + 1) k x5 x6 x7 τ) (hi : i < K) : τ.2.2 = t0.2.2 ∧ (τ.1 tt 8).toInt = K ∧ x6.toNatClampNeg = i ∧ τ.1 A6 i = t0.1 A6 i ∧ τ.1 A7 i = t0.1 A7 i ∧ x7.toNatClampNeg = st.length ∧ (x5 + (1 : Int32)).toInt = ((k + 1 : Nat) : Int) ∧ (x6 + (1 : Int32)).toInt = ((i + 1 : Nat) : Int) := by
  obtain ⟨-, ⟨nF, n6, n7, nt⟩, hK, hK2, -⟩ := E
  obtain ⟨h5, hk, hn, h6, h7, hs, g⟩ := s
  exact ⟨g.rf, by rw [g.2 tt 8 nt]; exact hK, by rw [ztn, h6]; rfl, g.2 _ _ n6, g.2 _ _ n7, by rw [ztn, h7]; rfl, zp1 h5 (by omega), zp1 h6 (by omega)⟩
/-- what every step tests -/
theorem cPre (E : zEc a tt A F A6 A7 K ft t0) (s : zEw A t0 i st (n + 1) k x5 x6 x7 τ) (hi : i < K) : x5.toInt < 420 ∧ ¬ x6.toInt < 0 ∧ x6.toInt < (K : Int) := by
  obtain ⟨-, -, -, hK2, -⟩ := E
  obtain ⟨h5, hk5, hn, h6, h7, -, -⟩ := s
  exact ⟨by omega, by omega, by omega⟩
theorem cPr2 {x y : Int32} (s : zEw A t0 i (y :: x :: st) (n + 1) k x5 x6 x7 τ) : ¬ x7.toInt < 2 ∧ (x7 + (-1 : Int32)).toNatClampNeg = st.length + 1 ∧ (x7 + (-1 : Int32) - (1 : Int32)).toNatClampNeg = st.length ∧ τ.1 A (st.length + 1) = y ∧ τ.1 A st.length = x := by
  obtain ⟨-, -, -, -, h7', hs, -⟩ := s
  rw [List.length_cons, List.length_cons] at h7'
  obtain ⟨hy, hx, hs'⟩ := hs
  rw [List.length_cons] at hy
  have e1 : (1 : Int32).toInt = 1 := by decide
  have em : (-1 : Int32).toInt = -1 := by decide
  have b := zb_rng x7
  have m1 : (x7 + (-1 : Int32)).toInt = ((st.length + 1 : Nat) : Int) := by rw [zb_add (by rw [em]; omega) (by rw [em]; omega), em]; omega
  have m2 : (x7 + (-1 : Int32) - (1 : Int32)).toInt = (st.length : Int) := by rw [zb_sub (by rw [m1, e1]; omega) (by rw [m1, e1]; omega), m1, e1]; omega
  exact ⟨by omega, by rw [ztn, m1]; rfl, by rw [ztn, m2]; rfl, hy, hx⟩
theorem cS_c (E : zEc a tt A F A6 A7 K ft t0) (s : zEw A t0 i st (n + 1) k x5 x6 x7 τ) (hi : i < K) (hk : (t0.1 A6 i).toInt = 0) (hv : 0 ≤ (t0.1 A7 i).toInt) (hl : st.length < 32) : F_X0_answer_13 a tt p2 (n + 1) x5 x6 x7 τ = F_X0_answer_13 a tt p2 n (x5 + (1 : Int32)) (x6 + (1 : Int32)) (x7 + (1 : Int32)) (zu τ.1 A st.length (t0.1 A7 i), τ.2.1, t0.2.2) := by
  obtain ⟨r0, t8, w6, c6, c7, w7, -, -⟩ := zEw_b E s hi
  obtain ⟨q1, q2, q3⟩ := cPre E s hi
  obtain ⟨⟨gA, gF, g6, g7⟩, -, -, hK2, -⟩ := E
  have q4 : x7.toInt < 32 := by have := s.2.2.2.2.1; omega
  have q5 : ¬ (t0.1 A7 i).toInt < 0 := by omega
  have e1 : (1 : Int32).toInt = 1 := by decide
  have e2 : (2 : Int32).toInt = 2 := by decide
  have e7 : (7 : Int32).toInt = 7 := by decide
  have e9 : (9 : Int32).toInt = 9 := by decide
  have e32 : (32 : Int32).toInt = 32 := by decide
  have e420 : (420 : Int32).toInt = 420 := by decide
  have nk1 : ¬ (0 : Int) = 1 := by decide
  have nk2 : ¬ (0 : Int) = 2 := by decide
  have nk3 : ¬ (0 : Int) = 3 := by decide
  have nk4 : ¬ (0 : Int) = 4 := by decide
  have nk5 : ¬ (0 : Int) = 5 := by decide
  have nk7 : ¬ (0 : Int) = 7 := by decide
  rw [F_X0_answer_13]
  simp only [↓zlt, r0, g6, g7, gA, w6, c6, c7, t8, w7, e7, e32, e1, e420, hk, nk1, nk2, nk3, nk4, nk5, nk7, q1, q2, q3, q4, q5, if_true, if_false]
theorem cS_f (E : zEc a tt A F A6 A7 K ft t0) (s : zEw A t0 i st (n + 1) k x5 x6 x7 τ) (hi : i < K) (hk : (t0.1 A6 i).toInt = 1) {v : Nat} (hv : (t0.1 A7 i).toInt = v) (hv9 : v < 9) (hl : st.length < 32) : F_X0_answer_13 a tt p2 (n + 1) x5 x6 x7 τ = F_X0_answer_13 a tt p2 n (x5 + (1 : Int32)) (x6 + (1 : Int32)) (x7 + (1 : Int32)) (zu τ.1 A st.length (ft v), τ.2.1, t0.2.2) := by
  obtain ⟨r0, t8, w6, c6, c7, w7, -, -⟩ := zEw_b E s hi
  obtain ⟨q1, q2, q3⟩ := cPre E s hi
  have g := s.2.2.2.2.2.2
  obtain ⟨⟨gA, gF, g6, g7⟩, ⟨nF, -⟩, -, hK2, hf⟩ := E
  have q4 : x7.toInt < 32 := by have := s.2.2.2.2.1; omega
  have q5 : ¬ (t0.1 A7 i).toInt < 0 := by omega
  have q6 : (t0.1 A7 i).toInt < 9 := by omega
  have wv : (t0.1 A7 i).toNatClampNeg = v := by rw [ztn, hv]; rfl
  have fv : τ.1 F v = ft v := (g.2 _ _ nF).trans (hf _ hv9)
  have e1 : (1 : Int32).toInt = 1 := by decide
  have e2 : (2 : Int32).toInt = 2 := by decide
  have e7 : (7 : Int32).toInt = 7 := by decide
  have e9 : (9 : Int32).toInt = 9 := by decide
  have e32 : (32 : Int32).toInt = 32 := by decide
  have e420 : (420 : Int32).toInt = 420 := by decide
  have nk0 : ¬ (1 : Int) = 0 := by decide
  have nk2 : ¬ (1 : Int) = 2 := by decide
  have nk3 : ¬ (1 : Int) = 3 := by decide
  have nk4 : ¬ (1 : Int) = 4 := by decide
  have nk5 : ¬ (1 : Int) = 5 := by decide
  have nk7 : ¬ (1 : Int) = 7 := by decide
  rw [F_X0_answer_13]
  simp only [↓zlt, r0, g6, g7, gA, gF, w6, c6, c7, t8, w7, e7, e9, e32, e1, e420, hk, nk0, nk2, nk3, nk4, nk5, nk7, q1, q2, q3, q4, q5, q6, wv, fv, if_true, if_false]
theorem cS_7 {x : Int32} (E : zEc a tt A F A6 A7 K ft t0) (s : zEw A t0 i (x :: st) (n + 1) k x5 x6 x7 τ) (hi : i < K) (hk : (t0.1 A6 i).toInt = 7) : F_X0_answer_13 a tt p2 (n + 1) x5 x6 x7 τ = (x, τ) := by
  obtain ⟨r0, t8, w6, c6, c7, w7, -, -⟩ := zEw_b E s hi
  obtain ⟨q1, q2, q3⟩ := cPre E s hi
  obtain ⟨⟨gA, gF, g6, g7⟩, -, -, hK2, -⟩ := E
  obtain ⟨-, -, -, -, h7, hs, -⟩ := s
  rw [List.length_cons] at h7
  have b := zb_rng x7
  have q4 : 0 < x7.toInt := by omega
  have e1 : (1 : Int32).toInt = 1 := by decide
  have e2 : (2 : Int32).toInt = 2 := by decide
  have e7 : (7 : Int32).toInt = 7 := by decide
  have e9 : (9 : Int32).toInt = 9 := by decide
  have e32 : (32 : Int32).toInt = 32 := by decide
  have e420 : (420 : Int32).toInt = 420 := by decide
  have m1 : (x7 - (1 : Int32)).toInt = (st.length : Int) := by rw [zb_sub (by rw [e1]; omega) (by rw [e1]; omega), e1]; omega
  have w1 : (x7 - (1 : Int32)).toNatClampNeg = st.length := by rw [ztn, m1]; rfl
  have hx : τ.1 A st.length = x := hs.1
  have nk0 : ¬ (7 : Int) = 0 := by decide
  have nk1 : ¬ (7 : Int) = 1 := by decide
  have nk2 : ¬ (7 : Int) = 2 := by decide
  have nk3 : ¬ (7 : Int) = 3 := by decide
  have nk4 : ¬ (7 : Int) = 4 := by decide
  have nk5 : ¬ (7 : Int) = 5 := by decide
  rw [F_X0_answer_13]
  simp only [↓zlt, r0, g6, g7, gA, w6, c6, c7, t8, w1, e7, e1, e420, hk, nk0, nk1, nk2, nk3, nk4, nk5, hx, q1, q2, q3, q4, if_true, if_false]
theorem cS_a {x y : Int32} (E : zEc a tt A F A6 A7 K ft t0) (s : zEw A t0 i (y :: x :: st) (n + 1) k x5 x6 x7 τ) (hi : i < K) (hk : (t0.1 A6 i).toInt = 2) : F_X0_answer_13 a tt p2 (n + 1) x5 x6 x7 τ = F_X0_answer_13 a tt p2 n (x5 + (1 : Int32)) (x6 + (1 : Int32)) (x7 + (-1 : Int32)) (zu τ.1 A st.length (x + y), τ.2.1, t0.2.2) := by
  obtain ⟨r0, t8, w6, c6, c7, w7, -, -⟩ := zEw_b E s hi
  obtain ⟨q1, q2, q3⟩ := cPre E s hi
  obtain ⟨⟨gA, gF, g6, g7⟩, -, -, hK2, -⟩ := E
  obtain ⟨q4, w1, w2, hy, hx⟩ := cPr2 s
  have e1 : (1 : Int32).toInt = 1 := by decide
  have e2 : (2 : Int32).toInt = 2 := by decide
  have e7 : (7 : Int32).toInt = 7 := by decide
  have e9 : (9 : Int32).toInt = 9 := by decide
  have e32 : (32 : Int32).toInt = 32 := by decide
  have e420 : (420 : Int32).toInt = 420 := by decide
  have nk0 : ¬ (2 : Int) = 0 := by decide
  have nk1 : ¬ (2 : Int) = 1 := by decide
  have nk3 : ¬ (2 : Int) = 3 := by decide
  have nk4 : ¬ (2 : Int) = 4 := by decide
  have nk5 : ¬ (2 : Int) = 5 := by decide
  have nk7 : ¬ (2 : Int) = 7 := by decide
  rw [F_X0_answer_13]
  simp only [↓zlt, r0, g6, g7, gA, w6, c6, c7, t8, w1, w2, hy, hx, e7, e1, e2, e420, hk, nk0, nk1, nk3, nk4, nk5, nk7, q1, q2, q3, q4, if_true, if_false]
theorem cS_s {x y : Int32} (E : zEc a tt A F A6 A7 K ft t0) (s : zEw A t0 i (y :: x :: st) (n + 1) k x5 x6 x7 τ) (hi : i < K) (hk : (t0.1 A6 i).toInt = 3) : F_X0_answer_13 a tt p2 (n + 1) x5 x6 x7 τ = F_X0_answer_13 a tt p2 n (x5 + (1 : Int32)) (x6 + (1 : Int32)) (x7 + (-1 : Int32)) (zu τ.1 A st.length (x - y), τ.2.1, t0.2.2) := by
  obtain ⟨r0, t8, w6, c6, c7, w7, -, -⟩ := zEw_b E s hi
  obtain ⟨q1, q2, q3⟩ := cPre E s hi
  obtain ⟨⟨gA, gF, g6, g7⟩, -, -, hK2, -⟩ := E
  obtain ⟨q4, w1, w2, hy, hx⟩ := cPr2 s
  have e1 : (1 : Int32).toInt = 1 := by decide
  have e2 : (2 : Int32).toInt = 2 := by decide
  have e7 : (7 : Int32).toInt = 7 := by decide
  have e9 : (9 : Int32).toInt = 9 := by decide
  have e32 : (32 : Int32).toInt = 32 := by decide
  have e420 : (420 : Int32).toInt = 420 := by decide
  have nk0 : ¬ (3 : Int) = 0 := by decide
  have nk1 : ¬ (3 : Int) = 1 := by decide
  have nk2 : ¬ (3 : Int) = 2 := by decide
  have nk4 : ¬ (3 : Int) = 4 := by decide
  have nk5 : ¬ (3 : Int) = 5 := by decide
  have nk7 : ¬ (3 : Int) = 7 := by decide
  rw [F_X0_answer_13]
  simp only [↓zlt, r0, g6, g7, gA, w6, c6, c7, t8, w1, w2, hy, hx, e7, e1, e2, e420, hk, nk0, nk1, nk2, nk4, nk5, nk7, q1, q2, q3, q4, if_true, if_false]
theorem cS_m {x y : Int32} (E : zEc a tt A F A6 A7 K ft t0) (s : zEw A t0 i (y :: x :: st) (n + 1) k x5 x6 x7 τ) (hi : i < K) (hk : (t0.1 A6 i).toInt = 4) : F_X0_answer_13 a tt p2 (n + 1) x5 x6 x7 τ = F_X0_answer_13 a tt p2 n (x5 + (1 : Int32)) (x6 + (1 : Int32)) (x7 + (-1 : Int32)) (zu τ.1 A st.length (x * y), τ.2.1, t0.2.2) := by
  obtain ⟨r0, t8, w6, c6, c7, w7, -, -⟩ := zEw_b E s hi
  obtain ⟨q1, q2, q3⟩ := cPre E s hi
  obtain ⟨⟨gA, gF, g6, g7⟩, -, -, hK2, -⟩ := E
  obtain ⟨q4, w1, w2, hy, hx⟩ := cPr2 s
  have e1 : (1 : Int32).toInt = 1 := by decide
  have e2 : (2 : Int32).toInt = 2 := by decide
  have e7 : (7 : Int32).toInt = 7 := by decide
  have e9 : (9 : Int32).toInt = 9 := by decide
  have e32 : (32 : Int32).toInt = 32 := by decide
  have e420 : (420 : Int32).toInt = 420 := by decide
  have nk0 : ¬ (4 : Int) = 0 := by decide
  have nk1 : ¬ (4 : Int) = 1 := by decide
  have nk2 : ¬ (4 : Int) = 2 := by decide
  have nk3 : ¬ (4 : Int) = 3 := by decide
  have nk5 : ¬ (4 : Int) = 5 := by decide
  have nk7 : ¬ (4 : Int) = 7 := by decide
  rw [F_X0_answer_13]
  simp only [↓zlt, r0, g6, g7, gA, w6, c6, c7, t8, w1, w2, hy, hx, e7, e1, e2, e420, hk, nk0, nk1, nk2, nk3, nk5, nk7, q1, q2, q3, q4, if_true, if_false]
theorem cS_z {x y : Int32} (E : zEc a tt A F A6 A7 K ft t0) (s : zEw A t0 i (y :: x :: st) (n + 1) k x5 x6 x7 τ) (hi : i < K) (hk : (t0.1 A6 i).toInt = 5) (hz : y.toInt = 0) : F_X0_answer_13 a tt p2 (n + 1) x5 x6 x7 τ = (0, τ) := by
  obtain ⟨r0, t8, w6, c6, c7, w7, -, -⟩ := zEw_b E s hi
  obtain ⟨q1, q2, q3⟩ := cPre E s hi
  obtain ⟨⟨gA, gF, g6, g7⟩, -, -, hK2, -⟩ := E
  obtain ⟨q4, w1, w2, hy, hx⟩ := cPr2 s
  have e1 : (1 : Int32).toInt = 1 := by decide
  have e2 : (2 : Int32).toInt = 2 := by decide
  have e7 : (7 : Int32).toInt = 7 := by decide
  have e9 : (9 : Int32).toInt = 9 := by decide
  have e32 : (32 : Int32).toInt = 32 := by decide
  have e420 : (420 : Int32).toInt = 420 := by decide
  have nk0 : ¬ (5 : Int) = 0 := by decide
  have nk1 : ¬ (5 : Int) = 1 := by decide
  have nk2 : ¬ (5 : Int) = 2 := by decide
  have nk3 : ¬ (5 : Int) = 3 := by decide
  have nk4 : ¬ (5 : Int) = 4 := by decide
  have nk7 : ¬ (5 : Int) = 7 := by decide
  rw [F_X0_answer_13]
  simp only [↓zlt, r0, g6, g7, gA, w6, c6, c7, t8, w1, w2, hy, hx, e7, e1, e2, e420, hk, nk0, nk1, nk2, nk3, nk4, nk7, q1, q2, q3, q4, hz, if_true, if_false]
theorem cS_d {x y : Int32} (E : zEc a tt A F A6 A7 K ft t0) (s : zEw A t0 i (y :: x :: st) (n + 1) k x5 x6 x7 τ) (hi : i < K) (hk : (t0.1 A6 i).toInt = 5) (hz : ¬ y.toInt = 0) : F_X0_answer_13 a tt p2 (n + 1) x5 x6 x7 τ = F_X0_answer_13 a tt p2 n (x5 + (1 : Int32)) (x6 + (1 : Int32)) (x7 + (-1 : Int32)) (zu τ.1 A st.length (x / y), τ.2.1, t0.2.2) := by
  obtain ⟨r0, t8, w6, c6, c7, w7, -, -⟩ := zEw_b E s hi
  obtain ⟨q1, q2, q3⟩ := cPre E s hi
  obtain ⟨⟨gA, gF, g6, g7⟩, -, -, hK2, -⟩ := E
  obtain ⟨q4, w1, w2, hy, hx⟩ := cPr2 s
  have e1 : (1 : Int32).toInt = 1 := by decide
  have e2 : (2 : Int32).toInt = 2 := by decide
  have e7 : (7 : Int32).toInt = 7 := by decide
  have e9 : (9 : Int32).toInt = 9 := by decide
  have e32 : (32 : Int32).toInt = 32 := by decide
  have e420 : (420 : Int32).toInt = 420 := by decide
  have nk0 : ¬ (5 : Int) = 0 := by decide
  have nk1 : ¬ (5 : Int) = 1 := by decide
  have nk2 : ¬ (5 : Int) = 2 := by decide
  have nk3 : ¬ (5 : Int) = 3 := by decide
  have nk4 : ¬ (5 : Int) = 4 := by decide
  have nk7 : ¬ (5 : Int) = 7 := by decide
  rw [F_X0_answer_13]
  simp only [↓zlt, r0, g6, g7, gA, w6, c6, c7, t8, w1, w2, hy, hx, e7, e1, e2, e420, hk, nk0, nk1, nk2, nk3, nk4, nk7, q1, q2, q3, q4, hz, if_true, if_false]
theorem cS_6t {x y : Int32} (E : zEc a tt A F A6 A7 K ft t0) (s : zEw A t0 i (y :: x :: st) (n + 1) k x5 x6 x7 τ) (hi : i < K) (hk : (t0.1 A6 i).toInt = 6) (hz : x.toInt < y.toInt) : F_X0_answer_13 a tt p2 (n + 1) x5 x6 x7 τ = F_X0_answer_13 a tt p2 n (x5 + (1 : Int32)) (x6 + (1 : Int32)) (x7 + (-1 : Int32) + (-1 : Int32)) τ := by
  obtain ⟨r0, t8, w6, c6, c7, w7, -, -⟩ := zEw_b E s hi
  obtain ⟨q1, q2, q3⟩ := cPre E s hi
  obtain ⟨⟨gA, gF, g6, g7⟩, -, -, hK2, -⟩ := E
  obtain ⟨q4, w1, w2, hy, hx⟩ := cPr2 s
  have e1 : (1 : Int32).toInt = 1 := by decide
  have e2 : (2 : Int32).toInt = 2 := by decide
  have e7 : (7 : Int32).toInt = 7 := by decide
  have e9 : (9 : Int32).toInt = 9 := by decide
  have e32 : (32 : Int32).toInt = 32 := by decide
  have e420 : (420 : Int32).toInt = 420 := by decide
  have nk0 : ¬ (6 : Int) = 0 := by decide
  have nk1 : ¬ (6 : Int) = 1 := by decide
  have nk2 : ¬ (6 : Int) = 2 := by decide
  have nk3 : ¬ (6 : Int) = 3 := by decide
  have nk4 : ¬ (6 : Int) = 4 := by decide
  have nk5 : ¬ (6 : Int) = 5 := by decide
  have nk7 : ¬ (6 : Int) = 7 := by decide
  rw [F_X0_answer_13]
  simp only [↓zlt, r0, g6, g7, gA, w6, c6, c7, t8, w1, w2, hy, hx, e7, e1, e2, e420, hk, nk0, nk1, nk2, nk3, nk4, nk5, nk7, q1, q2, q3, q4, hz, if_true, if_false]
theorem cS_6j {x y : Int32} (E : zEc a tt A F A6 A7 K ft t0) (s : zEw A t0 i (y :: x :: st) (n + 1) k x5 x6 x7 τ) (hi : i < K) (hk : (t0.1 A6 i).toInt = 6) (hz : ¬ x.toInt < y.toInt) (hj : (x6 + (1 : Int32)).toInt < (t0.1 A7 i).toInt) : F_X0_answer_13 a tt p2 (n + 1) x5 x6 x7 τ = F_X0_answer_13 a tt p2 n (x5 + (1 : Int32)) (t0.1 A7 i) (x7 + (-1 : Int32) + (-1 : Int32)) τ := by
  obtain ⟨r0, t8, w6, c6, c7, w7, -, -⟩ := zEw_b E s hi
  obtain ⟨q1, q2, q3⟩ := cPre E s hi
  obtain ⟨⟨gA, gF, g6, g7⟩, -, -, hK2, -⟩ := E
  obtain ⟨q4, w1, w2, hy, hx⟩ := cPr2 s
  have e1 : (1 : Int32).toInt = 1 := by decide
  have e2 : (2 : Int32).toInt = 2 := by decide
  have e7 : (7 : Int32).toInt = 7 := by decide
  have e9 : (9 : Int32).toInt = 9 := by decide
  have e32 : (32 : Int32).toInt = 32 := by decide
  have e420 : (420 : Int32).toInt = 420 := by decide
  have nk0 : ¬ (6 : Int) = 0 := by decide
  have nk1 : ¬ (6 : Int) = 1 := by decide
  have nk2 : ¬ (6 : Int) = 2 := by decide
  have nk3 : ¬ (6 : Int) = 3 := by decide
  have nk4 : ¬ (6 : Int) = 4 := by decide
  have nk5 : ¬ (6 : Int) = 5 := by decide
  have nk7 : ¬ (6 : Int) = 7 := by decide
  rw [F_X0_answer_13]
  simp only [↓zlt, r0, g6, g7, gA, w6, c6, c7, t8, w1, w2, hy, hx, e7, e1, e2, e420, hk, nk0, nk1, nk2, nk3, nk4, nk5, nk7, q1, q2, q3, q4, hz, hj, if_true, if_false]
end STEP
/-- what it answers, or where it stands then -/
def zEt (a tt A : Nat) (p2 : Int32) (t0 : zS) (i d' : Nat) (w : Option (List Int32)) (G : Int32 × zS) : Prop := (w = none ∧ ∃ τ', G = (0, τ') ∧ zFr (fun c _ => c = A) t0 τ') ∨ ∃ (st' : List Int32) (n k : Nat) (x5 x6 x7 : Int32) (τ' : zS), w = some st' ∧ st'.length = d' ∧ G = F_X0_answer_13 a tt p2 n x5 x6 x7 τ' ∧ zEw A t0 i st' n k x5 x6 x7 τ'
theorem zEw_p {i n k : Nat} {st : List Int32} {x5 x6 x7 : Int32} {τ : zS} (E : zEc a tt A F A6 A7 K ft t0) (s : zEw A t0 i st (n + 1) k x5 x6 x7 τ) (hi : i < K) (hl : st.length < 4000) (v : Int32) : zEw A t0 (i + 1) (v :: st) n (k + 1) (x5 + (1 : Int32)) (x6 + (1 : Int32)) (x7 + (1 : Int32)) (zu τ.1 A st.length v, τ.2.1, t0.2.2) := by
  obtain ⟨r0, t8, w6, c6, c7, w7, q5, q6⟩ := zEw_b E s hi
  obtain ⟨h5, hk5, hn, h6, h7, hs, g⟩ := s
  refine ⟨q5, by omega, by omega, q6, zp1 h7 hl, ⟨zu_s _ _ _ _, zSk_cg st (fun j hj => zu_j _ _ _ _ _ (by omega)) hs⟩, ?_⟩
  rw [← r0]
  exact g.w rfl
theorem zEw_o {i n k : Nat} {st : List Int32} {x y x5 x6 x7 : Int32} {τ : zS} (E : zEc a tt A F A6 A7 K ft t0) (s : zEw A t0 i (y :: x :: st) (n + 1) k x5 x6 x7 τ) (hi : i < K) (v : Int32) : zEw A t0 (i + 1) (v :: st) n (k + 1) (x5 + (1 : Int32)) (x6 + (1 : Int32)) (x7 + (-1 : Int32)) (zu τ.1 A st.length v, τ.2.1, t0.2.2) := by
  obtain ⟨r0, t8, w6, c6, c7, w7, q5, q6⟩ := zEw_b E s hi
  obtain ⟨h5, hk5, hn, h6, h7, hs, g⟩ := s
  rw [List.length_cons, List.length_cons] at h7
  have em : (-1 : Int32).toInt = -1 := by decide
  have b := zb_rng x7
  refine ⟨q5, by omega, by omega, q6, ?_, ⟨zu_s _ _ _ _, zSk_cg st (fun j hj => zu_j _ _ _ _ _ (by omega)) hs.2.2⟩, ?_⟩
  · rw [zb_add (by rw [em]; omega) (by rw [em]; omega), em, List.length_cons]
    omega
  · rw [← r0]
    exact g.w rfl
end EVC
end
-- 35x77.lw10
section
/-! codes gone through -/
section EVC
variable {a tt A F A6 A7 K : Nat} {p2 : Int32} {ft : Nat → Int32} {t0 : zS}
theorem cEv (E : zEc a tt A F A6 A7 K ft t0) : ∀ (L : zCs) (i d' : Nat) (st : List Int32) (n k : Nat) (x5 x6 x7 : Int32) (τ : zS), zHo A6 A7 t0 i L → i + L.length ≤ K → zWl L st.length 32 d' → zEw A t0 i st n k x5 x6 x7 τ → zEt a tt A p2 t0 (i + L.length) d' (evC ft L st) (F_X0_answer_13 a tt p2 n x5 x6 x7 τ) := by
  intro L
  induction L with
  | nil => intro i d' st n k x5 x6 x7 τ _ _ hw s; exact Or.inr ⟨st, n, k, x5, x6, x7, τ, rfl, hw, rfl, s⟩
  | cons c L ih =>
    intro i d' st n k x5 x6 x7 τ hh hl hw s
    rw [List.length_cons] at hl
    have hK2 := E.2.2.2.1
    obtain ⟨n, rfl⟩ : ∃ q, n = q + 1 := ⟨n - 1, by have := s.2.2.1; have := s.2.1; omega⟩
    obtain ⟨⟨k6, k7⟩, hh'⟩ := hh
    rw [show i + (c :: L).length = i + 1 + L.length by rw [List.length_cons]; omega]
    rcases hw with ⟨h1, h2, h3⟩ | ⟨h1, h2, h3, h4⟩
    · rcases h1 with ⟨c0, v0⟩ | ⟨c1, v0, v9⟩
      · rw [cS_c E s (by omega) (by rw [k6, c0]) (by rw [k7]; exact v0) h2, evC_0 c0, ← ofI k7]
        exact ih (i + 1) d' _ n (k + 1) _ _ _ _ hh' (by omega) h3 (zEw_p E s (by omega) (by omega) _)
      · rw [cS_f E s (by omega) (by rw [k6, c1]) (v := c.2.toNat) (by rw [k7]; omega) (by omega) h2, evC_1 c1]
        exact ih (i + 1) d' _ n (k + 1) _ _ _ _ hh' (by omega) h3 (zEw_p E s (by omega) (by omega) _)
    · cases st with
      | nil => rw [List.length_nil] at h3; omega
      | cons y st =>
        cases st with
        | nil => rw [List.length_cons, List.length_nil] at h3; omega
        | cons x st =>
          rw [List.length_cons, List.length_cons] at h4
          have go : ∀ v : Int32, zEt a tt A p2 t0 (i + 1 + L.length) d' (evC ft L (v :: st)) (F_X0_answer_13 a tt p2 n (x5 + (1 : Int32)) (x6 + (1 : Int32)) (x7 + (-1 : Int32)) (zu τ.1 A st.length v, τ.2.1, t0.2.2)) := fun v => ih (i + 1) d' (v :: st) n (k + 1) _ _ _ _ hh' (by omega) (by rw [List.length_cons]; exact h4) (zEw_o E s (by omega) v)
          have o : c.1 = 2 ∨ c.1 = 3 ∨ c.1 = 4 ∨ c.1 = 5 := by omega
          rcases o with d2 | d3 | d4 | d5
          · have no : ¬ (c.1 = 5 ∧ y.toInt = 0) := fun w => by omega
            rw [cS_a E s (by omega) (k6.trans d2), evC_2 h1 no, show opv c.1 x y = x + y by unfold opv; rw [if_pos d2]]
            exact go _
          · have no : ¬ (c.1 = 5 ∧ y.toInt = 0) := fun w => by omega
            have d2 : ¬ c.1 = 2 := by omega
            rw [cS_s E s (by omega) (k6.trans d3), evC_2 h1 no, show opv c.1 x y = x - y by unfold opv; rw [if_neg d2, if_pos d3]]
            exact go _
          · have no : ¬ (c.1 = 5 ∧ y.toInt = 0) := fun w => by omega
            have d2 : ¬ c.1 = 2 := by omega
            have d3 : ¬ c.1 = 3 := by omega
            rw [cS_m E s (by omega) (k6.trans d4), evC_2 h1 no, show opv c.1 x y = x * y by unfold opv; rw [if_neg d2, if_neg d3, if_pos d4]]
            exact go _
          · have d2 : ¬ c.1 = 2 := by omega
            have d3 : ¬ c.1 = 3 := by omega
            have d4 : ¬ c.1 = 4 := by omega
            by_cases z : y.toInt = 0
            · rw [cS_z E s (by omega) (k6.trans d5) z, evC_z ⟨d5, z⟩]
              exact Or.inl ⟨rfl, τ, rfl, s.2.2.2.2.2.2⟩
            · have no : ¬ (c.1 = 5 ∧ y.toInt = 0) := fun w => z w.2
              rw [cS_d E s (by omega) (k6.trans d5) z, evC_2 h1 no, show opv c.1 x y = x / y by unfold opv; rw [if_neg d2, if_neg d3, if_neg d4]]
              exact go _
end EVC
/-! WHAT A LAW IS WORTH TO THE CLASS -/
section LAWV
variable {a tt A F A6 A7 K : Nat} {p2 : Int32} {ft : Nat → Int32} {t0 : zS}
theorem vlC_1 {L : zCs} {m : Nat} (h : zWl L 0 m 1) : (vlC ft L = none ∧ evC ft L [] = none) ∨ ∃ x, vlC ft L = some x ∧ evC ft L [] = some [x] := vlC_2 h []
/-- a value, then the answer -/
theorem cVal (E : zEc a tt A F A6 A7 K ft t0) {v : zCs} {i n k : Nat} {x5 x6 x7 : Int32} {τ : zS} (hw : zWl v 0 15 1) (hh : zHo A6 A7 t0 i v) (h7 : (t0.1 A6 (i + v.length)).toInt = 7) (hl : i + v.length + 1 ≤ K) (s : zEw A t0 i [] n k x5 x6 x7 τ) : ∃ τ', F_X0_answer_13 a tt p2 n x5 x6 x7 τ = ((vlC ft v).getD 0, τ') ∧ zFr (fun c _ => c = A) t0 τ' := by
  have hK2 := E.2.2.2.1
  rcases cEv (p2 := p2) E v i 1 [] n k x5 x6 x7 τ hh (by omega) (zWl_up (by omega) _ _ hw) s with ⟨e1, τ', e2, e3⟩ | ⟨st', n', k', y5, y6, y7, τ', e1, e2, e3, s'⟩
  · rcases vlC_1 (ft := ft) hw with ⟨w1, -⟩ | ⟨x, -, w2⟩
    · rw [w1]
      exact ⟨τ', e2, e3⟩
    · rw [w2] at e1
      cases e1
  · rcases vlC_1 (ft := ft) hw with ⟨-, w2⟩ | ⟨x, w1, w2⟩
    · rw [w2] at e1
      cases e1
    · rw [w2] at e1
      have e4 : [x] = st' := Option.some.inj e1
      rw [← e4] at s'
      obtain ⟨n', rfl⟩ : ∃ q, n' = q + 1 := ⟨n' - 1, by have := s'.2.2.1; have := s'.2.1; omega⟩
      rw [e3, w1, cS_7 E s' (by omega) h7]
      exact ⟨τ', rfl, s'.2.2.2.2.2.2⟩
theorem zEw_j {i j n k : Nat} {x y x5 x6 x7 : Int32} {τ : zS} (E : zEc a tt A F A6 A7 K ft t0) (s : zEw A t0 i [y, x] (n + 1) k x5 x6 x7 τ) (hi : i < K) {z : Int32} (hz : z.toInt = j) (hj : i < j) : zEw A t0 j [] n (k + 1) (x5 + (1 : Int32)) z (x7 + (-1 : Int32) + (-1 : Int32)) τ := by
  obtain ⟨r0, t8, w6, c6, c7, w7, q5, q6⟩ := zEw_b E s hi
  obtain ⟨h5, hk5, hn, h6, h7, hs, g⟩ := s
  have h7' : x7.toInt = 2 := h7
  have em : (-1 : Int32).toInt = -1 := by decide
  have m1 : (x7 + (-1 : Int32)).toInt = 1 := by rw [zb_add (by rw [em]; omega) (by rw [em]; omega), em]; omega
  refine ⟨q5, by omega, by omega, hz, ?_, trivial, g⟩
  obtain ⟨y, hy⟩ : ∃ y, y = x7 + (-1 : Int32) := ⟨_, rfl⟩
  rw [← hy] at m1 ⊢
  rw [zb_add (by rw [em, m1]; decide) (by rw [em, m1]; decide), em, m1]
  rfl
theorem cLawV (E : zEc a tt A F A6 A7 K ft t0) : ∀ (B : List zBr) (i n k : Nat) (x5 x6 x7 : Int32) (τ : zS), okB B → zHo A6 A7 t0 i (cBr i B) → i + (cBr i B).length ≤ K → zEw A t0 i [] n k x5 x6 x7 τ → ∃ τ', F_X0_answer_13 a tt p2 n x5 x6 x7 τ = (evB ft B, τ') ∧ zFr (fun c _ => c = A) t0 τ' := by
  have hK2 := E.2.2.2.1
  intro B
  induction B with
  | nil => intro i n k x5 x6 x7 τ h; exact h.elim
  | cons b B ih =>
    intro i n k x5 x6 x7 τ ho hh hl s
    obtain ⟨o, v⟩ := b
    cases o with
    | none =>
      have hh' : zHo A6 A7 t0 i (v ++ [(7, 0)]) := hh
      have hl' : i + (v ++ [((7 : Int), (0 : Int))]).length ≤ K := hl
      rw [List.length_append] at hl'
      have e : [((7 : Int), (0 : Int))].length = 1 := rfl
      rw [e] at hl'
      obtain ⟨h1, h2⟩ := (zHo_app _ _ _).mp hh'
      exact cVal E ho h1 h2.1.1 (by omega) s
    | some lr =>
      obtain ⟨l, r⟩ := lr
      obtain ⟨o1, o2, o3, o4⟩ := ho
      obtain ⟨t, ht⟩ : ∃ t : Nat, t = i + l.length + r.length + v.length + 2 := ⟨_, rfl⟩
      have hh' : zHo A6 A7 t0 i (l ++ (r ++ ((6, (t : Int)) :: (v ++ ((7, 0) :: cBr t B))))) := by rw [ht]; exact hh
      have hl' : i + (l ++ (r ++ ((6, (t : Int)) :: (v ++ ((7, 0) :: cBr t B))))).length ≤ K := by rw [ht]; exact hl
      rw [List.length_append, List.length_append, List.length_cons, List.length_append, List.length_cons] at hl'
      obtain ⟨h1, hh'⟩ := (zHo_app _ _ _).mp hh'
      obtain ⟨h2, h3, hh'⟩ := (zHo_app _ _ _).mp hh'
      obtain ⟨h4, h5, h6⟩ := (zHo_app _ _ _).mp hh'
      have et : i + l.length + r.length + 1 + v.length + 1 = t := by omega
      rw [et] at h6
      rcases cEv (p2 := p2) E l i 1 [] n k x5 x6 x7 τ h1 (by omega) (zWl_up (by omega) _ _ o1) s with ⟨e1, τ', e2, e3⟩ | ⟨st', n', k', y5, y6, y7, τ', e1, e2, e3, s'⟩
      · rcases vlC_1 (ft := ft) o1 with ⟨w1, -⟩ | ⟨x, -, w2⟩
        · refine ⟨τ', ?_, e3⟩
          rw [e2, evB, w1]
        · rw [w2] at e1
          cases e1
      · rcases vlC_1 (ft := ft) o1 with ⟨-, w2⟩ | ⟨x, w1, w2⟩
        · rw [w2] at e1
          cases e1
        · rw [w2] at e1
          have e4 : [x] = st' := Option.some.inj e1
          rw [← e4] at s'
          rw [e3]
          rcases cEv (p2 := p2) E r (i + l.length) 2 [x] n' k' y5 y6 y7 τ' h2 (by omega) (zWl_up (by omega) _ _ (zWl_1 _ _ o2)) s' with ⟨f1, τ2, f2, f3⟩ | ⟨st2, n2, k2, z5, z6, z7, τ2, f1, f2, f3, s2⟩
          · rcases vlC_2 (ft := ft) o2 [x] with ⟨u1, -⟩ | ⟨y, -, u2⟩
            · refine ⟨τ2, ?_, f3⟩
              rw [f2, evB, w1, u1]
            · rw [u2] at f1
              cases f1
          · rcases vlC_2 (ft := ft) o2 [x] with ⟨-, u2⟩ | ⟨y, u1, u2⟩
            · rw [u2] at f1
              cases f1
            · rw [u2] at f1
              have f4 : [y, x] = st2 := Option.some.inj f1
              rw [← f4] at s2
              obtain ⟨n2, rfl⟩ : ∃ q, n2 = q + 1 := ⟨n2 - 1, by have := s2.2.2.1; have := s2.2.1; omega⟩
              have q6 := (zEw_b E s2 (by omega)).2.2.2.2.2.2.2
              rw [f3, evB, w1, u1]
              show ∃ τ', _ = ((if x.toInt < y.toInt then (vlC ft v).getD 0 else evB ft B), τ') ∧ _
              by_cases c : x.toInt < y.toInt
              · rw [if_pos c, cS_6t E s2 (by omega) h3.1 c]
                exact cVal E o3 h4 h5.1 (by omega) (zEw_j E s2 (by omega) q6 (by omega))
              · rw [if_neg c, cS_6j E s2 (by omega) h3.1 c (by rw [q6, h3.2]; omega)]
                exact ih t n2 (k2 + 1) _ _ _ τ2 o4 h6 (by omega) (zEw_j E s2 (by omega) h3.2 (by omega))
end LAWV
end
-- 35x78.lw11
section
/-! WHAT A LAW IS WORTH TO THE REFERENCE -/
theorem i32_m2 {x : Int32} {L : Nat} (h : x.toInt = ((L + 1 + 1 : Nat) : Int)) : (x + (-1 : Int32)).toInt = ((L + 1 : Nat) : Int) ∧ (x + (-1 : Int32)).toNatClampNeg = L + 1 ∧ (x + (-1 : Int32) - (1 : Int32)).toNatClampNeg = L := by
  have e1 : (1 : Int32).toInt = 1 := by decide
  have em : (-1 : Int32).toInt = -1 := by decide
  have b := zb_rng x
  have m1 : (x + (-1 : Int32)).toInt = ((L + 1 : Nat) : Int) := by rw [zb_add (by rw [em]; omega) (by rw [em]; omega), em]; omega
  have m2 : (x + (-1 : Int32) - (1 : Int32)).toInt = (L : Int) := by rw [zb_sub (by rw [m1, e1]; omega) (by rw [m1, e1]; omega), m1, e1]; omega
  exact ⟨m1, by rw [ztn, m1]; rfl, by rw [ztn, m2]; rfl⟩
def zMj (j : Nat) : Prop := j = 30 ∨ j = 31 ∨ (33 ≤ j ∧ j ≤ 37) ∨ j = 39 ∨ j = 40 ∨ j = 45 ∨ j = 46
/-- the rows of laws, the facts -/
def zMc (a : Nat) (Y : Nat → Nat) (ft : Nat → Int32) (t0 : zS) : Prop := (∀ j, zMj j → (t0.2.2 a j).getD 0 = Y j ∧ Y j ≠ a ∧ (j ≠ 46 → Y j ≠ Y 46)) ∧ ∀ i, i < 9 → t0.1 (Y 45) i = ft i
/-- where it stands -/
def zMs (Y : Nat → Nat) (t0 : zS) (e i : Nat) (st : List Int32) (n : Nat) (x2 x3 : Int32) (τ : zS) : Prop := x2.toInt = i ∧ e < n + i ∧ x3.toInt = st.length ∧ zSk (τ.1 (Y 46)) st ∧ zFr (fun c _ => c = Y 46) t0 τ
section EVM
variable {a : Nat} {Y : Nat → Nat} {ft : Nat → Int32} {t0 : zS} {p1 p2 : Int32} {e : Nat}
section STEP2
variable {i n : Nat} {st : List Int32} {x2 x3 : Int32} {τ : zS}
theorem zMs_b (M : zMc a Y ft t0) (s : zMs Y t0 e i st n x2 x3 τ) (he : e ≤ 4000) (hi : i < e) : τ.2.2 = t0.2.2 ∧ x2.toNatClampNeg = i ∧ x3.toNatClampNeg = st.length ∧ (∀ j, zMj j → j ≠ 46 → τ.1 (Y j) = t0.1 (Y j)) ∧ (x2 + (1 : Int32)).toInt = ((i + 1 : Nat) : Int) := by
  obtain ⟨h2, hn, h3, hs, g⟩ := s
  exact ⟨g.rf, by rw [ztn, h2]; rfl, by rw [ztn, h3]; rfl, fun j hj n46 => funext (fun c => g.2 _ _ ((M.1 j hj).2.2 n46)), by
    have e1 : (1 : Int32).toInt = 1 := by decide
    rw [zb_add (by rw [e1]; omega) (by rw [e1]; omega), e1, h2]
    rfl⟩
theorem mS_p (M : zMc a Y ft t0) (s : zMs Y t0 e i st (n + 1) x2 x3 τ) (he : e ≤ 4000) (hp : p2.toInt = e) (hi : i < e) (hl : st.length < 4000) (v : Int32) : zMs Y t0 e (i + 1) (v :: st) n (x2 + (1 : Int32)) (x3 + (1 : Int32)) (zu τ.1 (Y 46) st.length v, τ.2.1, t0.2.2) := by
  obtain ⟨r0, w2, w3, rw', q2⟩ := zMs_b M s he hi
  obtain ⟨h2, hn, h3, hs, g⟩ := s
  refine ⟨q2, by omega, by rw [zp1 h3 hl]; rfl, ⟨zu_s _ _ _ _, zSk_cg st (fun j hj => zu_j _ _ _ _ _ (by omega)) hs⟩, ?_⟩
  rw [← r0]
  exact g.w rfl
theorem mS_o {x y : Int32} (M : zMc a Y ft t0) (s : zMs Y t0 e i (y :: x :: st) (n + 1) x2 x3 τ) (he : e ≤ 4000) (hi : i < e) (v : Int32) : zMs Y t0 e (i + 1) (v :: st) n (x2 + (1 : Int32)) (x3 + (-1 : Int32)) (zu τ.1 (Y 46) st.length v, τ.2.1, t0.2.2) := by
  obtain ⟨r0, w2, w3, rw', q2⟩ := zMs_b M s he hi
  obtain ⟨h2, hn, h3, hs, g⟩ := s
  rw [List.length_cons, List.length_cons] at h3
  refine ⟨q2, by omega, ?_, ⟨zu_s _ _ _ _, zSk_cg st (fun j hj => zu_j _ _ _ _ _ (by omega)) hs.2.2⟩, ?_⟩
  · rw [List.length_cons]
    exact (i32_m2 h3).1
  · rw [← r0]
    exact g.w rfl
theorem mS_1 (M : zMc a Y ft t0) (s : zMs Y t0 e i st (n + 1) x2 x3 τ) (he : e ≤ 4000) (hp : p2.toInt = e) (hi : i < e) {c : Int} (hk : (t0.1 (Y 39) i).toInt = c) (hc : c = 0 ∨ c = 1) {v : Nat} (hv : c = 1 → (t0.1 (Y 40) i).toInt = v ∧ v < 9) : F_X11_termOf_5 a p1 p2 (n + 1) x2 x3 τ = F_X11_termOf_5 a p1 p2 n (x2 + (1 : Int32)) (x3 + (1 : Int32)) (zu τ.1 (Y 46) st.length (if c = 0 then t0.1 (Y 40) i else ft v), τ.2.1, t0.2.2) := by
  obtain ⟨r0, w2, w3, rw', q2⟩ := zMs_b M s he hi
  obtain ⟨h2, hn, h3, hs, g⟩ := s
  have g39 := (M.1 39 (by unfold zMj; omega)).1
  have g40 := (M.1 40 (by unfold zMj; omega)).1
  have g45 := (M.1 45 (by unfold zMj; omega)).1
  have g46 := (M.1 46 (by unfold zMj; omega)).1
  have c39 := rw' 39 (by unfold zMj; omega) (by decide)
  have c40 := rw' 40 (by unfold zMj; omega) (by decide)
  have c45 := rw' 45 (by unfold zMj; omega) (by decide)
  have e2 : (2 : Int32).toInt = 2 := by decide
  rw [F_X11_termOf_5]
  simp only [zlt, r0, g39, g40, g45, g46, w2, w3, c39, c40, c45, e2, hk]
  rw [if_pos (by omega), if_pos (by omega)]
  by_cases c0 : c = 0
  · rw [if_pos c0, if_pos c0]
  · rw [if_neg c0, if_neg c0]
    obtain ⟨v1, v2⟩ := hv (by omega)
    have wv : (t0.1 (Y 40) i).toNatClampNeg = v := by rw [ztn, v1]; rfl
    rw [wv, M.2 v v2]
theorem mS_2 {x y : Int32} (M : zMc a Y ft t0) (s : zMs Y t0 e i (y :: x :: st) (n + 1) x2 x3 τ) (he : e ≤ 4000) (hp : p2.toInt = e) (hi : i < e) {c : Int} (hk : (t0.1 (Y 39) i).toInt = c) (h2c : 2 ≤ c) (h5c : c ≤ 5) : F_X11_termOf_5 a p1 p2 (n + 1) x2 x3 τ = if c = 5 ∧ y.toInt = 0 then (0, (zu τ.1 a 47 1, τ.2.1, t0.2.2)) else F_X11_termOf_5 a p1 p2 n (x2 + (1 : Int32)) (x3 + (-1 : Int32)) (zu τ.1 (Y 46) st.length (opv c x y), τ.2.1, t0.2.2) := by
  obtain ⟨r0, w2, w3, rw', q2⟩ := zMs_b M s he hi
  obtain ⟨h2, hn, h3, hs, g⟩ := s
  rw [List.length_cons, List.length_cons] at h3
  obtain ⟨hy, hx, hs'⟩ := hs
  rw [List.length_cons] at hy
  have g39 := (M.1 39 (by unfold zMj; omega)).1
  have g46 := (M.1 46 (by unfold zMj; omega)).1
  have c39 := rw' 39 (by unfold zMj; omega) (by decide)
  have e1 : (1 : Int32).toInt = 1 := by decide
  have e2 : (2 : Int32).toInt = 2 := by decide
  have e3 : (3 : Int32).toInt = 3 := by decide
  have e4 : (4 : Int32).toInt = 4 := by decide
  have e5 : (5 : Int32).toInt = 5 := by decide
  obtain ⟨-, w1, w2'⟩ := i32_m2 h3
  rw [F_X11_termOf_5]
  simp only [zlt, r0, g39, g46, w2, w1, w2', c39, e2, e3, e4, e5, hk, hy, hx]
  rw [if_pos (by omega), if_neg (by omega)]
  unfold opv
  by_cases d5 : c = 5
  · rw [if_pos d5]
    by_cases z : y.toInt = 0
    · rw [if_pos z, if_pos ⟨d5, z⟩]
    · have nz : ¬ (c = 5 ∧ y.toInt = 0) := fun w => z w.2
      rw [if_neg z, if_neg nz]
      have d2 : ¬ c = 2 := by omega
      have d3 : ¬ c = 3 := by omega
      have d4 : ¬ c = 4 := by omega
      rw [if_neg d2, if_neg d3, if_neg d4, if_neg d2, if_neg d3, if_neg d4]
  · have nz : ¬ (c = 5 ∧ y.toInt = 0) := fun w => d5 w.1
    rw [if_neg d5, if_neg nz]
    by_cases d2 : c = 2
    · rw [if_pos d2, if_pos d2]
    · by_cases d3 : c = 3
      · rw [if_neg d2, if_pos d3, if_neg d2, if_pos d3]
      · have d4 : c = 4 := by omega
        rw [if_neg d2, if_neg d3, if_pos d4, if_neg d2, if_neg d3, if_pos d4]
end STEP2
/-- what it answers, or where it stands then -/
def zMt (a : Nat) (Y : Nat → Nat) (p1 p2 : Int32) (t0 : zS) (e i d' : Nat) (w : Option (List Int32)) (G : Int32 × zS) : Prop := (w = none ∧ ∃ τ', G = (0, τ') ∧ zFr (fun c j => c = Y 46 ∨ (c = a ∧ j = 47)) t0 τ' ∧ (τ'.1 a 47).toInt = 1) ∨ ∃ (st' : List Int32) (n : Nat) (x2 x3 : Int32) (τ' : zS), w = some st' ∧ st'.length = d' ∧ G = F_X11_termOf_5 a p1 p2 n x2 x3 τ' ∧ zMs Y t0 e i st' n x2 x3 τ'
theorem mEv (M : zMc a Y ft t0) (he : e ≤ 4000) (hp : p2.toInt = e) : ∀ (L : zCs) (i d' : Nat) (st : List Int32) (n : Nat) (x2 x3 : Int32) (τ : zS), zHo (Y 39) (Y 40) t0 i L → i + L.length ≤ e → zWl L st.length 32 d' → zMs Y t0 e i st n x2 x3 τ → zMt a Y p1 p2 t0 e (i + L.length) d' (evC ft L st) (F_X11_termOf_5 a p1 p2 n x2 x3 τ) := by
  intro L
  induction L with
  | nil => intro i d' st n x2 x3 τ _ _ hw s; exact Or.inr ⟨st, n, x2, x3, τ, rfl, hw, rfl, s⟩
  | cons c L ih =>
    intro i d' st n x2 x3 τ hh hl hw s
    rw [List.length_cons] at hl
    obtain ⟨n, rfl⟩ : ∃ q, n = q + 1 := ⟨n - 1, by have := s.2.1; omega⟩
    obtain ⟨⟨k6, k7⟩, hh'⟩ := hh
    rw [show i + (c :: L).length = i + 1 + L.length by rw [List.length_cons]; omega]
    rcases hw with ⟨h1, h2, h3⟩ | ⟨h1, h2, h3, h4⟩
    · rcases h1 with ⟨c0, v0⟩ | ⟨c1, v0, v9⟩
      · rw [mS_1 M s he hp (by omega) k6 (by omega) (v := 0) (fun z => by omega), if_pos c0, evC_0 c0, ← ofI k7]
        exact ih (i + 1) d' _ n _ _ _ hh' (by omega) h3 (mS_p M s he hp (by omega) (by omega) _)
      · rw [mS_1 M s he hp (by omega) k6 (by omega) (v := c.2.toNat) (fun _ => ⟨by rw [k7]; omega, by omega⟩), if_neg (by omega), evC_1 c1]
        exact ih (i + 1) d' _ n _ _ _ hh' (by omega) h3 (mS_p M s he hp (by omega) (by omega) _)
    · cases st with
      | nil => rw [List.length_nil] at h3; omega
      | cons y st =>
        cases st with
        | nil => rw [List.length_cons, List.length_nil] at h3; omega
        | cons x st =>
          rw [List.length_cons, List.length_cons] at h4
          rw [mS_2 M s he hp (by omega) k6 h1 h2]
          by_cases z : c.1 = 5 ∧ y.toInt = 0
          · rw [if_pos z, evC_z z]
            have na := (M.1 46 (by unfold zMj; omega)).2.1
            obtain ⟨r0, -⟩ := zMs_b M s he (by omega)
            obtain ⟨-, -, -, -, g⟩ := s
            refine Or.inl ⟨rfl, _, rfl, ?_, ?_⟩
            · rw [← r0]
              exact zFr.w (zFr.up g (fun c j w => Or.inl w)) (Or.inr ⟨rfl, rfl⟩)
            · show (zu τ.1 a 47 (1 : Int32) a 47).toInt = 1
              rw [zu_s]
              decide
          · rw [if_neg z, evC_2 h1 z]
            exact ih (i + 1) d' _ n _ _ _ hh' (by omega) (by rw [List.length_cons]; exact h4) (mS_o M s he (by omega) _)
/-- a value worked out -/
theorem mTerm (M : zMc a Y ft t0) {L : zCs} {N cl : Nat} (hS : zSg Y cl t0 N p1 p2 L) (hN : N ≤ 4000) (hw : zWl L 0 15 1) : ∃ τ', F_X11_termOf a p1 p2 t0 = ((vlC ft L).getD 0, τ') ∧ zFr (fun c j => c = Y 46 ∨ (c = a ∧ j = 47)) t0 τ' ∧ (vlC ft L = none → (τ'.1 a 47).toInt = 1) ∧ (vlC ft L ≠ none → τ'.1 a 47 = t0.1 a 47) := by
  obtain ⟨i, h1, h2, h3, h4, -⟩ := hS
  have na := (M.1 46 (by unfold zMj; omega)).2.1
  have g46 := (M.1 46 (by unfold zMj; omega)).1
  have e0 : (0 : Int32).toInt = 0 := by decide
  have w0 : (0 : Int32).toNatClampNeg = 0 := by decide
  unfold F_X11_termOf
  simp only [zlt]
  obtain ⟨e, he⟩ : ∃ e, e = i + L.length := ⟨_, rfl⟩
  have hp : p2.toInt = e := by rw [h2, he]; omega
  rcases mEv (p1 := p1) M (by omega) hp L i 1 [] 10000 p1 0 t0 h3 (by omega) (zWl_up (by omega) _ _ hw) ⟨h1, by omega, e0, trivial, zFr.id⟩ with ⟨e1, τ', e2, e3, e4⟩ | ⟨st', n, x2, x3, τ', e1, e2, e3, s'⟩
  · rcases vlC_1 (ft := ft) hw with ⟨w1, -⟩ | ⟨x, -, w2⟩
    · rw [w1]
      exact ⟨τ', e2, e3, fun _ => e4, fun z => absurd rfl z⟩
    · rw [w2] at e1
      cases e1
  · rcases vlC_1 (ft := ft) hw with ⟨-, w2⟩ | ⟨x, w1, w2⟩
    · rw [w2] at e1
      cases e1
    · rw [w2] at e1
      have f4 : [x] = st' := Option.some.inj e1
      rw [← f4] at s'
      obtain ⟨q2, qn, q3, qs, g⟩ := s'
      obtain ⟨n, rfl⟩ : ∃ q, n = q + 1 := ⟨n - 1, by omega⟩
      rw [e3, w1, F_X11_termOf_5]
      simp only [zlt]
      rw [if_neg (by rw [q2, hp]; omega), w0, g.rf, g46]
      have hx : τ'.1 (Y 46) 0 = x := qs.1
      rw [hx]
      exact ⟨τ', rfl, zFr.up g (fun c j w => Or.inl w), (fun z => by cases z), fun _ => g.2 _ _ (fun z => na z.symm)⟩
end EVM
end
-- 35x79.lw12
section
/-! A LAW ASKED: both sides -/
section LAWM
variable {a : Nat} {Y : Nat → Nat} {ft : Nat → Int32} {p1 p2 v4 : Int32} {N cl bl : Nat}
theorem zMc.fr {t t' : zS} (M : zMc a Y ft t) (g : zFr (fun c j => c = Y 46 ∨ (c = a ∧ j = 47)) t t') : zMc a Y ft t' := ⟨fun j hj => by
  rw [g.rf]
  exact M.1 j hj, fun i hi => by
  have m := (M.1 45 (by unfold zMj; omega)).2
  rw [g.2 (Y 45) i (fun z => z.elim (m.2 (by decide)) (fun w => m.1 w.1))]
  exact M.2 i hi⟩
theorem zMc_r {t t' : zS} (M : zMc a Y ft t) (g : zFr (fun c j => c = Y 46 ∨ (c = a ∧ j = 47)) t t') {j : Nat} (hj : zMj j) (h46 : j ≠ 46) : t'.1 (Y j) = t.1 (Y j) := funext (fun i => g.2 _ _ (fun z => z.elim ((M.1 j hj).2.2 h46) (fun w => (M.1 j hj).2.1 w.1)))
theorem mLawV {v : Nat} (hv4 : v4.toNatClampNeg = v) (hN : N ≤ 4000) : ∀ (B : List zBr) (b n : Nat) (x17 : Int32) (t : zS), zMc a Y ft t → okB B → zBz Y cl t N b B → b + B.length ≤ 3000 → x17.toInt = b → (t.1 (Y 31) v).toInt = b + B.length → B.length < n → (t.1 a 47).toInt = 0 → ∃ t', F_X11_lawTells_39 v4 a p1 p2 n x17 t = (evB ft B, t') ∧ zFr (fun c j => c = Y 46 ∨ (c = a ∧ j = 47)) t t' := by
  intro B
  induction B with
  | nil => intro b n x17 t _ h; exact h.elim
  | cons x B ih =>
    intro b n x17 t M ho hB hb hx h31 hn h47
    obtain ⟨n, rfl⟩ : ∃ q, n = q + 1 := ⟨n - 1, by omega⟩
    rw [List.length_cons] at h31 hn hb
    have g31 := (M.1 31 (by unfold zMj; omega)).1
    have g33 := (M.1 33 (by unfold zMj; omega)).1
    have g34 := (M.1 34 (by unfold zMj; omega)).1
    have g35 := (M.1 35 (by unfold zMj; omega)).1
    have g36 := (M.1 36 (by unfold zMj; omega)).1
    have g37 := (M.1 37 (by unfold zMj; omega)).1
    have nb : x17.toNatClampNeg = b := by rw [ztn, hx]; rfl
    rw [F_X11_lawTells_39]
    simp only [zlt, zlt2, g31, g33, g34, g35, g36, g37, nb, hv4]
    rw [if_pos (by omega)]
    obtain ⟨hB1, hB2⟩ := hB
    obtain ⟨o, w⟩ := x
    cases o with
    | none =>
      obtain ⟨k1, k2⟩ := hB1
      obtain ⟨τ, e1, e2, e3, e4⟩ := mTerm M k2 hN ho
      rw [if_pos k1]
      simp only [e1]
      refine ⟨τ, ?_, e2⟩
      show _ = ((vlC ft w).getD 0, τ)
      by_cases z : vlC ft w = none
      · rw [if_neg (by rw [e3 z]; decide), z]
        rfl
      · rw [if_pos (by rw [e4 z]; exact h47)]
    | some lr =>
      obtain ⟨l, r⟩ := lr
      obtain ⟨o1, o2, o3, o4⟩ := ho
      obtain ⟨k1, k2, k3, k4⟩ := hB1
      rw [if_neg (by rw [k1]; decide)]
      obtain ⟨τ1, e1, e2, e3, e4⟩ := mTerm M k2 hN o1
      have M1 := M.fr e2
      have q39 : ∀ i, cl ≤ i → i < N → τ1.1 (Y 39) i = t.1 (Y 39) i ∧ τ1.1 (Y 40) i = t.1 (Y 40) i := fun i _ _ => ⟨congrFun (zMc_r M e2 (by unfold zMj; omega) (by decide)) i, congrFun (zMc_r M e2 (by unfold zMj; omega) (by decide)) i⟩
      have c35 := congrFun (zMc_r M e2 (j := 35) (by unfold zMj; omega) (by decide)) b
      have c36 := congrFun (zMc_r M e2 (j := 36) (by unfold zMj; omega) (by decide)) b
      have c37 := congrFun (zMc_r M e2 (j := 37) (by unfold zMj; omega) (by decide)) b
      obtain ⟨τ2, f1, f2, f3, f4⟩ := mTerm M1 (k3.cg (Nat.le_refl _) q39) hN o2
      have M2 := M1.fr f2
      have g2 := e2.tr f2
      have q39' : ∀ i, cl ≤ i → i < N → τ2.1 (Y 39) i = t.1 (Y 39) i ∧ τ2.1 (Y 40) i = t.1 (Y 40) i := fun i _ _ => ⟨congrFun (zMc_r M g2 (by unfold zMj; omega) (by decide)) i, congrFun (zMc_r M g2 (by unfold zMj; omega) (by decide)) i⟩
      have d36 := congrFun (zMc_r M g2 (j := 36) (by unfold zMj; omega) (by decide)) b
      have d37 := congrFun (zMc_r M g2 (j := 37) (by unfold zMj; omega) (by decide)) b
      have h35 := (M1.1 35 (by unfold zMj; omega)).1
      have h36 := (M1.1 36 (by unfold zMj; omega)).1
      have i36 := (M2.1 36 (by unfold zMj; omega)).1
      have i37 := (M2.1 37 (by unfold zMj; omega)).1
      simp only [e1, h35, h36, c35, c36, f1, i36, i37, d36, d37]
      by_cases zl : vlC ft l = none
      · have p1' : (τ1.1 a 47).toInt = 1 := e3 zl
        have p2' : ¬ (τ2.1 a 47).toInt = 0 := by
          by_cases zr : vlC ft r = none
          · rw [f3 zr]; decide
          · rw [f4 zr, p1']; decide
        rw [if_neg p2']
        refine ⟨τ2, ?_, g2⟩
        rw [evB, zl]
      · obtain ⟨xl, hl⟩ : ∃ y, vlC ft l = some y := by
          cases h : vlC ft l with
          | none => exact absurd h zl
          | some y => exact ⟨y, rfl⟩
        by_cases zr : vlC ft r = none
        · rw [if_neg (by rw [f3 zr]; decide)]
          refine ⟨τ2, ?_, g2⟩
          rw [evB, hl, zr]
        · obtain ⟨xr, hr⟩ : ∃ y, vlC ft r = some y := by
            cases h : vlC ft r with
            | none => exact absurd h zr
            | some y => exact ⟨y, rfl⟩
          have z47 : (τ2.1 a 47).toInt = 0 := by rw [f4 zr, e4 zl]; exact h47
          rw [if_pos z47, hl, hr, evB, hl, hr]
          show ∃ t', (if xl.toInt < xr.toInt then _ else _) = ((if xl.toInt < xr.toInt then (vlC ft w).getD 0 else evB ft B), t') ∧ _
          by_cases c : xl.toInt < xr.toInt
          · rw [if_pos c, if_pos c]
            obtain ⟨τ3, u1, u2, u3, u4⟩ := mTerm M2 (k4.cg (Nat.le_refl _) q39') hN o3
            simp only [u1]
            refine ⟨τ3, ?_, g2.tr u2⟩
            by_cases z : vlC ft w = none
            · rw [if_neg (by rw [u3 z]; decide), z]
              rfl
            · rw [if_pos (by rw [u4 z]; exact z47)]
          · rw [if_neg c, if_neg c]
            have rows : ∀ j i, 33 ≤ j → j ≤ 37 → b + 1 ≤ i → i < b + 1 + B.length → τ2.1 (Y j) i = t.1 (Y j) i := fun j i j1 j2 _ _ => congrFun (zMc_r M g2 (by unfold zMj; omega) (by omega)) i
            obtain ⟨t', u1, u2⟩ := ih (b + 1) n (x17 + (1 : Int32)) τ2 M2 o4 (zBz_cg (Nat.le_refl _) q39' B (b + 1) rows hB2) (by omega) (zp1 hx (by omega)) (by rw [congrFun (zMc_r M g2 (j := 31) (by unfold zMj; omega) (by decide)) v, h31]; omega) (by omega) z47
            exact ⟨t', u1, g2.tr u2⟩
/-- what is asked where a law may not be told -/
def lwV (ft : Nat → Int32) (d : Int32) : Option (List zBr) → Int32
  | none => d
  | some B => evB ft B
/-- how the reference holds a law -/
def zLm (Y : Nat → Nat) (cl bl : Nat) (t : zS) (N Nb v : Nat) : Option (List zBr) → Prop
  | none => (t.1 (Y 30) v).toInt = (t.1 (Y 31) v).toInt
  | some B => ∃ b : Nat, (t.1 (Y 30) v).toInt = b ∧ (t.1 (Y 31) v).toInt = b + B.length ∧ b + B.length ≤ Nb ∧ bl ≤ b ∧ zBz Y cl t N b B
theorem mLawA {t : zS} {Nb : Nat} (M : zMc a Y ft t) (hN : N ≤ 4000) (hNb : Nb ≤ 2000) {k b : Nat} (h18 : (t.1 a 18).toInt = b) (hb : b ≤ 1) (hp : p1.toInt = k) (hk : k < 5) {g : Option (List zBr)} (hg : zLm Y cl bl t N Nb (5 * b + k) g) (ho : ∀ B, g = some B → okB B) : ∃ t', F_X11_lawTells a p1 p2 t = (lwV ft p2 g, t') ∧ zFr (fun c j => c = Y 46 ∨ (c = a ∧ j = 47)) t t' := by
  have e5 : (5 : Int32).toInt = 5 := by decide
  have g30 := (M.1 30 (by unfold zMj; omega)).1
  have g31 := (M.1 31 (by unfold zMj; omega)).1
  have n30 := (M.1 30 (by unfold zMj; omega)).2.1
  have v1 : ((5 : Int32) * t.1 a 18).toInt = 5 * (b : Int) := by rw [zb_mul (by rw [e5, h18]; omega) (by rw [e5, h18]; omega), e5, h18]
  have v2 : ((5 : Int32) * t.1 a 18 + p1).toInt = ((5 * b + k : Nat) : Int) := by rw [zb_add (by rw [v1]; omega) (by rw [v1]; omega), v1, hp]; omega
  have w : ((5 : Int32) * t.1 a 18 + p1).toNatClampNeg = 5 * b + k := by rw [ztn, v2]; rfl
  unfold F_X11_lawTells
  simp only [zlt, g30, g31, w]
  cases g with
  | none =>
    have hg' : (t.1 (Y 30) (5 * b + k)).toInt = (t.1 (Y 31) (5 * b + k)).toInt := hg
    rw [if_pos hg']
    exact ⟨t, rfl, zFr.id⟩
  | some B =>
    obtain ⟨b0, h30, h31, hB2k, -, hB⟩ := hg
    have ho := ho B rfl
    have h0 : 0 < B.length := by
      cases B with
      | nil => exact ho.elim
      | cons x B => rw [List.length_cons]; omega
    rw [if_neg (by omega)]
    have g0 : zFr (fun c j => c = Y 46 ∨ (c = a ∧ j = 47)) t (zu t.1 a 47 0, t.2.1, t.2.2) := zFr.id.w (Or.inr ⟨rfl, rfl⟩)
    have M0 := M.fr g0
    have q : ∀ i, cl ≤ i → i < N → (zu t.1 a 47 (0 : Int32)) (Y 39) i = t.1 (Y 39) i ∧ (zu t.1 a 47 (0 : Int32)) (Y 40) i = t.1 (Y 40) i := fun i _ _ => ⟨congrFun (zMc_r M g0 (by unfold zMj; omega) (by decide)) i, congrFun (zMc_r M g0 (by unfold zMj; omega) (by decide)) i⟩
    have c30 : zu t.1 a 47 (0 : Int32) (Y 30) (5 * b + k) = t.1 (Y 30) (5 * b + k) := congrFun (zMc_r M g0 (j := 30) (by unfold zMj; omega) (by decide)) _
    have c31 : zu t.1 a 47 (0 : Int32) (Y 31) (5 * b + k) = t.1 (Y 31) (5 * b + k) := congrFun (zMc_r M g0 (j := 31) (by unfold zMj; omega) (by decide)) _
    obtain ⟨t', u1, u2⟩ := mLawV (p1 := p1) (p2 := p2) w hN B b0 4294967299 (zu t.1 a 47 (0 : Int32) (Y 30) (5 * b + k)) _ M0 ho (zBz_cg (Nat.le_refl _) q B b0 (fun j i j1 j2 _ _ => congrFun (zMc_r M g0 (by unfold zMj; omega) (by omega)) i) hB) (by omega) (by rw [c30]; exact h30) ((congrArg Int32.toInt c31).trans h31) (by omega) (by show (zu t.1 a 47 (0 : Int32) a 47).toInt = 0; rw [zu_s]; decide)
    exact ⟨t', u1, g0.tr u2⟩
end LAWM
end
-- 35x80.lw13
section
/-! A LAW ASKED OF THE CLASS -/
/-- what a law is that no text tells -/
def dfl : Nat → Int × Int
  | 0 => (1, 0)
  | 1 => (0, 0)
  | 2 => (1, 1)
  | 3 => (1, 4)
  | _ => (1, 2)
def lwB (v : Nat) : Option (List zBr) → List zBr
  | none => [(none, [dfl v])]
  | some B => B
/-- how the class holds a law -/
def zLc (A6 A7 A9 : Nat) (t : zS) (K v : Nat) (g : Option (List zBr)) : Prop := okB (lwB v g) ∧ ∃ i : Nat, (t.1 A9 v).toInt = i ∧ zHo A6 A7 t i (cBr i (lwB v g)) ∧ i + (cBr i (lwB v g)).length ≤ K
theorem okB_d (v : Nat) : okB [(none, [dfl v])] := by
  match v with
  | 0 => exact Or.inl ⟨Or.inr ⟨rfl, by decide, by decide⟩, by decide, rfl⟩
  | 1 => exact Or.inl ⟨Or.inl ⟨rfl, by decide⟩, by decide, rfl⟩
  | 2 => exact Or.inl ⟨Or.inr ⟨rfl, by decide, by decide⟩, by decide, rfl⟩
  | 3 => exact Or.inl ⟨Or.inr ⟨rfl, by decide, by decide⟩, by decide, rfl⟩
  | _ + 4 => exact Or.inl ⟨Or.inr ⟨rfl, (by decide : (0 : Int) ≤ 2), (by decide : (2 : Int) < 9)⟩, by decide, rfl⟩
section LAWC2
variable {a tt A F A6 A7 A9 K : Nat} {p2 : Int32} {ft : Nat → Int32} {t0 : zS}
theorem cLawA (E : zEc a tt A F A6 A7 K ft t0) (h9 : (t0.2.2 tt 9).getD 0 = A9) {v : Nat} (hp : p2.toInt = v) {g : Option (List zBr)} (h : zLc A6 A7 A9 t0 K v g) : ∃ τ', F_X0_answer a tt p2 t0 = (evB ft (lwB v g), τ') ∧ zFr (fun c _ => c = A) t0 τ' := by
  obtain ⟨ho, i, h1, h2, h3⟩ := h
  have w : p2.toNatClampNeg = v := by rw [ztn, hp]; rfl
  have e0 : (0 : Int32).toInt = 0 := by decide
  unfold F_X0_answer
  simp only [zlt, h9, w]
  exact cLawV E (lwB v g) i 10000 0 0 (t0.1 A9 v) 0 t0 ho h2 h3 ⟨e0, Nat.zero_le _, by omega, h1, e0, trivial, zFr.id⟩
/-- told or not: the same worth -/
theorem lwV_e {v : Nat} {d : Int32} (g : Option (List zBr)) (hd : d = evB ft [(none, [dfl v])]) : lwV ft d g = evB ft (lwB v g) := by
  cases g with
  | none => exact hd
  | some B => rfl
theorem lwV_0 : evB ft [(none, [dfl 0])] = ft 0 := rfl
theorem lwV_1 : evB ft [(none, [dfl 1])] = 0 := by
  show Int32.ofInt 0 = 0
  decide
theorem lwV_2 : evB ft [(none, [dfl 2])] = ft 1 := rfl
theorem lwV_3 : evB ft [(none, [dfl 3])] = ft 4 := rfl
theorem lwV_4 : evB ft [(none, [dfl 4])] = ft 2 := rfl
end LAWC2
end
-- 35x81.lw14
section
/-! THE REFERENCE PUTS DOWN A LAW -/
/-- what an expression writes -/
def zAx (Y : Nat → Nat) (a : Nat) : Nat → Nat → Prop := fun c i => (c = a ∧ i ≠ 32 ∧ i ≠ 19) ∨ c = Y 39 ∨ c = Y 40 ∨ c = Y 43
/-- where the putting down stands: branches, codes -/
def zLs (a : Nat) (R : Nat → Nat → Option Nat) (nb nc : Nat) (τ : zS) : Prop := τ.2.2 = R ∧ (τ.1 a 32).toInt = nb ∧ (τ.1 a 38).toInt = nc
/-- what stands ahead stays -/
def zPx (a : Nat) (Y : Nat → Nat) (nb nc : Nat) (τ τ' : zS) : Prop := (∀ i, i < nc → τ'.1 (Y 39) i = τ.1 (Y 39) i ∧ τ'.1 (Y 40) i = τ.1 (Y 40) i) ∧ (∀ j i, 33 ≤ j → j ≤ 37 → i < nb → τ'.1 (Y j) i = τ.1 (Y j) i) ∧ (∀ j, (j = 30 ∨ j = 31) → τ'.1 (Y j) = τ.1 (Y j)) ∧ τ'.1 a 19 = τ.1 a 19
section YL
variable {a k q v nm nO m nb nc cl : Nat} {Y : Nat → Nat} {T : zTn} {R : Nat → Nat → Option Nat} {τ τ' τ'' : zS} {s : zA}
theorem zPx.tr {nb' nc' : Nat} (h : zPx a Y nb nc τ τ') (g : zPx a Y nb' nc' τ' τ'') (h1 : nb ≤ nb') (h2 : nc ≤ nc') : zPx a Y nb nc τ τ'' := ⟨fun i hi => ⟨(g.1 i (by omega)).1.trans (h.1 i hi).1, (g.1 i (by omega)).2.trans (h.1 i hi).2⟩, fun j i j1 j2 hi => (g.2.1 j i j1 j2 (by omega)).trans (h.2.1 j i j1 j2 hi), fun j hj => (g.2.2.1 j hj).trans (h.2.2.1 j hj), g.2.2.2.trans h.2.2.2⟩
theorem yQ {j : Nat} (h : j = 30 ∨ j = 31 ∨ (33 ≤ j ∧ j ≤ 37) ∨ j = 39 ∨ j = 40 ∨ j = 43) : zQs j := by unfold zQs; omega
theorem yD3 (hY : zYz Y a R) (hR : τ.2.2 = R) : zD3 a (Y 43) (Y 39) (Y 40) τ.2.2 := by
  rw [hR]
  have q43 : zQs 43 := yQ (by omega)
  have q39 : zQs 39 := yQ (by omega)
  have q40 : zQs 40 := yQ (by omega)
  exact ⟨⟨(hY.1 43 q43).1, (hY.1 39 q39).1, (hY.1 40 q40).1⟩, ⟨(hY.1 43 q43).2, (hY.1 39 q39).2, (hY.1 40 q40).2⟩, hY.2 43 39 q43 q39 (by decide), hY.2 43 40 q43 q40 (by decide), hY.2 39 40 q39 q40 (by decide)⟩
/-- frames of zAx -/
theorem yAx (hY : zYz Y a R) (g : zFi (zAx Y a) τ τ') (h : zLs a R nb nc τ) : τ'.2.2 = R ∧ (τ'.1 a 32).toInt = nb ∧ τ'.1 a 19 = τ.1 a 19 ∧ ∀ j, (j = 30 ∨ j = 31 ∨ (33 ≤ j ∧ j ≤ 37)) → τ'.1 (Y j) = τ.1 (Y j) := by
  have n39 := (hY.1 39 (yQ (by omega))).2
  have n40 := (hY.1 40 (yQ (by omega))).2
  have n43 := (hY.1 43 (yQ (by omega))).2
  refine ⟨g.1.trans h.1, ?_, g.2 a 19 (by
    rintro (z | z | z | z)
    · exact z.2.2 rfl
    · exact n39 z.symm
    · exact n40 z.symm
    · exact n43 z.symm), fun j hj => funext (fun i => g.2 _ _ ?_)⟩
  · rw [g.2 a 32 (by
      rintro (z | z | z | z)
      · exact z.2.1 rfl
      · exact n39 z.symm
      · exact n40 z.symm
      · exact n43 z.symm)]
    exact h.2.1
  · have qj : zQs j := yQ (by omega)
    rintro (z | z | z | z)
    · exact (hY.1 j qj).2 z.1
    · exact hY.2 j 39 qj (yQ (by omega)) (by omega) z
    · exact hY.2 j 40 qj (yQ (by omega)) (by omega) z
    · exact hY.2 j 43 qj (yQ (by omega)) (by omega) z
/-- a step that touches no code -/
theorem ySt (hY : zYz Y a R) (h : zLs a R nb nc τ) (g : zFi (fun c i => c = a ∧ (i = 11 ∨ i = 13 ∨ i = 14)) τ τ') : zLs a R nb nc τ' ∧ zPx a Y nb nc τ τ' ∧ ∀ j, zQs j → τ'.1 (Y j) = τ.1 (Y j) := by
  have r : ∀ j, zQs j → τ'.1 (Y j) = τ.1 (Y j) := fun j hj => funext (fun i => g.2 _ _ (fun z => (hY.1 j hj).2 z.1))
  refine ⟨⟨g.1.trans h.1, by rw [g.2 a 32 (by omega)]; exact h.2.1, by rw [g.2 a 38 (by omega)]; exact h.2.2⟩, ⟨fun i _ => ⟨by rw [r 39 (yQ (by omega))], by rw [r 40 (yQ (by omega))]⟩, fun j i j1 j2 _ => by rw [r j (yQ (by omega))], fun j hj => r j (yQ (by omega)), g.2 a 19 (by omega)⟩, r⟩
theorem yMu0 (x : Int32) : zFi (fun c i => c = a ∧ (i = 11 ∨ i = 13 ∨ i = 14)) τ (F_X11_must a x τ) := fi_X11_must zFi.id ⟨rfl, by decide⟩ ⟨rfl, by decide⟩ ⟨rfl, by decide⟩
theorem yGo0 : zFi (fun c i => c = a ∧ (i = 11 ∨ i = 13 ∨ i = 14)) τ (F_X11_goesOn a τ) := fi_X11_goesOn zFi.id ⟨rfl, by decide⟩ ⟨rfl, by decide⟩ ⟨rfl, by decide⟩
/-- an expression -/
theorem yEx (hd : zWd a k q v nm nO) (hT : zTm T m) (hK : zTK T m) (hY : zYz Y a R) (h : zXo a k q v nm nO m T τ s) (hl : zLs a R nb nc τ) (hc : nc ≤ 2000) (c : s.1 = 0) (hz : (aSum T s).1 = 0) : zLs a R nb (nc + (aCo T s).length) (F_X11_expression a τ) ∧ zHo (Y 39) (Y 40) (F_X11_expression a τ) nc (aCo T s) ∧ zPx a Y nb nc τ (F_X11_expression a τ) ∧ (aCo T s).length + s.2.2.1 ≤ (aSum T s).2.2.1 ∧ ∀ j, (j = 30 ∨ j = 31 ∨ (33 ≤ j ∧ j ≤ 37)) → (F_X11_expression a τ).1 (Y j) = τ.1 (Y j) := by
  obtain ⟨e1, e2, e3, e4⟩ := yExpr hd hT hK h (yD3 hY hl.1) hl.2.2 hc c hz
  have w39 : (τ.2.2 a 39).getD 0 = Y 39 := by rw [hl.1]; exact (hY.1 39 (yQ (by omega))).1
  have w40 : (τ.2.2 a 40).getD 0 = Y 40 := by rw [hl.1]; exact (hY.1 40 (yQ (by omega))).1
  have w43 : (τ.2.2 a 43).getD 0 = Y 43 := by rw [hl.1]; exact (hY.1 43 (yQ (by omega))).1
  have g : zFi (zAx Y a) τ (F_X11_expression a τ) := fi_X11_expression zFi.id (Or.inl ⟨rfl, by decide, by decide⟩) (Or.inl ⟨rfl, by decide, by decide⟩) (Or.inl ⟨rfl, by decide, by decide⟩) (fun j => by rw [w39]; exact Or.inr (Or.inl rfl)) (fun j => by rw [w40]; exact Or.inr (Or.inr (Or.inl rfl))) (Or.inl ⟨rfl, by decide, by decide⟩) (Or.inl ⟨rfl, by decide, by decide⟩) (fun j => by rw [w43]; exact Or.inr (Or.inr (Or.inr rfl))) (Or.inl ⟨rfl, by decide, by decide⟩)
  obtain ⟨g1, g2, g19, g3⟩ := yAx hY g hl
  exact ⟨⟨g1, g2, by rw [e2]; omega⟩, e1, ⟨e4, fun j i j1 j2 _ => by rw [g3 j (by omega)], fun j hj => g3 j (by omega), g19⟩, e3, g3⟩
/-- a row written at nb -/
theorem yRw (hY : zYz Y a R) (hl : zLs a R nb nc τ) {j : Nat} (hj : 33 ≤ j ∧ j ≤ 37) (x : Int32) : zLs a R nb nc (zu τ.1 (Y j) nb x, τ.2.1, τ.2.2) ∧ zPx a Y nb nc τ (zu τ.1 (Y j) nb x, τ.2.1, τ.2.2) ∧ zu τ.1 (Y j) nb x (Y j) nb = x ∧ (∀ i, zQs i → i ≠ j → zu τ.1 (Y j) nb x (Y i) = τ.1 (Y i)) := by
  have qj : zQs j := yQ (by omega)
  have na := (hY.1 j qj).2
  have r : ∀ i, zQs i → i ≠ j → zu τ.1 (Y j) nb x (Y i) = τ.1 (Y i) := fun i hi n => zu_n _ _ _ (hY.2 i j hi qj n)
  refine ⟨⟨hl.1, ?_, ?_⟩, ⟨fun i _ => ⟨?_, ?_⟩, fun i l i1 i2 hl' => ?_, fun i hi => r i (yQ (by omega)) (by omega), by show zu τ.1 (Y j) nb x a 19 = _; rw [zu_n _ _ _ (fun z => na z.symm)]⟩, zu_s _ _ _ _, r⟩
  · show (zu τ.1 (Y j) nb x a 32).toInt = _
    rw [zu_n _ _ _ (fun z => na z.symm)]
    exact hl.2.1
  · show (zu τ.1 (Y j) nb x a 38).toInt = _
    rw [zu_n _ _ _ (fun z => na z.symm)]
    exact hl.2.2
  · show zu τ.1 (Y j) nb x (Y 39) i = _
    rw [r 39 (yQ (by omega)) (by omega)]
  · show zu τ.1 (Y j) nb x (Y 40) i = _
    rw [r 40 (yQ (by omega)) (by omega)]
  · show zu τ.1 (Y j) nb x (Y i) l = _
    by_cases e : i = j
    · rw [e, zu_j _ _ _ _ _ (by omega)]
    · rw [r i (yQ (by omega)) e]
/-- a value of a branch -/
theorem yTm (hd : zWd a k q v nm nO) (hT : zTm T m) (hK : zTK T m) (hY : zYz Y a R) (h : zXo a k q v nm nO m T τ s) (hl : zLs a R nb nc τ) (hl0 : cl ≤ nc) (hc : nc ≤ 2000) (hb : nb ≤ 2000) (c : s.1 = 0) (hz : (aSum T s).1 = 0) : zLs a R (nb + 1) (nc + (aCo T s).length) (F_X11_term a τ) ∧ zSg Y cl (F_X11_term a τ) (nc + (aCo T s).length) ((F_X11_term a τ).1 (Y 36) nb) ((F_X11_term a τ).1 (Y 37) nb) (aCo T s) ∧ ((F_X11_term a τ).1 (Y 36) nb).toInt = nc ∧ zPx a Y nb nc τ (F_X11_term a τ) ∧ (aCo T s).length + s.2.2.1 ≤ (aSum T s).2.2.1 ∧ ∀ j, (33 ≤ j ∧ j ≤ 35) → (F_X11_term a τ).1 (Y j) = τ.1 (Y j) := by
  have e1 : (1 : Int32).toInt = 1 := by decide
  have q36 : zQs 36 := yQ (by omega)
  have q37 : zQs 37 := yQ (by omega)
  have g36 : (R a 36).getD 0 = Y 36 := (hY.1 36 q36).1
  have g37 : (R a 37).getD 0 = Y 37 := (hY.1 37 q37).1
  have n36 := (hY.1 36 q36).2
  have n37 := (hY.1 37 q37).2
  have nn : (τ.1 a 32).toNatClampNeg = nb := by rw [ztn, hl.2.1]; rfl
  obtain ⟨a1, a2, a3, a4⟩ := yRw hY hl (j := 36) (by omega) (τ.1 a 38)
  have h1 := xArr h 36 nb (τ.1 a 38) q36
  have w36 : (τ.2.2 a 36).getD 0 = Y 36 := by rw [hl.1]; exact g36
  rw [w36] at h1
  have z13 : (zu τ.1 (Y 36) nb (τ.1 a 38) a 13).toInt = 0 := h1.1.2.1.trans c
  obtain ⟨b1, b2, b3, b4, b5⟩ := yEx hd hT hK hY h1 a1 hc c hz
  obtain ⟨t, ht⟩ : ∃ t, t = F_X11_expression a (zu τ.1 (Y 36) nb (τ.1 a 38), τ.2.1, τ.2.2) := ⟨_, rfl⟩
  rw [← ht] at b1 b2 b3 b5
  obtain ⟨c1, c2, c3, c4⟩ := yRw hY b1 (j := 37) (by omega) (t.1 a 38)
  have tn : (t.1 a 32).toNatClampNeg = nb := by rw [ztn, b1.2.1]; rfl
  have tw : (t.2.2 a 37).getD 0 = Y 37 := by rw [b1.1]; exact g37
  have E : F_X11_term a τ = (zu (zu t.1 (Y 37) nb (t.1 a 38)) a 32 (t.1 a 32 + (1 : Int32)), t.2.1, t.2.2) := by
    unfold F_X11_term
    simp only [zlt, w36, nn]
    rw [if_pos z13, ← ht]
    simp only [tw, tn, zu_n _ _ _ (fun z : a = Y 37 => n37 z.symm)]
  rw [E]
  have fr : ∀ j, zQs j → zu (zu t.1 (Y 37) nb (t.1 a 38)) a 32 (t.1 a 32 + (1 : Int32)) (Y j) = zu t.1 (Y 37) nb (t.1 a 38) (Y j) := fun j hj => zu_n _ _ _ (hY.1 j hj).2
  have r36 : zu (zu t.1 (Y 37) nb (t.1 a 38)) a 32 (t.1 a 32 + (1 : Int32)) (Y 36) nb = τ.1 a 38 := by rw [fr 36 q36, c4 36 q36 (by decide), b5 36 (by omega)]; exact a3
  have r37 : zu (zu t.1 (Y 37) nb (t.1 a 38)) a 32 (t.1 a 32 + (1 : Int32)) (Y 37) nb = t.1 a 38 := by rw [fr 37 q37]; exact c3
  have q39 : zQs 39 := yQ (by omega)
  have q40 : zQs 40 := yQ (by omega)
  have p2 : zPx a Y nb nc τ (zu (zu t.1 (Y 37) nb (t.1 a 38)) a 32 (t.1 a 32 + (1 : Int32)), t.2.1, t.2.2) := by
    refine ((a2.tr b3 (Nat.le_refl _) (Nat.le_refl _)).tr c2 (Nat.le_refl _) (by omega)).tr (nb' := nb) (nc' := nc) ⟨fun i _ => ⟨?_, ?_⟩, fun j i j1 j2 _ => ?_, fun j hj => fr j (yQ (by omega)), ?_⟩ (Nat.le_refl _) (Nat.le_refl _)
    · show zu (zu t.1 (Y 37) nb (t.1 a 38)) a 32 (t.1 a 32 + (1 : Int32)) (Y 39) i = _
      rw [fr 39 q39]
    · show zu (zu t.1 (Y 37) nb (t.1 a 38)) a 32 (t.1 a 32 + (1 : Int32)) (Y 40) i = _
      rw [fr 40 q40]
    · show zu (zu t.1 (Y 37) nb (t.1 a 38)) a 32 (t.1 a 32 + (1 : Int32)) (Y j) i = _
      rw [fr j (yQ (by omega))]
    · show zu (zu t.1 (Y 37) nb (t.1 a 38)) a 32 (t.1 a 32 + (1 : Int32)) a 19 = zu t.1 (Y 37) nb (t.1 a 38) a 19
      rw [zu_j _ _ _ _ _ (by decide)]
  refine ⟨⟨b1.1, ?_, ?_⟩, ⟨nc, ?_, ?_, ?_, Nat.le_refl _, hl0⟩, ?_, p2, b4, fun j hj => ?_⟩
  · show (zu (zu t.1 (Y 37) nb (t.1 a 38)) a 32 (t.1 a 32 + (1 : Int32)) a 32).toInt = _
    rw [zu_s, zb_add (by rw [e1, b1.2.1]; omega) (by rw [e1, b1.2.1]; omega), e1, b1.2.1]
    omega
  · show (zu (zu t.1 (Y 37) nb (t.1 a 38)) a 32 (t.1 a 32 + (1 : Int32)) a 38).toInt = _
    rw [zu_j _ _ _ _ _ (by decide), zu_n _ _ _ (fun z => n37 z.symm)]
    exact b1.2.2
  · show (zu (zu t.1 (Y 37) nb (t.1 a 38)) a 32 (t.1 a 32 + (1 : Int32)) (Y 36) nb).toInt = _
    rw [r36]
    exact hl.2.2
  · show (zu (zu t.1 (Y 37) nb (t.1 a 38)) a 32 (t.1 a 32 + (1 : Int32)) (Y 37) nb).toInt = _
    rw [r37, b1.2.2]
    omega
  · refine zHo_cg _ _ (fun i _ _ => ⟨?_, ?_⟩) b2
    · show zu (zu t.1 (Y 37) nb (t.1 a 38)) a 32 (t.1 a 32 + (1 : Int32)) (Y 39) i = _
      rw [fr 39 q39, c4 39 q39 (by decide)]
    · show zu (zu t.1 (Y 37) nb (t.1 a 38)) a 32 (t.1 a 32 + (1 : Int32)) (Y 40) i = _
      rw [fr 40 q40, c4 40 q40 (by decide)]
  · show (zu (zu t.1 (Y 37) nb (t.1 a 38)) a 32 (t.1 a 32 + (1 : Int32)) (Y 36) nb).toInt = _
    rw [r36]
    exact hl.2.2
  · show zu (zu t.1 (Y 37) nb (t.1 a 38)) a 32 (t.1 a 32 + (1 : Int32)) (Y j) = _
    have qj : zQs j := yQ (by omega)
    rw [fr j qj, c4 j qj (by omega), b5 j (by omega)]
    exact a4 j qj (by omega)
end YL
end
-- 35x82.lw15
section
/-! THE REFERENCE'S LAW, branch by branch -/
section YL2
variable {a k q v nm nO m nb nc cl : Nat} {Y : Nat → Nat} {T : zTn} {R : Nat → Nat → Option Nat} {τ τ' τ'' : zS} {s : zA}
theorem aE_p {T : zTn} : ∀ (n : Nat) (b : Bool) (o : Int) (s : zA), (aE T n b o s).1 = 0 → s.2.2.1 ≤ (aE T n b o s).2.2.1 := by
  intro n
  induction n with
  | zero => intro b o s _; exact Nat.le_refl _
  | succ n ih =>
    intro b o s
    have tk : ∀ (w : Int) (b : Bool) (o : Int), (aE T n b o (aTake T w s)).1 = 0 → s.2.2.1 ≤ (aE T n b o (aTake T w s)).2.2.1 := fun w b o h => by
      have q := ih b o _ h
      by_cases c : (aTake T w s).1 = 0
      · have := (aTake_i c).2.2.1
        omega
      · rw [aE_f c] at h
        exact absurd h c
    cases b with
    | true =>
      rw [aE]
      split
      · intro _; exact Nat.le_refl _
      · split
        · exact tk _ _ _
        · split
          · exact tk _ _ _
          · intro h
            exact absurd h (aFail_1 (by split <;> decide))
    | false =>
      rw [aE]
      split
      · intro _; exact Nat.le_refl _
      · split
        · exact tk _ _ _
        · split
          · split
            · exact tk _ _ _
            · intro h
              exact absurd h (aFail_1 (by decide))
          · intro _; exact Nat.le_refl _
theorem aSum_p {T : zTn} {s : zA} (h : (aSum T s).1 = 0) : s.2.2.1 < (aSum T s).2.2.1 := by
  have c : s.1 = 0 := aSum_z h
  unfold aSum at h ⊢
  have tk : ∀ (w : Int) (b : Bool) (o : Int), (aE T 499 b o (aTake T w s)).1 = 0 → s.2.2.1 < (aE T 499 b o (aTake T w s)).2.2.1 := fun w b o h => by
    have q := aE_p 499 b o _ h
    by_cases c : (aTake T w s).1 = 0
    · have := (aTake_i c).2.2.1
      omega
    · rw [aE_f c] at h
      exact absurd h c
  have e : aE T 500 true 0 s = aE T (499 + 1) true 0 s := rfl
  rw [e, aE, if_neg (zne c)] at h ⊢
  by_cases c1 : T.1 s.2.2.1 = 23 ∨ (13 ≤ T.1 s.2.2.1 ∧ T.1 s.2.2.1 < 22)
  · rw [if_pos c1] at h ⊢
    exact tk _ _ _ h
  · rw [if_neg c1] at h ⊢
    by_cases c2 : T.1 s.2.2.1 = 31 ∧ (0 : Int) < 6
    · rw [if_pos c2] at h ⊢
      exact tk _ _ _ h
    · rw [if_neg c2] at h
      exact absurd h (aFail_1 (by split <;> decide))
theorem aLb_f {l : Nat} {j : Int} (h : ¬ (j ≤ 4 ∧ s.1 = 0 ∧ T.1 s.2.2.1 = 10)) : aLb T (l + 1) j s = [(none, aCo T s)] := by rw [aLb, if_neg h]
theorem yLaw_l (hd : zWd a k q v nm nO) (hT : zTm T m) (hK : zTK T m) (hY : zYz Y a R) {v4 p1 : Int32} : ∀ (n : Nat) (x : Int32) (j : Nat) (τ : zS) (s : zA) (nb nc : Nat), x.toInt = j → j ≤ 4 → 4 - j < n → zXo a k q v nm nO m T τ s → zLs a R nb nc τ → cl ≤ nc → nc ≤ 1000 + s.2.2.1 → nb ≤ 1000 + s.2.2.1 → ∀ l, 5 - j < l → (aTake T 24 (aLw T l j s)).1 = 0 → ∃ (τ' : zS) (nc' : Nat), F_X11_tellLaw_12 v4 a p1 n x τ = (zu (zu τ'.1 (Y 30) ((5 : Int32) * τ'.1 a 19 + p1).toNatClampNeg v4) (Y 31) ((5 : Int32) * τ'.1 a 19 + p1).toNatClampNeg (τ'.1 a 32), τ'.2.1, τ'.2.2) ∧ zLs a R (nb + (aLb T l j s).length) nc' τ' ∧ zPx a Y nb nc τ τ' ∧ zBz Y cl τ' nc' nb (aLb T l j s) ∧ nc' + s.2.2.1 ≤ nc + (aLw T l j s).2.2.1 ∧ 4 * (aLb T l j s).length + s.2.2.1 ≤ (aLw T l j s).2.2.1 + 3 ∧ nc ≤ nc' := by
  have rk := hK.2.1
  have e4 : (4 : Int32).toInt = 4 := by decide
  have b1 : (vp_nar .boolean (1 : Int32)).toInt = 1 := by decide
  have b0 : (vp_nar .boolean (0 : Int32)).toInt = 0 := by decide
  have g33 : (R a 33).getD 0 = Y 33 := (hY.1 33 (yQ (by omega))).1
  have g34 : (R a 34).getD 0 = Y 34 := (hY.1 34 (yQ (by omega))).1
  have g35 : (R a 35).getD 0 = Y 35 := (hY.1 35 (yQ (by omega))).1
  have g30 : (R a 30).getD 0 = Y 30 := (hY.1 30 (yQ (by omega))).1
  have g31 : (R a 31).getD 0 = Y 31 := (hY.1 31 (yQ (by omega))).1
  have n30 := (hY.1 30 (yQ (by omega))).2
  intro n
  induction n with
  | zero => intro x j τ s nb nc _ _ h; exact absurd h (by omega)
  | succ n ih =>
    intro x j τ s nb nc hx hj hm h hl hc0 hc hb l hl' hz
    obtain ⟨l, rfl⟩ : ∃ w, l = w + 1 := ⟨l - 1, by omega⟩
    have zw := aTake_z hz
    have c : s.1 = 0 := aLw_z zw
    have pm := (h.1.2.2.2.2 c).1
    have nn : (τ.1 a 32).toNatClampNeg = nb := by rw [ztn, hl.2.1]; rfl
    have w33 : (τ.2.2 a 33).getD 0 = Y 33 := by rw [hl.1]; exact g33
    rw [F_X11_tellLaw_12]
    simp only [zlt, wIs hT h.1 30 10 (by decide) (by decide), e4, w33, nn]
    rw [if_pos (h.1.2.1.trans c)]
    by_cases c1 : T.1 s.2.2.1 = 10
    · rw [if_neg (fun z => z ⟨c, c1⟩)]
      have ek : aLw T (l + 1) j s = aLw T l ((j : Int) + 1) (aIf T j s) := by rw [aLw, if_pos ⟨by omega, c, c1⟩]
      rw [ek] at hz zw ⊢
      have zi := aLw_z zw
      have nj : ¬ (j : Int) = 4 := fun e => by
        have f : (aFail T 2 s).1 ≠ 0 := aFail_1 (by decide)
        unfold aIf at zi
        rw [if_pos e] at zi
        exact f (aTake_z (aSum_z (aTake_z (aSum_z (aTake_z (aSum_z (aTake_z zi)))))))
      rw [if_neg (by omega), if_neg (by rw [h.1.2.1]; omega)]
      have ei : aIf T j s = aTake T 12 (aSum T (aTake T 11 (aSum T (aTake T 30 (aSum T (aTake T 10 s)))))) := by
        unfold aIf
        rw [if_neg nj]
      have eb : aLb T (l + 1) j s = (some (aCo T (aTake T 10 s), aCo T (aTake T 30 (aSum T (aTake T 10 s)))), aCo T (aTake T 11 (aSum T (aTake T 30 (aSum T (aTake T 10 s)))))) :: aLb T l ((j : Int) + 1) (aIf T j s) := by rw [aLb, if_pos ⟨by omega, c, c1⟩]
      rw [eb]
      rw [ei] at hz zw zi ⊢
      obtain ⟨s1, hs1⟩ : ∃ s1, s1 = aTake T 10 s := ⟨_, rfl⟩
      obtain ⟨s2, hs2⟩ : ∃ s2, s2 = aSum T s1 := ⟨_, rfl⟩
      obtain ⟨s3, hs3⟩ : ∃ s3, s3 = aTake T 30 s2 := ⟨_, rfl⟩
      obtain ⟨s4, hs4⟩ : ∃ s4, s4 = aSum T s3 := ⟨_, rfl⟩
      obtain ⟨s5, hs5⟩ : ∃ s5, s5 = aTake T 11 s4 := ⟨_, rfl⟩
      obtain ⟨s6, hs6⟩ : ∃ s6, s6 = aSum T s5 := ⟨_, rfl⟩
      obtain ⟨s7, hs7⟩ : ∃ s7, s7 = aTake T 12 s6 := ⟨_, rfl⟩
      rw [← hs1, ← hs2, ← hs3, ← hs4, ← hs5, ← hs6, ← hs7] at hz zw zi
      rw [← hs1, ← hs2, ← hs3, ← hs4, ← hs5, ← hs6, ← hs7]
      have zi6 : s6.1 = 0 := by rw [hs7] at zi; exact aTake_z zi
      have zi5 : s5.1 = 0 := by rw [hs6] at zi6; exact aSum_z zi6
      have zi4 : s4.1 = 0 := by rw [hs5] at zi5; exact aTake_z zi5
      have zi3 : s3.1 = 0 := by rw [hs4] at zi4; exact aSum_z zi4
      have zi2 : s2.1 = 0 := by rw [hs3] at zi3; exact aTake_z zi3
      have zi1 : s1.1 = 0 := by rw [hs2] at zi2; exact aSum_z zi2
      have t1 := aTake_i (by rw [← hs1]; exact zi1 : (aTake T 10 s).1 = 0)
      have t3 := aTake_i (by rw [← hs3]; exact zi3 : (aTake T 30 s2).1 = 0)
      have t5 := aTake_i (by rw [← hs5]; exact zi5 : (aTake T 11 s4).1 = 0)
      have t7 := aTake_i (by rw [← hs7]; exact zi : (aTake T 12 s6).1 = 0)
      rw [← hs1] at t1
      rw [← hs3] at t3
      rw [← hs5] at t5
      rw [← hs7] at t7
      -- if
      have u1 := xOn hd hT hK h 10 (fun _ => c1) (by decide)
      rw [← hs1] at u1
      obtain ⟨v1, v2, v3⟩ := ySt hY hl yGo0
      obtain ⟨τ1, ht1⟩ : ∃ t, t = F_X11_goesOn a τ := ⟨_, rfl⟩
      rw [← ht1] at u1 v1 v2 v3 ⊢
      have m1 : (τ1.1 a 32).toNatClampNeg = nb := by rw [ztn, v1.2.1]; rfl
      have x33 : (τ1.2.2 a 33).getD 0 = Y 33 := by rw [v1.1]; exact g33
      obtain ⟨d1, d2, d3, d4⟩ := yRw hY v1 (j := 33) (by omega) (vp_nar .boolean (1 : Int32))
      have u2 := xArr u1 33 nb (vp_nar .boolean (1 : Int32)) (yQ (by omega))
      rw [x33] at u2
      obtain ⟨τ2, ht2⟩ : ∃ t : zS, t = (zu τ1.1 (Y 33) nb (vp_nar .boolean (1 : Int32)), τ1.2.1, τ1.2.2) := ⟨_, rfl⟩
      have m2 : (τ2.1 a 32).toNatClampNeg = nb := by rw [ztn, ht2, d1.2.1]; rfl
      have x34 : (τ2.2.2 a 34).getD 0 = Y 34 := by rw [ht2, d1.1]; exact g34
      have q1 : zu τ1.1 (Y 33) nb (vp_nar .boolean (1 : Int32)) = τ2.1 := by rw [ht2]
      have q2 : τ1.2.1 = τ2.2.1 := by rw [ht2]
      have q3 : τ1.2.2 = τ2.2.2 := by rw [ht2]
      have y33 : (τ2.2.2 a 33).getD 0 = Y 33 := by rw [← q3]; exact x33
      simp only [q2, q3, y33, m1, q1, x34, m2]
      rw [← ht2] at d1 d2 u2
      have d3' : τ2.1 (Y 33) nb = vp_nar .boolean (1 : Int32) := by rw [ht2]; exact d3
      obtain ⟨f1, f2, f3, f4⟩ := yRw hY d1 (j := 34) (by omega) (τ2.1 a 38)
      have u3 := xArr u2 34 nb (τ2.1 a 38) (yQ (by omega))
      rw [x34] at u3
      obtain ⟨τ3, ht3⟩ : ∃ t : zS, t = (zu τ2.1 (Y 34) nb (τ2.1 a 38), τ2.2.1, τ2.2.2) := ⟨_, rfl⟩
      rw [← ht3] at f1 f2 u3 ⊢
      have r33 : τ3.1 (Y 33) nb = vp_nar .boolean (1 : Int32) := by rw [ht3]; show zu τ2.1 (Y 34) nb _ (Y 33) nb = _; rw [f4 33 (yQ (by omega)) (by decide)]; exact d3'
      have r34 : τ3.1 (Y 34) nb = τ2.1 a 38 := by rw [ht3]; exact f3
      -- the left
      obtain ⟨l1, l2, l3, l4, l5⟩ := yEx hd hT hK hY u3 f1 (by omega) zi1 (by rw [← hs2]; exact zi2)
      rw [← hs2] at l4
      have u4 := xExpr hd hT hK u3
      rw [← hs2] at u4
      obtain ⟨τ4, ht4⟩ : ∃ t, t = F_X11_expression a τ3 := ⟨_, rfl⟩
      rw [← ht4] at l1 l2 l3 l5 u4 ⊢
      have u5 := xMust hd hT hK u4 13 30 (by decide) (by decide)
      rw [← hs3] at u5
      obtain ⟨o1, o2, o3⟩ := ySt hY l1 (yMu0 13)
      obtain ⟨τ5, ht5⟩ : ∃ t, t = F_X11_must a 13 τ4 := ⟨_, rfl⟩
      rw [← ht5] at o1 o2 o3 u5 ⊢
      have m5 : (τ5.1 a 32).toNatClampNeg = nb := by rw [ztn, o1.2.1]; rfl
      have x35 : (τ5.2.2 a 35).getD 0 = Y 35 := by rw [o1.1]; exact g35
      obtain ⟨w1, w2, w3, w4⟩ := yRw hY o1 (j := 35) (by omega) (τ5.1 a 38)
      have u6 := xArr u5 35 nb (τ5.1 a 38) (yQ (by omega))
      rw [x35] at u6
      simp only [x35, m5]
      obtain ⟨τ6, ht6⟩ : ∃ t : zS, t = (zu τ5.1 (Y 35) nb (τ5.1 a 38), τ5.2.1, τ5.2.2) := ⟨_, rfl⟩
      have z13 : (zu τ5.1 (Y 35) nb (τ5.1 a 38) a 13).toInt = 0 := by
        have := u6.1.2.1
        exact this.trans zi3
      rw [if_pos z13, ← ht6]
      rw [← ht6] at w1 w2 u6
      have p35 : τ6.1 (Y 35) nb = τ5.1 a 38 := by rw [ht6]; exact w3
      have p33 : τ6.1 (Y 33) nb = vp_nar .boolean (1 : Int32) := by
        rw [ht6]
        show zu τ5.1 (Y 35) nb _ (Y 33) nb = _
        rw [w4 33 (yQ (by omega)) (by decide), o3 33 (yQ (by omega)), l5 33 (by omega)]
        exact r33
      have p34 : τ6.1 (Y 34) nb = τ2.1 a 38 := by
        rw [ht6]
        show zu τ5.1 (Y 35) nb _ (Y 34) nb = _
        rw [w4 34 (yQ (by omega)) (by decide), o3 34 (yQ (by omega)), l5 34 (by omega)]
        exact r34
      -- the right
      have pm3 := (u6.1.2.2.2.2 zi3).1
      obtain ⟨q1, q2, q3, q4, q5⟩ := yEx hd hT hK hY u6 w1 (by omega) zi3 (by rw [← hs4]; exact zi4)
      rw [← hs4] at q4
      have u7 := xExpr hd hT hK u6
      rw [← hs4] at u7
      obtain ⟨τ7, ht7⟩ : ∃ t, t = F_X11_expression a τ6 := ⟨_, rfl⟩
      rw [← ht7] at q1 q2 q3 q5 u7 ⊢
      have u8 := xMust hd hT hK u7 31 11 (by decide) (by decide)
      rw [← hs5] at u8
      obtain ⟨y1, y2, y3⟩ := ySt hY q1 (yMu0 31)
      obtain ⟨τ8, ht8⟩ : ∃ t, t = F_X11_must a 31 τ7 := ⟨_, rfl⟩
      rw [← ht8] at y1 y2 y3 u8 ⊢
      -- the value
      have pm5 := (u8.1.2.2.2.2 zi5).1
      obtain ⟨i1, i2, i3, i4, i5, i6⟩ := yTm hd hT hK hY u8 y1 (cl := cl) (by omega) (by omega) (by omega) zi5 (by rw [← hs6]; exact zi6)
      rw [← hs6] at i5
      have u9 := xTerm hd hT hK u8
      rw [← hs6] at u9
      obtain ⟨τ9, ht9⟩ : ∃ t, t = F_X11_term a τ8 := ⟨_, rfl⟩
      rw [← ht9] at i1 i2 i3 i4 i6 u9 ⊢
      have u10 := xMust hd hT hK u9 32 12 (by decide) (by decide)
      rw [← hs7] at u10
      obtain ⟨k1, k2, k3⟩ := ySt hY i1 (yMu0 32)
      obtain ⟨τ10, ht10⟩ : ∃ t, t = F_X11_must a 32 τ9 := ⟨_, rfl⟩
      rw [← ht10] at k1 k2 k3 u10 ⊢
      obtain ⟨τ', nc', j1, j2, j3, j4, j5, j6, j7⟩ := ih (x + (1 : Int32)) (j + 1) τ10 s7 _ _ (zp1 hx (by omega)) (by omega) (by omega) u10 k1 (by omega) (by omega) (by omega) l (by omega) (by rw [show ((j + 1 : Nat) : Int) = (j : Int) + 1 by omega]; exact hz)
      rw [show ((j + 1 : Nat) : Int) = (j : Int) + 1 by omega] at j2 j4 j5 j6
      have pre : zPx a Y nb nc τ τ10 := ((((((((v2.tr d2 (Nat.le_refl _) (Nat.le_refl _)).tr f2 (Nat.le_refl _) (Nat.le_refl _)).tr l3 (Nat.le_refl _) (Nat.le_refl _)).tr o2 (Nat.le_refl _) (by omega)).tr w2 (Nat.le_refl _) (by omega)).tr q3 (Nat.le_refl _) (by omega)).tr y2 (Nat.le_refl _) (by omega)).tr i4 (Nat.le_refl _) (by omega)).tr k2 (by omega) (by omega)
      have p2 := aSum_p (by rw [← hs2]; exact zi2 : (aSum T s1).1 = 0)
      have p4 := aSum_p (by rw [← hs4]; exact zi4 : (aSum T s3).1 = 0)
      have p6 := aSum_p (by rw [← hs6]; exact zi6 : (aSum T s5).1 = 0)
      rw [← hs2] at p2
      rw [← hs4] at p4
      rw [← hs6] at p6
      refine ⟨τ', nc', j1, ?_, pre.tr j3 (by omega) (by omega), ⟨?_, j4⟩, by omega, by rw [List.length_cons]; omega, by omega⟩
      · rw [List.length_cons, show nb + ((aLb T l ((j : Int) + 1) s7).length + 1) = nb + 1 + (aLb T l ((j : Int) + 1) s7).length by omega]
        exact j2
      · -- the branch in τ10, then in τ'
        have a33 : τ10.1 (Y 33) nb = vp_nar .boolean (1 : Int32) := by rw [k3 33 (yQ (by omega)), i6 33 (by omega), y3 33 (yQ (by omega)), q5 33 (by omega)]; exact p33
        have a34 : τ10.1 (Y 34) nb = τ2.1 a 38 := by rw [k3 34 (yQ (by omega)), i6 34 (by omega), y3 34 (yQ (by omega)), q5 34 (by omega)]; exact p34
        have a35 : τ10.1 (Y 35) nb = τ5.1 a 38 := by rw [k3 35 (yQ (by omega)), i6 35 (by omega), y3 35 (yQ (by omega)), q5 35 (by omega)]; exact p35
        have a36 : τ10.1 (Y 36) nb = τ9.1 (Y 36) nb := by rw [k3 36 (yQ (by omega))]
        have a37 : τ10.1 (Y 37) nb = τ9.1 (Y 37) nb := by rw [k3 37 (yQ (by omega))]
        have pl1 : zPx a Y nb (nc + (aCo T s1).length) τ4 τ10 := ((((o2.tr w2 (Nat.le_refl _) (Nat.le_refl _)).tr q3 (Nat.le_refl _) (Nat.le_refl _)).tr y2 (Nat.le_refl _) (by omega)).tr i4 (Nat.le_refl _) (by omega)).tr k2 (by omega) (by omega)
        have pl2 : zPx a Y nb (nc + (aCo T s1).length + (aCo T s3).length) τ7 τ10 := (y2.tr i4 (Nat.le_refl _) (Nat.le_refl _)).tr k2 (by omega) (by omega)
        have br : zB1 Y cl τ10 (nc + (aCo T s1).length + (aCo T s3).length + (aCo T s5).length) nb (some (aCo T s1, aCo T s3), aCo T s5) := by
          refine ⟨by rw [a33]; exact b1, ⟨nc, by rw [a34]; exact d1.2.2, by rw [a35, o1.2.2]; omega, zHo_cg _ _ (fun i _ i2 => pl1.1 i (by omega)) l2, by omega, hc0⟩, ⟨nc + (aCo T s1).length, by rw [a35]; exact o1.2.2, by rw [a36, i3]; omega, zHo_cg _ _ (fun i _ i2 => pl2.1 i (by omega)) q2, by omega, by omega⟩, ?_⟩
          rw [a36, a37]
          exact i2.cg (Nat.le_refl _) (fun i _ hi => k2.1 i hi)
        exact br.cg (by omega) (fun i _ hi => j3.1 i hi) (fun j' h1 h2 => j3.2.1 j' nb h1 h2 (by omega))
    · rw [if_pos (fun z => c1 z.2)]
      have nk : ¬ ((j : Int) ≤ 4 ∧ s.1 = 0 ∧ T.1 s.2.2.1 = 10) := fun z => c1 z.2.2
      have ek : aLw T (l + 1) j s = aSum T s := by rw [aLw, if_neg nk]
      rw [ek] at hz zw ⊢
      rw [aLb_f nk]
      obtain ⟨d1, d2, d3, d4⟩ := yRw hY hl (j := 33) (by omega) (vp_nar .boolean (0 : Int32))
      have u2 := xArr h 33 nb (vp_nar .boolean (0 : Int32)) (yQ (by omega))
      rw [w33] at u2
      obtain ⟨τ2, ht2⟩ : ∃ t : zS, t = (zu τ.1 (Y 33) nb (vp_nar .boolean (0 : Int32)), τ.2.1, τ.2.2) := ⟨_, rfl⟩
      rw [← ht2] at d1 d2 u2 ⊢
      have d3' : τ2.1 (Y 33) nb = vp_nar .boolean (0 : Int32) := by rw [ht2]; exact d3
      obtain ⟨i1, i2, i3, i4, i5, i6⟩ := yTm hd hT hK hY u2 d1 (cl := cl) (by omega) (by omega) (by omega) c zw
      have u3 := xTerm hd hT hK u2
      obtain ⟨τ3, ht3⟩ : ∃ t, t = F_X11_term a τ2 := ⟨_, rfl⟩
      rw [← ht3] at i1 i2 i3 i4 i6 u3 ⊢
      have u4 := xMust hd hT hK u3 4 24 (by decide) (by decide)
      obtain ⟨k1, k2, k3⟩ := ySt hY i1 (yMu0 4)
      obtain ⟨τ4, ht4⟩ : ∃ t, t = F_X11_must a 4 τ3 := ⟨_, rfl⟩
      rw [← ht4] at k1 k2 k3 u4 ⊢
      have z13 : ¬ 0 < (τ4.1 a 13).toInt := by
        have : (τ4.1 a 13).toInt = 0 := u4.1.2.1.trans hz
        omega
      have y30 : (τ4.2.2 a 30).getD 0 = Y 30 := by rw [k1.1]; exact g30
      have y31 : (τ4.2.2 a 31).getD 0 = Y 31 := by rw [k1.1]; exact g31
      rw [if_neg z13]
      simp only [y30, y31, zu_n _ _ _ (fun z : a = Y 30 => n30 z.symm)]
      refine ⟨τ4, _, rfl, k1, ((d2.tr i4 (Nat.le_refl _) (Nat.le_refl _)).tr k2 (by omega) (by omega)), ⟨⟨?_, ?_⟩, trivial⟩, by omega, by have := aSum_p zw; show 4 * 1 + s.2.2.1 ≤ _; omega, by omega⟩
      · rw [k3 33 (yQ (by omega)), i6 33 (by omega), d3']
        exact b0
      · rw [k3 36 (yQ (by omega)), k3 37 (yQ (by omega))]
        exact i2.cg (Nat.le_refl _) (fun i _ hi => k2.1 i hi)
end YL2
end
-- 35x83.lw16
section
/-! WHAT A TEXT TELLS OF LAWS: the class -/
abbrev zGl : Type := Nat → Option (List zBr)
def aGL (T : zTn) (s : zA) (g : zGl) : zGl := if (2 ≤ T.1 s.2.2.1 ∧ T.1 s.2.2.1 ≤ 6) ∧ (aTell T s).1 = 0 then (fun k => if (k : Int) = T.1 s.2.2.1 - 2 then some (aLb T 10 0 (aTake T 25 (aTake T (2 + (T.1 s.2.2.1 - 2)) s))) else g k) else g
/-- a law that begins at i among the codes C -/
def zSub (C : zCs) (i : Nat) (B : List zBr) : Prop := ∃ pre post, C = pre ++ (cBr i B ++ post) ∧ pre.length = i
theorem zSub_app {C D : zCs} {i : Nat} {B : List zBr} (h : zSub C i B) : zSub (C ++ D) i B := by
  obtain ⟨pre, post, h1, h2⟩ := h
  exact ⟨pre, post ++ D, by rw [h1]; simp only [List.append_assoc], h2⟩
/-- the codes of the told and where its laws begin -/
def zCg (tt A6 A7 A9 : Nat) (τ : zS) (s : zA) (g : zGl) : Prop := s.1 = 0 → ∃ C, zCd tt A6 A7 0 τ C ∧ C.length ≤ 10 + s.2.2.1 ∧ ∀ k, k < 5 → okB (lwB k (g k)) ∧ ∃ i : Nat, (τ.1 A9 k).toInt = i ∧ zSub C i (lwB k (g k))
section CGL
variable {P tk kA vA qA tt N m A6 A7 A9 : Nat} {T : zTn} {τ τ' : zS} {s s' : zA} {g : zGl}
theorem zCg.zL {K v : Nat} (h : zCg tt A6 A7 A9 τ s g) (hs : s.1 = 0) (hK : (τ.1 tt 8).toInt = K) (hv : v < 5) : zLc A6 A7 A9 τ K v (g v) := by
  obtain ⟨C, ⟨-, h8, hh⟩, -, h⟩ := h hs
  obtain ⟨ho, i, h1, pre, post, h2, h3⟩ := h v hv
  refine ⟨ho, i, h1, ?_, ?_⟩
  · rw [h2] at hh
    have q := ((zHo_app _ _ _).mp hh).2
    rw [Nat.zero_add, h3] at q
    exact ((zHo_app _ _ _).mp q).1
  · have l : C.length = i + ((cBr i (lwB v (g v))).length + post.length) := by rw [h2, List.length_append, List.length_append, h3]
    omega
/-- a telling that is no law -/
theorem zCg.st (h : zCg tt A6 A7 A9 τ s g) (hs : s'.1 = 0 → s.1 = 0 ∧ s.2.2.1 ≤ s'.2.2.1) (e0 : τ'.2.2 = τ.2.2) (e8 : τ'.1 tt 8 = τ.1 tt 8) (e6 : τ'.1 A6 = τ.1 A6) (e7 : τ'.1 A7 = τ.1 A7) (e9 : τ'.1 A9 = τ.1 A9) : zCg tt A6 A7 A9 τ' s' g := fun z => by
  obtain ⟨z1, z2⟩ := hs z
  obtain ⟨C, ⟨hD, h8, hh⟩, hl, h⟩ := h z1
  refine ⟨C, ⟨by rw [e0]; exact hD, by rw [e8]; exact h8, zHo_cg C 0 (fun i _ _ => ⟨by rw [e6], by rw [e7]⟩) hh⟩, by omega, fun k hk => ?_⟩
  obtain ⟨ho, i, h1, h2⟩ := h k hk
  exact ⟨ho, i, by rw [e9]; exact h1, h2⟩
/-- a law told -/
theorem zCg.law (hd : zVd P tk kA vA qA N) (hT : zTK T m) (hP : tt ≠ P ∧ A6 ≠ P ∧ A7 ≠ P) (hN : zNn T m) (h1 : (τ.2.2 P 1).getD 0 = tt) (h67 : (τ.2.2 tt 6).getD 0 = A6 ∧ (τ.2.2 tt 7).getD 0 = A7) (h9 : (τ.2.2 tt 9).getD 0 = A9) (n9 : A9 ≠ P ∧ A9 ≠ tt ∧ A9 ≠ A6 ∧ A9 ≠ A7) (h : zCg tt A6 A7 A9 τ s g) (hv : zV P tk kA vA qA tt N m T τ s) (hs : s.1 = 0) {p1 : Int32} {w : Nat} (hp : p1.toInt = w) (hw : w < 5) (hz : (aTake T 24 (aLaw T w s)).1 = 0) : zCg tt A6 A7 A9 (F_X3_take P 24 (F_X3_law P p1 τ)) (aTake T 24 (aLaw T w s)) (fun k => if k = w then some (aLb T 10 0 (aTake T 25 (aTake T (2 + (w : Int)) s))) else g k) := fun _ => by
  obtain ⟨C, hC, hl, hk⟩ := h hs
  have e2 : (2 : Int32).toInt = 2 := by decide
  have np : p1.toNatClampNeg = w := by rw [ztn, hp]; rfl
  have zl := aTake_z hz
  have tz := aTake_i hz
  unfold aLaw at zl tz ⊢
  obtain ⟨s1, hs1⟩ : ∃ s1, s1 = aTake T (2 + (w : Int)) s := ⟨_, rfl⟩
  obtain ⟨s2, hs2⟩ : ∃ s2, s2 = aTake T 25 s1 := ⟨_, rfl⟩
  rw [← hs1, ← hs2] at zl tz ⊢
  have z2 : s2.1 = 0 := aLw_z zl
  have z1 : s1.1 = 0 := by rw [hs2] at z2; exact aTake_z z2
  have t1 := aTake_i (by rw [← hs1]; exact z1 : (aTake T (2 + (w : Int)) s).1 = 0)
  have t2 := aTake_i (by rw [← hs2]; exact z2 : (aTake T 25 s1).1 = 0)
  rw [← hs1] at t1
  rw [← hs2] at t2
  have a1 := vTake' hd hT hv (2 + p1) (2 + (w : Int)) (by rw [zb_add (by rw [e2]; omega) (by rw [e2]; omega), e2, hp]) (by omega)
  rw [← hs1] at a1
  have a2 := vTake' hd hT a1 25 25 (by decide) (by decide)
  rw [← hs2] at a2
  have c2 := cTake (cTake hC hP (2 + p1)) hP 25
  obtain ⟨τ2, ht2⟩ : ∃ t, t = F_X3_take P 25 (F_X3_take P (2 + p1) τ) := ⟨_, rfl⟩
  have g2 : zFi (zAl P tt A6 A7) τ τ2 := by rw [ht2]; exact fi_X3_take (fi_X3_take zFi.id (Or.inl rfl) (Or.inl rfl) (Or.inl rfl) (Or.inl rfl) (Or.inl rfl)) (Or.inl rfl) (Or.inl rfl) (Or.inl rfl) (Or.inl rfl) (Or.inl rfl)
  rw [← ht2] at a2 c2
  have i8 : (τ2.1 tt 8).toInt = (C.length : Int) := by have := c2.2.1; omega
  obtain ⟨τ', u1, u2, u3, u4, u5⟩ := cLaw_loop (p1 := p1) (v7 := τ2.1 tt 8) hd hT hP hN h1 h67 h9 10000 0 0 τ2 s2 C (by decide) (by omega) (by omega) a2 g2 c2 (by omega) 10 (by omega) zl
  have e00 : ((0 : Nat) : Int) = 0 := rfl
  rw [e00] at u3 u4 u5
  have E : F_X3_law P p1 τ = (zu τ'.1 A9 w (τ2.1 tt 8), τ'.2.1, τ'.2.2) := by
    unfold F_X3_law
    simp only [zlt]
    rw [← ht2, show (τ2.2.2 P 1).getD 0 = tt by rw [g2.1]; exact h1, u1, np]
  rw [E]
  obtain ⟨hD, h8, hh⟩ := u3
  have k3 : zCd tt A6 A7 0 (zu τ'.1 A9 w (τ2.1 tt 8), τ'.2.1, τ'.2.2) (C ++ cBr C.length (aLb T 10 0 s2)) := ⟨hD, by show (zu τ'.1 A9 w (τ2.1 tt 8) tt 8).toInt = _; rw [zu_n _ _ _ (fun z => n9.2.1 z.symm)]; exact h8, zHo_cg _ 0 (fun i _ _ => ⟨by show zu τ'.1 A9 w (τ2.1 tt 8) A6 i = _; rw [zu_n _ _ _ (fun z => n9.2.2.1 z.symm)], by show zu τ'.1 A9 w (τ2.1 tt 8) A7 i = _; rw [zu_n _ _ _ (fun z => n9.2.2.2 z.symm)]⟩) hh⟩
  have ft : zFi (fun b _ => b = P) (zu τ'.1 A9 w (τ2.1 tt 8), τ'.2.1, τ'.2.2) (F_X3_take P 24 (zu τ'.1 A9 w (τ2.1 tt 8), τ'.2.1, τ'.2.2)) := fi_X3_take zFi.id rfl rfl rfl rfl rfl
  refine ⟨_, cTake k3 hP 24, by rw [tz.2.2.1]; omega, fun k hk5 => ?_⟩
  have c9 : (F_X3_take P 24 (zu τ'.1 A9 w (τ2.1 tt 8), τ'.2.1, τ'.2.2)).1 A9 k = zu τ'.1 A9 w (τ2.1 tt 8) A9 k := ft.2 A9 k n9.1
  show okB (lwB k (if k = w then some (aLb T 10 0 s2) else g k)) ∧ ∃ i : Nat, ((F_X3_take P 24 (zu τ'.1 A9 w (τ2.1 tt 8), τ'.2.1, τ'.2.2)).1 A9 k).toInt = i ∧ zSub (C ++ cBr C.length (aLb T 10 0 s2)) i (lwB k (if k = w then some (aLb T 10 0 s2) else g k))
  by_cases e : k = w
  · rw [if_pos e]
    refine ⟨u5, C.length, ?_, C, [], ?_, rfl⟩
    · rw [c9, e, zu_s]
      exact i8
    · show _ = C ++ (cBr C.length (aLb T 10 0 s2) ++ [])
      rw [List.append_nil]
  · rw [if_neg e]
    obtain ⟨ho, i, q1, q2⟩ := hk k hk5
    refine ⟨ho, i, ?_, zSub_app q2⟩
    rw [c9, zu_j _ _ _ _ _ (fun z => e z.symm), u2.2 A9 k (by
      rintro (z | z | z | z)
      · exact n9.1 z
      · exact n9.2.1 z.1
      · exact n9.2.2.1 z
      · exact n9.2.2.2 z)]
    exact q1
end CGL
end
-- 35x84.lw17
section
/-! ONE TELLING OF THE CLASS: laws -/
section CGT
variable {P tk kA vA qA tt N m A6 A7 A9 : Nat} {T : zTn} {σ : zS} {s : zA} {g : zGl}
theorem cTellL (hd : zVd P tk kA vA qA N) (hT : zTK T m) (hP : tt ≠ P ∧ A6 ≠ P ∧ A7 ≠ P) (hN : zNn T m) (h67 : (σ.2.2 tt 6).getD 0 = A6 ∧ (σ.2.2 tt 7).getD 0 = A7) (h9 : (σ.2.2 tt 9).getD 0 = A9) (n9 : A9 ≠ P ∧ A9 ≠ tt ∧ A9 ≠ A6 ∧ A9 ≠ A7) (nA : A6 ≠ tt ∧ A7 ≠ tt) (nr : ∀ j, 2 ≤ j → j ≤ 5 → (σ.2.2 tt j).getD 0 ≠ tt ∧ (σ.2.2 tt j).getD 0 ≠ A6 ∧ (σ.2.2 tt j).getD 0 ≠ A7 ∧ (σ.2.2 tt j).getD 0 ≠ A9) (h : zV P tk kA vA qA tt N m T σ s) (hs : s.1 = 0) (hg : zCg tt A6 A7 A9 σ s g) : zCg tt A6 A7 A9 (F_X3_telling P σ) (aTell T s) (aGL T s g) := by
  obtain ⟨D0, D1, D2, D7, D8, D9, Dx⟩ := vDisp h hs
  have tP : (σ.2.2 P 1).getD 0 = tt := vtt h
  have rg : (F_X3_telling P σ).2.2 = σ.2.2 := rf_X3_telling (R := σ.2.2) rfl
  by_cases c2 : 2 ≤ T.1 s.2.2.1 ∧ T.1 s.2.2.1 ≤ 6
  · by_cases hz : (aTell T s).1 = 0
    · obtain ⟨p, hp, E⟩ := D2 c2.1 c2.2
      obtain ⟨w, hw⟩ : ∃ w : Nat, T.1 s.2.2.1 - 2 = w := ⟨(T.1 s.2.2.1 - 2).toNat, by omega⟩
      have Ea : aTell T s = aTake T 24 (aLaw T w s) := by
        unfold aTell
        rw [if_neg (by omega), if_neg (by omega), if_pos c2, hw]
      have eg : aGL T s g = fun k => if k = w then some (aLb T 10 0 (aTake T 25 (aTake T (2 + (w : Int)) s))) else g k := by
        unfold aGL
        rw [if_pos ⟨c2, hz⟩, hw]
        funext k
        by_cases e : k = w
        · rw [if_pos (by omega), if_pos e]
        · rw [if_neg (by omega), if_neg e]
      rw [eg, E, Ea]
      rw [Ea] at hz
      exact hg.law hd hT hP hN tP h67 h9 n9 h hs (by rw [hp, hw]) (by omega) hz
    · exact fun z => absurd z hz
  · have eg : aGL T s g = g := by
      unfold aGL
      rw [if_neg (fun z => c2 z.1)]
    rw [eg]
    obtain ⟨A, hA⟩ : ∃ A : Nat → Nat → Prop, A = fun c i => c = P ∨ (c = tt ∧ i ≠ 8) ∨ ∃ j, 2 ≤ j ∧ j ≤ 5 ∧ c = (σ.2.2 tt j).getD 0 := ⟨_, rfl⟩
    have aP : ∀ i, A P i := fun i => by rw [hA]; exact Or.inl rfl
    have aT : ∀ i, i ≠ 8 → A tt i := fun i hi => by rw [hA]; exact Or.inr (Or.inl ⟨rfl, hi⟩)
    have aR : ∀ j, 2 ≤ j → j ≤ 5 → ∀ i, A ((σ.2.2 tt j).getD 0) i := fun j j1 j2 i => by rw [hA]; exact Or.inr (Or.inr ⟨j, j1, j2, rfl⟩)
    have fin : zFi A σ (F_X3_telling P σ) → zCg tt A6 A7 A9 (F_X3_telling P σ) (aTell T s) g := fun f => by
      have row : ∀ c, c ≠ P → c ≠ tt → (∀ j, 2 ≤ j → j ≤ 5 → (σ.2.2 tt j).getD 0 ≠ c) → (F_X3_telling P σ).1 c = σ.1 c := fun c n1 n2 n3 => funext (fun i => f.2 c i (by
        rw [hA]
        rintro (z | z | ⟨j, j1, j2, z⟩)
        · exact n1 z
        · exact n2 z.1
        · exact n3 j j1 j2 z.symm))
      refine hg.st (fun z => ⟨hs, by have := aTell_i z; omega⟩) rg (f.2 tt 8 (by
        rw [hA]
        rintro (z | z | ⟨j, j1, j2, z⟩)
        · exact hP.1 z
        · exact z.2 rfl
        · exact (nr j j1 j2).1 z.symm)) (row A6 hP.2.1 nA.1 (fun j j1 j2 => (nr j j1 j2).2.1)) (row A7 hP.2.2 nA.2 (fun j j1 j2 => (nr j j1 j2).2.2.1)) (row A9 n9.1 n9.2.1 (fun j j1 j2 => (nr j j1 j2).2.2.2))
    have tk : ∀ w s0, zFi A σ s0 → zFi A σ (F_X3_take P w s0) := fun w s0 q => fi_X3_take q (aP _) (aP _) (aP _) (aP _) (aP _)
    have nu : ∀ lo hi s0, zFi A σ s0 → zFi A σ (F_X3_number P lo hi s0).2 := fun lo hi s0 q => fi_X3_number q (aP _) (aP _) (aP _) (aP _) (aP _) (aP _) (aP _)
    have fa : ∀ w s0, zFi A σ s0 → zFi A σ (F_X3_fail P w s0) := fun w s0 q => fi_X3_fail q (aP _) (aP _) (aP _)
    have b1 : ∀ j lo hi s0, j ≠ 8 → zFi A σ s0 → zFi A σ (cB1 P j lo hi s0) := fun j lo hi s0 hj q => by
      unfold cB1
      exact (nu lo hi s0 q).w (by rw [q.1, tP]; exact aT _ hj)
    have w : ∀ j, 2 ≤ j → j ≤ 5 → ∀ i, A ((σ.2.2 ((σ.2.2 P 1).getD 0) j).getD 0) i := fun j j1 j2 i => by rw [tP]; exact aR j j1 j2 i
    by_cases c0 : T.1 s.2.2.1 = 0
    · refine fin ?_
      rw [D0 c0]
      exact tk _ _ (fi_X3_mouth zFi.id (aP _) (aP _) (aP _) (aP _) (aP _) (aP _) (aP _) (aP _) (w 2 (by decide) (by decide)) (w 3 (by decide) (by decide)) (w 4 (by decide) (by decide)) (w 5 (by decide) (by decide)))
    · by_cases c1 : T.1 s.2.2.1 = 1
      · refine fin ?_
        rw [D1 c1]
        exact tk _ _ (fi_X3_newPlace zFi.id (aP _) (aP _) (aP _) (aP _) (aP _) (aP _) (aP _) (aP _) (w 2 (by decide) (by decide)) (w 3 (by decide) (by decide)) (w 4 (by decide) (by decide)) (w 5 (by decide) (by decide)))
      · by_cases c7 : T.1 s.2.2.1 = 7
        · refine fin ?_
          rw [D7 c7]
          exact tk _ _ (b1 _ _ _ _ (by decide) (b1 _ _ _ _ (by decide) (tk _ _ zFi.id)))
        · by_cases c8 : T.1 s.2.2.1 = 8
          · refine fin ?_
            rw [D8 c8]
            exact tk _ _ (b1 _ _ _ _ (by decide) (tk _ _ zFi.id))
          · by_cases c9 : T.1 s.2.2.1 = 9
            · refine fin ?_
              rw [D9 c9]
              exact tk _ _ (b1 _ _ _ _ (by decide) (tk _ _ zFi.id))
            · intro z
              unfold aTell at z
              rw [if_neg c0, if_neg c1, if_neg c2, if_neg c7, if_neg c8, if_neg c9] at z
              exact absurd (aTake_z z) (aFail_1 (by decide))
end CGT
end
-- 35x85.lw18
section
/-! ONE TELLING OF THE REFERENCE: laws -/
/-- what the side b being told holds of laws -/
def zXl (a : Nat) (Y : Nat → Nat) (R : Nat → Nat → Option Nat) (b : Nat) (τ : zS) (s : zA) (g : zGl) : Prop := s.1 = 0 → (τ.1 a 19).toInt = b ∧ ∃ nb nc : Nat, zLs a R nb nc τ ∧ (420 * b ≤ nc ∧ 130 * b ≤ nb) ∧ nc ≤ 420 * b + s.2.2.1 ∧ 4 * nb ≤ 520 * b + s.2.2.1 ∧ ∀ k, k < 5 → zLm Y (420 * b) (130 * b) τ nc nb (5 * b + k) (g k)
section YT
variable {a k q v nm nO m nb nc b : Nat} {Y : Nat → Nat} {T : zTn} {R : Nat → Nat → Option Nat} {τ τ' : zS} {s s' : zA} {g : zGl}
theorem zLm.cg {N N' M M' w cl bl : Nat} {x : Option (List zBr)} (h : zLm Y cl bl τ N M w x) (hN : N ≤ N') (hM : M ≤ M') (e : ∀ i, cl ≤ i → i < N → τ'.1 (Y 39) i = τ.1 (Y 39) i ∧ τ'.1 (Y 40) i = τ.1 (Y 40) i) (r : ∀ j i, 33 ≤ j → j ≤ 37 → bl ≤ i → i < M → τ'.1 (Y j) i = τ.1 (Y j) i) (r30 : τ'.1 (Y 30) w = τ.1 (Y 30) w) (r31 : τ'.1 (Y 31) w = τ.1 (Y 31) w) : zLm Y cl bl τ' N' M' w x := by
  cases x with
  | none =>
    show (τ'.1 (Y 30) w).toInt = (τ'.1 (Y 31) w).toInt
    rw [r30, r31]
    exact h
  | some B =>
    obtain ⟨b, h1, h2, h3, h4, h5⟩ := h
    exact ⟨b, by rw [r30]; exact h1, by rw [r31]; exact h2, by omega, h4, zBz_cg hN e B b (fun j i j1 j2 i1 i2 => r j i j1 j2 (by omega) (by omega)) h5⟩
/-- a telling that is no law -/
theorem zXl.st (h : zXl a Y R b τ s g) (hs : s'.1 = 0 → s.1 = 0 ∧ s.2.2.1 ≤ s'.2.2.1) (f : s'.1 = 0 → τ'.2.2 = τ.2.2 ∧ (∀ i, (i = 19 ∨ i = 32 ∨ i = 38) → τ'.1 a i = τ.1 a i) ∧ ∀ j, (j = 30 ∨ j = 31 ∨ (33 ≤ j ∧ j ≤ 37) ∨ j = 39 ∨ j = 40) → τ'.1 (Y j) = τ.1 (Y j)) : zXl a Y R b τ' s' g := fun z => by
  obtain ⟨z1, z2⟩ := hs z
  obtain ⟨f1, f2, f3⟩ := f z
  obtain ⟨h19, nb, nc, ⟨l1, l2, l3⟩, h0, h1, h2, h3⟩ := h z1
  exact ⟨by rw [f2 19 (by omega)]; exact h19, nb, nc, ⟨f1.trans l1, by rw [f2 32 (by omega)]; exact l2, by rw [f2 38 (by omega)]; exact l3⟩, h0, by omega, by omega, fun k hk => (h3 k hk).cg (Nat.le_refl _) (Nat.le_refl _) (fun i _ _ => ⟨by rw [f3 39 (by omega)], by rw [f3 40 (by omega)]⟩) (fun j i j1 j2 _ _ => by rw [f3 j (by omega)]) (by rw [f3 30 (by omega)]) (by rw [f3 31 (by omega)])⟩
/-- a law told -/
theorem zXl.law (hd : zWd a k q v nm nO) (hT : zTm T m) (hK : zTK T m) (hY : zYz Y a R) (hb : b ≤ 1) (h : zXl a Y R b τ s g) (hx : zXo a k q v nm nO m T τ s) (hs : s.1 = 0) {p : Int32} {w : Nat} (hp : p.toInt = w) (hw : w < 5) (ht : T.1 s.2.2.1 = 2 + (w : Int)) (hz : (aTake T 24 (aLaw T w s)).1 = 0) : zXl a Y R b (F_X11_tellLaw a p (F_X11_goesOn a τ)) (aTake T 24 (aLaw T w s)) (fun k => if k = w then some (aLb T 10 0 (aTake T 25 (aTake T (2 + (w : Int)) s))) else g k) := fun _ => by
  obtain ⟨h19, nb, nc, hl, h0, h1, h2, h3⟩ := h hs
  have rk := hK.2.1
  have pm := (hx.1.2.2.2.2 hs).1
  have e5 : (5 : Int32).toInt = 5 := by decide
  have zl := aTake_z hz
  have tz := aTake_i hz
  unfold aLaw at zl tz hz ⊢
  obtain ⟨s1, hs1⟩ : ∃ s1, s1 = aTake T (2 + (w : Int)) s := ⟨_, rfl⟩
  obtain ⟨s2, hs2⟩ : ∃ s2, s2 = aTake T 25 s1 := ⟨_, rfl⟩
  rw [← hs1, ← hs2] at zl tz hz ⊢
  have z2 : s2.1 = 0 := aLw_z zl
  have z1 : s1.1 = 0 := by rw [hs2] at z2; exact aTake_z z2
  have t1 := aTake_i (by rw [← hs1]; exact z1 : (aTake T (2 + (w : Int)) s).1 = 0)
  have t2 := aTake_i (by rw [← hs2]; exact z2 : (aTake T 25 s1).1 = 0)
  rw [← hs1] at t1
  rw [← hs2] at t2
  have u1 := xOn hd hT hK hx (2 + (w : Int)) (fun _ => ht) (by omega)
  rw [← hs1] at u1
  obtain ⟨v1, v2, v3⟩ := ySt hY hl yGo0
  obtain ⟨τ1, ht1⟩ : ∃ t, t = F_X11_goesOn a τ := ⟨_, rfl⟩
  rw [← ht1] at u1 v1 v2 v3 ⊢
  have u2 := xMust hd hT hK u1 5 25 (by decide) (by decide)
  rw [← hs2] at u2
  obtain ⟨w1, w2, w3⟩ := ySt hY v1 (yMu0 5)
  obtain ⟨τ2, ht2⟩ : ∃ t, t = F_X11_must a 5 τ1 := ⟨_, rfl⟩
  rw [← ht2] at u2 w1 w2 w3
  obtain ⟨τ', nc', j1, j2, j3, j4, j5, j6, hnc⟩ := yLaw_l (cl := 420 * b) (v4 := τ2.1 a 32) (p1 := p) hd hT hK hY 10000 0 0 τ2 s2 nb nc (by decide) (by omega) (by omega) u2 w1 h0.1 (by omega) (by omega) 10 (by omega) hz
  have e0 : ((0 : Nat) : Int) = 0 := rfl
  rw [e0] at j2 j4 j5 j6
  have E : F_X11_tellLaw a p τ1 = (zu (zu τ'.1 (Y 30) ((5 : Int32) * τ'.1 a 19 + p).toNatClampNeg (τ2.1 a 32)) (Y 31) ((5 : Int32) * τ'.1 a 19 + p).toNatClampNeg (τ'.1 a 32), τ'.2.1, τ'.2.2) := by
    unfold F_X11_tellLaw
    simp only [zlt]
    rw [← ht2]
    exact j1
  have pre : zPx a Y nb nc τ τ' := (v2.tr w2 (Nat.le_refl _) (Nat.le_refl _)).tr j3 (Nat.le_refl _) (Nat.le_refl _)
  have n19 : (τ'.1 a 19).toInt = b := by rw [pre.2.2.2]; exact h19
  have x1 : ((5 : Int32) * τ'.1 a 19).toInt = 5 * (b : Int) := by rw [zb_mul (by rw [e5, n19]; omega) (by rw [e5, n19]; omega), e5, n19]
  have x2 : ((5 : Int32) * τ'.1 a 19 + p).toInt = ((5 * b + w : Nat) : Int) := by rw [zb_add (by rw [x1]; omega) (by rw [x1]; omega), x1, hp]; omega
  have x3 : ((5 : Int32) * τ'.1 a 19 + p).toNatClampNeg = 5 * b + w := by rw [ztn, x2]; rfl
  rw [E, x3]
  have q30 : zQs 30 := yQ (by omega)
  have q31 : zQs 31 := yQ (by omega)
  have na30 := (hY.1 30 q30).2
  have na31 := (hY.1 31 q31).2
  have fa : ∀ i, zu (zu τ'.1 (Y 30) (5 * b + w) (τ2.1 a 32)) (Y 31) (5 * b + w) (τ'.1 a 32) a i = τ'.1 a i := fun i => by rw [zu_n _ _ _ (fun z => na31 z.symm), zu_n _ _ _ (fun z => na30 z.symm)]
  have fr : ∀ j, zQs j → j ≠ 30 → j ≠ 31 → zu (zu τ'.1 (Y 30) (5 * b + w) (τ2.1 a 32)) (Y 31) (5 * b + w) (τ'.1 a 32) (Y j) = τ'.1 (Y j) := fun j hj n0 n1 => by rw [zu_n _ _ _ (hY.2 j 31 hj q31 n1), zu_n _ _ _ (hY.2 j 30 hj q30 n0)]
  have f30 : ∀ i, zu (zu τ'.1 (Y 30) (5 * b + w) (τ2.1 a 32)) (Y 31) (5 * b + w) (τ'.1 a 32) (Y 30) i = if i = 5 * b + w then τ2.1 a 32 else τ'.1 (Y 30) i := fun i => by rw [zu_n _ _ _ (hY.2 30 31 q30 q31 (by decide)), zu_if]
  have f31 : ∀ i, zu (zu τ'.1 (Y 30) (5 * b + w) (τ2.1 a 32)) (Y 31) (5 * b + w) (τ'.1 a 32) (Y 31) i = if i = 5 * b + w then τ'.1 a 32 else τ'.1 (Y 31) i := fun i => by rw [zu_if, zu_n _ _ _ (fun z => hY.2 30 31 q30 q31 (by decide) z.symm)]
  refine ⟨by show (zu (zu τ'.1 (Y 30) _ _) (Y 31) _ _ a 19).toInt = _; rw [fa]; exact n19, nb + (aLb T 10 0 s2).length, nc', ⟨j2.1, by show (zu (zu τ'.1 (Y 30) _ _) (Y 31) _ _ a 32).toInt = _; rw [fa]; exact j2.2.1, by show (zu (zu τ'.1 (Y 30) _ _) (Y 31) _ _ a 38).toInt = _; rw [fa]; exact j2.2.2⟩, by omega, by rw [tz.2.2.1]; omega, by rw [tz.2.2.1]; omega, fun k hk => ?_⟩
  have gc : ∀ i, 420 * b ≤ i → i < nc' → zu (zu τ'.1 (Y 30) (5 * b + w) (τ2.1 a 32)) (Y 31) (5 * b + w) (τ'.1 a 32) (Y 39) i = τ'.1 (Y 39) i ∧ zu (zu τ'.1 (Y 30) (5 * b + w) (τ2.1 a 32)) (Y 31) (5 * b + w) (τ'.1 a 32) (Y 40) i = τ'.1 (Y 40) i := fun i _ _ => ⟨by rw [fr 39 (yQ (by omega)) (by decide) (by decide)], by rw [fr 40 (yQ (by omega)) (by decide) (by decide)]⟩
  have gr : ∀ j i, 33 ≤ j → j ≤ 37 → zu (zu τ'.1 (Y 30) (5 * b + w) (τ2.1 a 32)) (Y 31) (5 * b + w) (τ'.1 a 32) (Y j) i = τ'.1 (Y j) i := fun j i j1 j2 => by rw [fr j (yQ (by omega)) (by omega) (by omega)]
  show zLm Y (420 * b) (130 * b) (zu (zu τ'.1 (Y 30) (5 * b + w) (τ2.1 a 32)) (Y 31) (5 * b + w) (τ'.1 a 32), τ'.2.1, τ'.2.2) nc' (nb + (aLb T 10 0 s2).length) (5 * b + k) (if k = w then some (aLb T 10 0 s2) else g k)
  by_cases e : k = w
  · rw [if_pos e]
    refine ⟨nb, ?_, ?_, Nat.le_refl _, h0.2, zBz_cg (Nat.le_refl _) gc _ nb (fun j i j1 j2 _ _ => gr j i j1 j2) j4⟩
    · show (zu (zu τ'.1 (Y 30) _ _) (Y 31) _ _ (Y 30) (5 * b + k)).toInt = _
      rw [f30, if_pos (by omega)]
      exact w1.2.1
    · show (zu (zu τ'.1 (Y 30) _ _) (Y 31) _ _ (Y 31) (5 * b + k)).toInt = _
      rw [f31, if_pos (by omega), j2.2.1]
      omega
  · rw [if_neg e]
    refine (h3 k hk).cg hnc (by omega) (fun i i0 hi => ⟨(gc i i0 (by omega)).1.trans (pre.1 i hi).1, (gc i i0 (by omega)).2.trans (pre.1 i hi).2⟩) (fun j i j1 j2 _ hi => (gr j i j1 j2).trans (pre.2.1 j i j1 j2 hi)) ?_ ?_
    · show zu (zu τ'.1 (Y 30) _ _) (Y 31) _ _ (Y 30) (5 * b + k) = _
      rw [f30, if_neg (by omega), pre.2.2.1 30 (by omega)]
    · show zu (zu τ'.1 (Y 30) _ _) (Y 31) _ _ (Y 31) (5 * b + k) = _
      rw [f31, if_neg (by omega), pre.2.2.1 31 (by omega)]
end YT
end
-- 35x86.lw19
section
/-! WHERE A READING BEGINS: laws -/
/-- the codes of the first v laws that no text tells -/
def dC : Nat → zCs
  | 0 => []
  | v + 1 => dC v ++ [dfl v, (7, 0)]
theorem dC_l : ∀ v, (dC v).length = 2 * v := by
  intro v
  induction v with
  | zero => rfl
  | succ v ih =>
    rw [dC, List.length_append, ih]
    show 2 * v + 2 = _
    omega
section CLR
variable {P tt A6 A7 A9 : Nat} {σ τ τ' : zS}
theorem cClr1 {n : Nat} {x : Int32} {v : Nat} (hx : x.toInt = v) (hv : v < 5) (h9 : (τ.2.2 tt 9).getD 0 = A9) : ∃ k y : Int32, k.toInt = (dfl v).1 ∧ y.toInt = (dfl v).2 ∧ F_X9_clear_12 tt (n + 1) x τ = F_X9_clear_12 tt n (x + (1 : Int32)) (F_X9_addStep tt 7 0 (F_X9_addStep tt k y (zu τ.1 A9 v (τ.1 tt 8), τ.2.1, τ.2.2))) := by
  have e5 : (5 : Int32).toInt = 5 := by decide
  have w : x.toNatClampNeg = v := by rw [ztn, hx]; rfl
  have c : x.toInt < 5 := by omega
  rw [F_X9_clear_12]
  simp only [zlt, e5, h9, w]
  rw [if_pos c]
  have d0 : ¬ (0 : Int32).toInt = (-1 : Int32).toInt := by decide
  have d1 : ¬ (1 : Int32).toInt = (-1 : Int32).toInt := by decide
  have d2 : ¬ (2 : Int32).toInt = (-1 : Int32).toInt := by decide
  have d4 : ¬ (4 : Int32).toInt = (-1 : Int32).toInt := by decide
  rcases (show v = 0 ∨ v = 1 ∨ v = 2 ∨ v = 3 ∨ v = 4 by omega) with rfl | rfl | rfl | rfl | rfl
  · refine ⟨1, 0, by decide, by decide, ?_⟩
    have g : ([0, -1, 1, 4, 2] : List Int32).getD 0 0 = 0 := rfl
    rw [g, if_neg d0, if_neg d0]
  · refine ⟨0, 0, by decide, by decide, ?_⟩
    have g : ([0, -1, 1, 4, 2] : List Int32).getD 1 0 = -1 := rfl
    rw [g, if_pos rfl, if_pos rfl]
  · refine ⟨1, 1, by decide, by decide, ?_⟩
    have g : ([0, -1, 1, 4, 2] : List Int32).getD 2 0 = 1 := rfl
    rw [g, if_neg d1, if_neg d1]
  · refine ⟨1, 4, by decide, by decide, ?_⟩
    have g : ([0, -1, 1, 4, 2] : List Int32).getD 3 0 = 4 := rfl
    rw [g, if_neg d4, if_neg d4]
  · refine ⟨1, 2, by decide, by decide, ?_⟩
    have g : ([0, -1, 1, 4, 2] : List Int32).getD 4 0 = 2 := rfl
    rw [g, if_neg d2, if_neg d2]
/-- v laws put down -/
def zDc (tt A6 A7 A9 v : Nat) (τ : zS) : Prop := zCd tt A6 A7 0 τ (dC v) ∧ (τ.2.2 tt 9).getD 0 = A9 ∧ ∀ k, k < v → (τ.1 A9 k).toInt = (2 * k : Nat)
theorem zDc.st {v : Nat} {x y : Int32} (n9 : A9 ≠ tt ∧ A9 ≠ A6 ∧ A9 ≠ A7) (h : zDc tt A6 A7 A9 v τ) (hv : v < 5) (hx : x.toInt = (dfl v).1) (hy : y.toInt = (dfl v).2) : zDc tt A6 A7 A9 (v + 1) (F_X9_addStep tt 7 0 (F_X9_addStep tt x y (zu τ.1 A9 v (τ.1 tt 8), τ.2.1, τ.2.2))) := by
  obtain ⟨⟨hD, h8, hh⟩, h9, hk⟩ := h
  have l := dC_l v
  have c0 : zCd tt A6 A7 0 (zu τ.1 A9 v (τ.1 tt 8), τ.2.1, τ.2.2) (dC v) := ⟨hD, by show (zu τ.1 A9 v (τ.1 tt 8) tt 8).toInt = _; rw [zu_n _ _ _ (fun z => n9.1 z.symm)]; exact h8, zHo_cg _ 0 (fun i _ _ => ⟨by show zu τ.1 A9 v (τ.1 tt 8) A6 i = _; rw [zu_n _ _ _ (fun z => n9.2.1 z.symm)], by show zu τ.1 A9 v (τ.1 tt 8) A7 i = _; rw [zu_n _ _ _ (fun z => n9.2.2 z.symm)]⟩) hh⟩
  have c1 := cStep c0 (by omega) x y hx hy
  have l1 : (dC v ++ [((dfl v).1, (dfl v).2)]).length = (dC v).length + 1 := by rw [List.length_append]; rfl
  have c2 := cStep c1 (by omega) 7 0 (x' := 7) (y' := 0) (by decide) (by decide)
  have e : dC v ++ [((dfl v).1, (dfl v).2)] ++ [((7 : Int), (0 : Int))] = dC (v + 1) := by
    rw [List.append_assoc]
    rfl
  rw [e] at c2
  have q6 : (τ.2.2 tt 6).getD 0 = A6 := hD.1.1
  have q7 : (τ.2.2 tt 7).getD 0 = A7 := hD.1.2
  have f : zFi (fun c _ => c = A6 ∨ c = A7 ∨ c = tt) (zu τ.1 A9 v (τ.1 tt 8), τ.2.1, τ.2.2) (F_X9_addStep tt 7 0 (F_X9_addStep tt x y (zu τ.1 A9 v (τ.1 tt 8), τ.2.1, τ.2.2))) := fi_X9_addStep (fi_X9_addStep zFi.id (fun _ => Or.inl q6) (fun _ => Or.inr (Or.inl q7)) (Or.inr (Or.inr rfl))) (fun _ => Or.inl q6) (fun _ => Or.inr (Or.inl q7)) (Or.inr (Or.inr rfl))
  refine ⟨c2, by rw [f.1]; exact h9, fun k hk' => ?_⟩
  rw [f.2 A9 k (by
    rintro (z | z | z)
    · exact n9.2.1 z
    · exact n9.2.2 z
    · exact n9.1 z)]
  show (zu τ.1 A9 v (τ.1 tt 8) A9 k).toInt = _
  by_cases e2 : k = v
  · rw [e2, zu_s, h8, l]
    omega
  · rw [zu_j _ _ _ _ _ (fun z => e2 z.symm)]
    exact hk k (by omega)
theorem cClr (n9 : A9 ≠ tt ∧ A9 ≠ A6 ∧ A9 ≠ A7) : ∀ (n : Nat) (x : Int32) (v : Nat) (τ : zS), x.toInt = v → v ≤ 5 → 5 - v < n → zDc tt A6 A7 A9 v τ → zDc tt A6 A7 A9 5 (F_X9_clear_12 tt n x τ) := by
  intro n
  induction n with
  | zero => intro x v τ _ _ h; exact absurd h (by omega)
  | succ n ih =>
    intro x v τ hx hv hn h
    by_cases c : v < 5
    · obtain ⟨k, y, q1, q2, q3⟩ := cClr1 (n := n) hx c h.2.1
      rw [q3]
      exact ih _ (v + 1) _ (zp1 hx (by omega)) (by omega) (by omega) (h.st n9 c q1 q2)
    · have ev : v = 5 := by omega
      subst ev
      have e5 : (5 : Int32).toInt = 5 := by decide
      have nx : ¬ x.toInt < 5 := by omega
      rw [F_X9_clear_12]
      simp only [zlt, e5]
      rw [if_neg nx]
      obtain ⟨⟨hD, h8, hh⟩, h9, hk⟩ := h
      have r : ∀ c i (a b d e : Int32), (c ≠ tt ∨ i = 8) → zu (zu (zu (zu τ.1 tt 10 a) tt 11 b) tt 12 d) tt 13 e c i = τ.1 c i := fun c i a b d e hc => by
        rcases hc with hc | hc
        · rw [zu_n _ _ _ hc, zu_n _ _ _ hc, zu_n _ _ _ hc, zu_n _ _ _ hc]
        · subst hc
          by_cases ec : c = tt
          · rw [ec, zu_j _ _ _ _ _ (by decide), zu_j _ _ _ _ _ (by decide), zu_j _ _ _ _ _ (by decide), zu_j _ _ _ _ _ (by decide)]
          · rw [zu_n _ _ _ ec, zu_n _ _ _ ec, zu_n _ _ _ ec, zu_n _ _ _ ec]
      refine ⟨⟨hD, ?_, zHo_cg _ 0 (fun i _ _ => ⟨?_, ?_⟩) hh⟩, h9, fun k hk' => ?_⟩
      · exact (congrArg Int32.toInt (r tt 8 _ _ _ _ (Or.inr rfl))).trans h8
      · exact r A6 i _ _ _ _ (Or.inl hD.2.1.1)
      · exact r A7 i _ _ _ _ (Or.inl hD.2.1.2)
      · exact (congrArg Int32.toInt (r A9 k _ _ _ _ (Or.inl n9.1))).trans (hk k hk')
theorem cClear5 (n9 : A9 ≠ tt ∧ A9 ≠ A6 ∧ A9 ≠ A7) (nA : (A6 ≠ tt ∧ A7 ≠ tt) ∧ A6 ≠ A7) (h67 : (σ.2.2 tt 6).getD 0 = A6 ∧ (σ.2.2 tt 7).getD 0 = A7) (h9 : (σ.2.2 tt 9).getD 0 = A9) : zDc tt A6 A7 A9 5 (F_X9_clear tt σ) := by
  have e0 : (0 : Int32).toInt = 0 := by decide
  unfold F_X9_clear
  simp only [zlt]
  refine cClr n9 10000 0 0 _ e0 (by omega) (by omega) ⟨⟨⟨h67, nA.1, nA.2⟩, ?_, trivial⟩, h9, fun k hk => absurd hk (by omega)⟩
  show (zu (zu σ.1 tt 0 0) tt 8 0 tt 8).toInt = _
  rw [zu_s]
  exact e0
theorem dC_s : ∀ k, k < 5 → zSub (dC 5) (2 * k) (lwB k none) := by
  intro k hk
  rcases (show k = 0 ∨ k = 1 ∨ k = 2 ∨ k = 3 ∨ k = 4 by omega) with rfl | rfl | rfl | rfl | rfl
  · exact ⟨[], [dfl 1, (7, 0), dfl 2, (7, 0), dfl 3, (7, 0), dfl 4, (7, 0)], rfl, rfl⟩
  · exact ⟨[dfl 0, (7, 0)], [dfl 2, (7, 0), dfl 3, (7, 0), dfl 4, (7, 0)], rfl, rfl⟩
  · exact ⟨[dfl 0, (7, 0), dfl 1, (7, 0)], [dfl 3, (7, 0), dfl 4, (7, 0)], rfl, rfl⟩
  · exact ⟨[dfl 0, (7, 0), dfl 1, (7, 0), dfl 2, (7, 0)], [dfl 4, (7, 0)], rfl, rfl⟩
  · exact ⟨[dfl 0, (7, 0), dfl 1, (7, 0), dfl 2, (7, 0), dfl 3, (7, 0)], [], rfl, rfl⟩
/-- the class begins to read -/
theorem zCg.st0 (h : zDc tt A6 A7 A9 5 τ) (g : zFi (fun c _ => c = P) τ τ') (hP : tt ≠ P ∧ A6 ≠ P ∧ A7 ≠ P) (nP : A9 ≠ P) : zCg tt A6 A7 A9 τ' aZ (fun _ => none) := fun _ => ⟨dC 5, h.1.fi g hP, by rw [dC_l]; exact Nat.le_add_right _ _, fun k hk => ⟨okB_d k, 2 * k, by rw [g.2 A9 k nP]; exact h.2.2 k hk, dC_s k hk⟩⟩
end CLR
section PLN
variable {a b : Nat} {τ t : zS} {Y : Nat → Nat}
/-- rows of laws made plain -/
theorem pn_l (hY : zYz Y a τ.2.2) {p : Int32} (hp : p.toInt = b) (hb : b ≤ 1) : ∀ (n : Nat) (x : Int32) (v : Nat) (t : zS), x.toInt = v → v ≤ 5 → 5 - v < n → t.2.2 = τ.2.2 → (∀ k, k < v → t.1 (Y 30) (5 * b + k) = 0 ∧ t.1 (Y 31) (5 * b + k) = 0) → (F_X11_plain_37 a p n x t).2.2 = τ.2.2 ∧ ∀ k, k < 5 → (F_X11_plain_37 a p n x t).1 (Y 30) (5 * b + k) = 0 ∧ (F_X11_plain_37 a p n x t).1 (Y 31) (5 * b + k) = 0 := by
  have e5 : (5 : Int32).toInt = 5 := by decide
  have q30 : zQs 30 := by unfold zQs; omega
  have q31 : zQs 31 := by unfold zQs; omega
  have g30 : (τ.2.2 a 30).getD 0 = Y 30 := (hY.1 30 q30).1
  have g31 : (τ.2.2 a 31).getD 0 = Y 31 := (hY.1 31 q31).1
  have n3 : ¬ Y 30 = Y 31 := hY.2 30 31 q30 q31 (by decide)
  intro n
  induction n with
  | zero => intro x v t _ _ h; exact absurd h (by omega)
  | succ n ih =>
    intro x v t hx hv hn ht hk
    rw [F_X11_plain_37]
    simp only [zlt, e5, ht, g30, g31]
    by_cases c : v < 5
    · have cx : x.toInt < 5 := by omega
      rw [if_pos cx]
      have v1 : ((5 : Int32) * p).toInt = 5 * (b : Int) := by rw [zb_mul (by rw [e5, hp]; omega) (by rw [e5, hp]; omega), e5, hp]
      have v2 : ((5 : Int32) * p + x).toInt = ((5 * b + v : Nat) : Int) := by rw [zb_add (by rw [v1]; omega) (by rw [v1]; omega), v1, hx]; omega
      have w : ((5 : Int32) * p + x).toNatClampNeg = 5 * b + v := by rw [ztn, v2]; rfl
      rw [w]
      refine ih _ (v + 1) _ (zp1 hx (by omega)) (by omega) (by omega) rfl (fun k hk' => ⟨?_, ?_⟩)
      · show zu (zu t.1 (Y 30) (5 * b + v) 0) (Y 31) (5 * b + v) 0 (Y 30) (5 * b + k) = 0
        rw [zu_n _ _ _ n3]
        by_cases e : k = v
        · rw [e, zu_s]
        · rw [zu_j _ _ _ _ _ (by omega)]
          exact (hk k (by omega)).1
      · show zu (zu t.1 (Y 30) (5 * b + v) 0) (Y 31) (5 * b + v) 0 (Y 31) (5 * b + k) = 0
        by_cases e : k = v
        · rw [e, zu_s]
        · rw [zu_j _ _ _ _ _ (by omega), zu_n _ _ _ (fun z => n3 z.symm)]
          exact (hk k (by omega)).2
    · have cx : ¬ x.toInt < 5 := by omega
      rw [if_neg cx]
      exact ⟨ht, fun k hk' => hk k (by omega)⟩
/-- the reference begins to read -/
theorem zRi_x (hY : zYz Y a t.2.2) (hb1 : b ≤ 1) (h18 : (t.1 a 18).toInt = 1 - (b : Int)) : zXl a Y t.2.2 b (zRi a t) aZ (fun _ => none) := by
  have e1 : (1 : Int32).toInt = 1 := by decide
  have e130 : (130 : Int32).toInt = 130 := by decide
  have e420 : (420 : Int32).toInt = 420 := by decide
  have e18 : zu (zu (zu (zu t.1 a 11 0) a 12 0) a 13 0) a 15 (0 : Int32) a 18 = t.1 a 18 := by rw [zu_j _ _ _ _ _ (by decide), zu_j _ _ _ _ _ (by decide), zu_j _ _ _ _ _ (by decide), zu_j _ _ _ _ _ (by decide)]
  obtain ⟨r, hr⟩ : ∃ r, r = zRi a t := ⟨_, rfl⟩
  rw [← hr]
  unfold zRi at hr
  simp only [zlt, e18, zu_s] at hr
  have hpb : ((1 : Int32) - t.1 a 18).toInt = b := by rw [zb_sub (by rw [e1, h18]; omega) (by rw [e1, h18]; omega), e1, h18]; omega
  obtain ⟨p, hp⟩ : ∃ p, p = (1 : Int32) - t.1 a 18 := ⟨_, rfl⟩
  rw [← hp] at hr hpb
  obtain ⟨u, hu⟩ : ∃ u : zS, u = (zu (zu (zu (zu (zu t.1 a 11 0) a 12 0) a 13 0) a 15 0) a 19 p, t.2.1, t.2.2) := ⟨_, rfl⟩
  rw [← hu] at hr
  have ru : u.2.2 = t.2.2 := by rw [hu]
  have u19 : u.1 a 19 = p := by rw [hu]; exact zu_s _ _ _ _
  have hYu : zYz Y a u.2.2 := by rw [ru]; exact hY
  have q : ∀ j, (j = 21 ∨ j = 26 ∨ j = 27 ∨ j = 28 ∨ j = 29 ∨ j = 30 ∨ j = 31) → zQs j := fun j hj => by unfold zQs; omega
  have gq : ∀ j, (j = 21 ∨ j = 26 ∨ j = 27 ∨ j = 28 ∨ j = 29 ∨ j = 30 ∨ j = 31) → (u.2.2 a j).getD 0 = Y j := fun j hj => (hYu.1 j (q j hj)).1
  obtain ⟨C, hC⟩ : ∃ C, C = F_X11_plain a p u := ⟨_, rfl⟩
  rw [← hC] at hr
  have fC : zFi (fun c _ => c = Y 21 ∨ c = Y 26 ∨ c = Y 27 ∨ c = Y 28 ∨ c = Y 29 ∨ c = Y 30 ∨ c = Y 31) u C := by
    rw [hC]
    exact fi_X11_plain zFi.id (fun _ => by rw [gq 21 (by omega)]; exact Or.inl rfl) (fun _ => by rw [gq 26 (by omega)]; exact Or.inr (Or.inl rfl)) (fun _ => by rw [gq 27 (by omega)]; exact Or.inr (Or.inr (Or.inl rfl))) (fun _ => by rw [gq 28 (by omega)]; exact Or.inr (Or.inr (Or.inr (Or.inl rfl)))) (fun _ => by rw [gq 29 (by omega)]; exact Or.inr (Or.inr (Or.inr (Or.inr (Or.inl rfl))))) (fun _ => by rw [gq 30 (by omega)]; exact Or.inr (Or.inr (Or.inr (Or.inr (Or.inr (Or.inl rfl)))))) (fun _ => by rw [gq 31 (by omega)]; exact Or.inr (Or.inr (Or.inr (Or.inr (Or.inr (Or.inr rfl))))))
  have na : ∀ j, (j = 21 ∨ j = 26 ∨ j = 27 ∨ j = 28 ∨ j = 29 ∨ j = 30 ∨ j = 31) → Y j ≠ a := fun j hj => (hY.1 j (q j hj)).2
  have C19 : C.1 a 19 = p := by
    rw [fC.2 a 19 (by
      rintro (z | z | z | z | z | z | z)
      · exact na 21 (by omega) z.symm
      · exact na 26 (by omega) z.symm
      · exact na 27 (by omega) z.symm
      · exact na 28 (by omega) z.symm
      · exact na 29 (by omega) z.symm
      · exact na 30 (by omega) z.symm
      · exact na 31 (by omega) z.symm)]
    exact u19
  have C3 : ∀ k, k < 5 → C.1 (Y 30) (5 * b + k) = 0 ∧ C.1 (Y 31) (5 * b + k) = 0 := by
    rw [hC]
    unfold F_X11_plain
    simp only [zlt]
    obtain ⟨w, hw⟩ : ∃ w : zS, w = (zu (zu (zu (zu (zu u.1 ((u.2.2 a 21).getD 0) p.toNatClampNeg 0) ((u.2.2 a 26).getD 0) p.toNatClampNeg 0) ((u.2.2 a 27).getD 0) p.toNatClampNeg 0) ((u.2.2 a 28).getD 0) p.toNatClampNeg 1) ((u.2.2 a 29).getD 0) p.toNatClampNeg 0, u.2.1, u.2.2) := ⟨_, rfl⟩
    rw [← hw]
    exact (pn_l (τ := u) hYu hpb hb1 10000 0 0 w (by decide) (by omega) (by omega) (by rw [hw]) (fun k hk => absurd hk (by omega))).2
  have n30 := na 30 (by omega)
  have n31 := na 31 (by omega)
  have j19 : ∀ x : Int32, zu C.1 a 32 x a 19 = C.1 a 19 := fun x => zu_j _ _ _ _ _ (by decide)
  simp only [j19, C19] at hr
  have x1 : ((130 : Int32) * p).toInt = ((130 * b : Nat) : Int) := by rw [zb_mul (by rw [e130, hpb]; omega) (by rw [e130, hpb]; omega), e130, hpb]; omega
  have x2 : ((420 : Int32) * p).toInt = ((420 * b : Nat) : Int) := by rw [zb_mul (by rw [e420, hpb]; omega) (by rw [e420, hpb]; omega), e420, hpb]; omega
  have rr : ∀ j i, (j = 30 ∨ j = 31) → r.1 (Y j) i = C.1 (Y j) i := fun j i hj => by
    have nj : ¬ Y j = a := na j (by omega)
    rw [hr]
    show zu (zu (zu (zu C.1 a 32 _) a 38 _) a 41 0) a 42 0 (Y j) i = _
    rw [zu_n _ _ _ nj, zu_n _ _ _ nj, zu_n _ _ _ nj, zu_n _ _ _ nj]
  intro _
  refine ⟨?_, 130 * b, 420 * b, ⟨?_, ?_, ?_⟩, ⟨Nat.le_refl _, Nat.le_refl _⟩, Nat.le_add_right _ _, ?_, fun k hk => ?_⟩
  · rw [hr]
    show (zu (zu (zu (zu C.1 a 32 _) a 38 _) a 41 0) a 42 0 a 19).toInt = _
    rw [zu_j _ _ _ _ _ (by decide), zu_j _ _ _ _ _ (by decide), zu_j _ _ _ _ _ (by decide), zu_j _ _ _ _ _ (by decide), C19]
    exact hpb
  · rw [hr]
    exact fC.1.trans ru
  · rw [hr]
    show (zu (zu (zu (zu C.1 a 32 _) a 38 _) a 41 0) a 42 0 a 32).toInt = _
    rw [zu_j _ _ _ _ _ (by decide), zu_j _ _ _ _ _ (by decide), zu_j _ _ _ _ _ (by decide), zu_s]
    exact x1
  · rw [hr]
    show (zu (zu (zu (zu C.1 a 32 _) a 38 _) a 41 0) a 42 0 a 38).toInt = _
    rw [zu_j _ _ _ _ _ (by decide), zu_j _ _ _ _ _ (by decide), zu_s]
    exact x2
  · show 4 * (130 * b) ≤ 520 * b + _
    omega
  · show (r.1 (Y 30) (5 * b + k)).toInt = (r.1 (Y 31) (5 * b + k)).toInt
    rw [rr 30 _ (by omega), rr 31 _ (by omega), (C3 k hk).1, (C3 k hk).2]
end PLN
end
-- 35x87.lw20
section
/-! ONE TELLING OF THE REFERENCE: laws, all cases -/
section YT20
variable {a k q v nm nO m b : Nat} {Y : Nat → Nat} {T : zTn} {R : Nat → Nat → Option Nat} {τ τ' : zS} {s s' : zA} {g : zGl}
/-- what a telling writes that is no law -/
def aNq (Y : Nat → Nat) (a : Nat) : Nat → Nat → Prop := fun c i => (c = a ∧ i ≠ 19 ∧ i ≠ 32 ∧ i ≠ 38) ∨ ∃ j, zQs j ∧ j ≤ 29 ∧ c = Y j
theorem aNq.o {i : Nat} (h : i ≠ 19 ∧ i ≠ 32 ∧ i ≠ 38) : aNq Y a a i := Or.inl ⟨rfl, h⟩
theorem aNq.r (hY : zYz Y a R) {j : Nat} (h : zQs j) (h2 : j ≤ 29) (i : Nat) : aNq Y a ((R a j).getD 0) i := Or.inr ⟨j, h, h2, (hY.1 j h).1⟩
theorem aNq.f (hY : zYz Y a R) (h : zFi (aNq Y a) τ τ') : (∀ i, (i = 19 ∨ i = 32 ∨ i = 38) → τ'.1 a i = τ.1 a i) ∧ ∀ j, (j = 30 ∨ j = 31 ∨ (33 ≤ j ∧ j ≤ 37) ∨ j = 39 ∨ j = 40) → τ'.1 (Y j) = τ.1 (Y j) := by
  refine ⟨fun i hi => h.2 a i (by
    rintro (z | ⟨j, z1, z2, z3⟩)
    · omega
    · exact (hY.1 j z1).2 z3.symm), fun j hj => funext (fun i => h.2 (Y j) i (by
    have qj : zQs j := by unfold zQs; omega
    rintro (z | ⟨l, z1, z2, z3⟩)
    · exact (hY.1 j qj).2 z.1
    · exact hY.2 j l qj z1 (by omega) z3))⟩
theorem aNq.on (h : zFi (aNq Y a) τ τ') : zFi (aNq Y a) τ (F_X11_goesOn a τ') := fi_X11_goesOn h (aNq.o (by decide)) (aNq.o (by decide)) (aNq.o (by decide))
theorem aNq.mu (h : zFi (aNq Y a) τ τ') (p : Int32) : zFi (aNq Y a) τ (F_X11_must a p τ') := fi_X11_must h (aNq.o (by decide)) (aNq.o (by decide)) (aNq.o (by decide))
theorem aNq.b1 (hY : zYz Y a R) (hR : τ.2.2 = R) (h : zFi (aNq Y a) τ τ') {j : Nat} (hj : zQs j) (h29 : j ≤ 29) (lo hi : Int32) : zFi (aNq Y a) τ (mB1 a j lo hi τ') := by
  have e : (τ'.2.2 a j).getD 0 = Y j := by rw [h.1, hR]; exact (hY.1 j hj).1
  have f : zFj (aNq Y a) τ (F_X11_bounded a lo hi τ') := fi_X11_bounded h (aNq.o (by decide)) (aNq.o (by decide)) (aNq.o (by decide)) (aNq.o (by decide)) (aNq.o (by decide))
  unfold mB1
  rw [e]
  exact zFi.w (s := (F_X11_bounded a lo hi τ').2) f (Or.inr ⟨j, hj, h29, rfl⟩)
theorem aGL_n (hn : ¬ (2 ≤ T.1 s.2.2.1 ∧ T.1 s.2.2.1 ≤ 6)) : aGL T s g = g := by
  unfold aGL
  rw [if_neg (fun z => hn z.1)]
theorem xTellL (hd : zWd a k q v nm nO) (hT : zTm T m) (hK : zTK T m) (hY : zYz Y a R) (hb : b ≤ 1) (h : zXl a Y R b τ s g) (hx : zXo a k q v nm nO m T τ s) (hs : s.1 = 0) : zXl a Y R b (F_X11_tellOne a τ) (aTell T s) (aGL T s g) := by
  obtain ⟨D1, D2, D3, D4, D5, D6, D7, D8, D9⟩ := xDisp hd hT hK hx hs
  have rg := hT.2.1 _ (hx.1.2.2.2.2 hs).1
  have hR : τ.2.2 = R := by
    obtain ⟨-, nb, nc, hl, -⟩ := h hs
    exact hl.1
  have o : ∀ i, i ≠ 19 ∧ i ≠ 32 ∧ i ≠ 38 → aNq Y a a i := fun i hi => aNq.o hi
  have r : ∀ j, 21 ≤ j → j ≤ 25 → ∀ i, aNq Y a ((τ.2.2 a j).getD 0) i := fun j j1 j2 i => by
    rw [hR]
    exact aNq.r hY (by unfold zQs; omega) (by omega) i
  have fin : ∀ t', ¬ (2 ≤ T.1 s.2.2.1 ∧ T.1 s.2.2.1 ≤ 6) → F_X11_tellOne a τ = t' → zFi (aNq Y a) τ t' → zXl a Y R b (F_X11_tellOne a τ) (aTell T s) (aGL T s g) := fun t' hn e f => by
    rw [e, aGL_n hn]
    obtain ⟨f1, f2⟩ := aNq.f hY f
    exact h.st (fun z => ⟨hs, by have := aTell_i z; omega⟩) (fun _ => ⟨f.1, f1, f2⟩)
  have on : zFi (aNq Y a) τ (F_X11_goesOn a τ) := aNq.on zFi.id
  have fa : ∀ p : Int32, zFi (aNq Y a) τ (F_X11_fail a p τ) := fun p => fi_X11_fail zFi.id (o 13 (by decide)) (o 14 (by decide))
  have q26 : zQs 26 := by unfold zQs; omega
  have q27 : zQs 27 := by unfold zQs; omega
  have q28 : zQs 28 := by unfold zQs; omega
  have q29 : zQs 29 := by unfold zQs; omega
  by_cases c0 : T.1 s.2.2.1 = 0
  · have hn : ¬ (2 ≤ T.1 s.2.2.1 ∧ T.1 s.2.2.1 ≤ 6) := by omega
    by_cases cm : s.2.2.2.2.2.1 = 0
    · exact fin _ hn (D1 c0 cm) (fi_X11_tellMouth on (o 13 (by decide)) (o 14 (by decide)) (o 11 (by decide)) (o 15 (by decide)) (o 16 (by decide)) (o 41 (by decide)) (r 22 (by decide) (by decide)) (r 23 (by decide) (by decide)) (r 24 (by decide) (by decide)) (r 25 (by decide) (by decide)) (r 21 (by decide) (by decide)))
    · exact fin _ hn (D2 c0 cm) (fa 2)
  · by_cases c1 : T.1 s.2.2.1 = 1
    · have hn : ¬ (2 ≤ T.1 s.2.2.1 ∧ T.1 s.2.2.1 ≤ 6) := by omega
      by_cases cm : s.2.2.2.2.2.2.1 = 11
      · exact fin _ hn (D4 c1 cm) (fa 2)
      · exact fin _ hn (D3 c1 cm) (fi_X11_tellPlace on (o 13 (by decide)) (o 14 (by decide)) (o 11 (by decide)) (o 15 (by decide)) (o 16 (by decide)) (r 22 (by decide) (by decide)) (r 23 (by decide) (by decide)) (r 24 (by decide) (by decide)) (r 25 (by decide) (by decide)) (o 42 (by decide)) (r 21 (by decide) (by decide)))
    · by_cases c6 : T.1 s.2.2.1 ≤ 6
      · have c2 : 2 ≤ T.1 s.2.2.1 := by omega
        by_cases hz : (aTell T s).1 = 0
        · obtain ⟨p, hp, E⟩ := D5 c2 c6
          obtain ⟨w, hw⟩ : ∃ w : Nat, T.1 s.2.2.1 - 2 = w := ⟨(T.1 s.2.2.1 - 2).toNat, by omega⟩
          have n0 : ¬ T.1 s.2.2.1 = 0 := by omega
          have n1 : ¬ T.1 s.2.2.1 = 1 := by omega
          have Ea : aTell T s = aTake T 24 (aLaw T w s) := by
            unfold aTell
            rw [if_neg n0, if_neg n1, if_pos ⟨c2, c6⟩, hw]
          have eg : aGL T s g = fun k => if k = w then some (aLb T 10 0 (aTake T 25 (aTake T (2 + (w : Int)) s))) else g k := by
            unfold aGL
            rw [if_pos ⟨⟨c2, c6⟩, hz⟩, hw]
            funext k
            by_cases e : k = w
            · rw [if_pos (by omega), if_pos e]
            · rw [if_neg (by omega), if_neg e]
          rw [eg, E, Ea]
          rw [Ea] at hz
          exact h.law hd hT hK hY hb hx hs (by rw [hp, hw]) (by omega) (by omega) hz
        · exact fun z => absurd z hz
      · have hn : ¬ (2 ≤ T.1 s.2.2.1 ∧ T.1 s.2.2.1 ≤ 6) := fun z => c6 z.2
        by_cases c7 : T.1 s.2.2.1 = 7
        · exact fin _ hn (D6 c7) (aNq.mu (aNq.b1 hY hR (aNq.b1 hY hR on q26 (by decide) _ _) q27 (by decide) _ _) _)
        · by_cases c8 : T.1 s.2.2.1 = 8
          · exact fin _ hn (D7 c8) (aNq.mu (aNq.b1 hY hR on q28 (by decide) _ _) _)
          · by_cases c9 : T.1 s.2.2.1 = 9
            · exact fin _ hn (D8 c9) (aNq.mu (aNq.b1 hY hR on q29 (by decide) _ _) _)
            · exact fin _ hn (D9 (by omega)) (fa 1)
end YT20
end
-- 35x88.lw21
section
/-! STORMS, THE PRIZE, THE SEED: told alike -/
abbrev zNf : Type := Nat → Int
def aGS (T : zTn) (s : zA) (g : zNf) : zNf := if (aTell T s).1 = 0 ∧ T.1 s.2.2.1 = 7 then (fun j => if j = 0 then T.2.2.1 (aTake T 7 s).2.2.1 else if j = 1 then T.2.2.1 (aNumb T 0 100 (aTake T 7 s)).2.2.1 else g j) else if (aTell T s).1 = 0 ∧ T.1 s.2.2.1 = 8 then (fun j => if j = 2 then T.2.2.1 (aTake T 8 s).2.2.1 else g j) else if (aTell T s).1 = 0 ∧ T.1 s.2.2.1 = 9 then (fun j => if j = 3 then T.2.2.1 (aTake T 9 s).2.2.1 else g j) else g
def zCn (tt : Nat) (τ : zS) (s : zA) (g : zNf) : Prop := s.1 = 0 → ∀ j, j < 4 → (τ.1 tt (10 + j)).toInt = g j
def zXn (Y : Nat → Nat) (b : Nat) (τ : zS) (s : zA) (g : zNf) : Prop := s.1 = 0 → ∀ j, j < 4 → (τ.1 (Y (26 + j)) b).toInt = g j
def zGn (s : zA) (g : zNf) : Prop := s.1 = 0 → s.2.2.2.1 = 0 → (0 ≤ g 0 ∧ g 0 ≤ 100) ∧ (0 ≤ g 1 ∧ g 1 ≤ 99) ∧ (0 ≤ g 2 ∧ g 2 ≤ 99) ∧ 0 ≤ g 3 ∧ g 3 ≤ 9999
section GSA
variable {T : zTn} {s : zA} {g : zNf}
theorem aTell_7 (c : T.1 s.2.2.1 = 7) : aTell T s = aTake T 24 (aNumb T 0 99 (aNumb T 0 100 (aTake T 7 s))) := by
  have n0 : ¬ T.1 s.2.2.1 = 0 := by omega
  have n1 : ¬ T.1 s.2.2.1 = 1 := by omega
  have n2 : ¬ (2 ≤ T.1 s.2.2.1 ∧ T.1 s.2.2.1 ≤ 6) := by omega
  unfold aTell
  rw [if_neg n0, if_neg n1, if_neg n2, if_pos c]
theorem aTell_8 (c : T.1 s.2.2.1 = 8) : aTell T s = aTake T 24 (aNumb T 0 99 (aTake T 8 s)) := by
  have n0 : ¬ T.1 s.2.2.1 = 0 := by omega
  have n1 : ¬ T.1 s.2.2.1 = 1 := by omega
  have n2 : ¬ (2 ≤ T.1 s.2.2.1 ∧ T.1 s.2.2.1 ≤ 6) := by omega
  have n7 : ¬ T.1 s.2.2.1 = 7 := by omega
  unfold aTell
  rw [if_neg n0, if_neg n1, if_neg n2, if_neg n7, if_pos c]
theorem aTell_9 (c : T.1 s.2.2.1 = 9) : aTell T s = aTake T 24 (aNumb T 0 9999 (aTake T 9 s)) := by
  have n0 : ¬ T.1 s.2.2.1 = 0 := by omega
  have n1 : ¬ T.1 s.2.2.1 = 1 := by omega
  have n2 : ¬ (2 ≤ T.1 s.2.2.1 ∧ T.1 s.2.2.1 ≤ 6) := by omega
  have n7 : ¬ T.1 s.2.2.1 = 7 := by omega
  have n8 : ¬ T.1 s.2.2.1 = 8 := by omega
  unfold aTell
  rw [if_neg n0, if_neg n1, if_neg n2, if_neg n7, if_neg n8, if_pos c]
theorem aGS_7 (z : (aTell T s).1 = 0) (c : T.1 s.2.2.1 = 7) : aGS T s g = fun j => if j = 0 then T.2.2.1 (aTake T 7 s).2.2.1 else if j = 1 then T.2.2.1 (aNumb T 0 100 (aTake T 7 s)).2.2.1 else g j := by
  unfold aGS
  rw [if_pos ⟨z, c⟩]
theorem aGS_8 (z : (aTell T s).1 = 0) (c : T.1 s.2.2.1 = 8) : aGS T s g = fun j => if j = 2 then T.2.2.1 (aTake T 8 s).2.2.1 else g j := by
  have n : ¬ ((aTell T s).1 = 0 ∧ T.1 s.2.2.1 = 7) := fun q => by have := q.2; omega
  unfold aGS
  rw [if_neg n, if_pos ⟨z, c⟩]
theorem aGS_9 (z : (aTell T s).1 = 0) (c : T.1 s.2.2.1 = 9) : aGS T s g = fun j => if j = 3 then T.2.2.1 (aTake T 9 s).2.2.1 else g j := by
  have n : ¬ ((aTell T s).1 = 0 ∧ T.1 s.2.2.1 = 7) := fun q => by have := q.2; omega
  have n2 : ¬ ((aTell T s).1 = 0 ∧ T.1 s.2.2.1 = 8) := fun q => by have := q.2; omega
  unfold aGS
  rw [if_neg n, if_neg n2, if_pos ⟨z, c⟩]
theorem aGS_n (c7 : ¬ T.1 s.2.2.1 = 7) (c8 : ¬ T.1 s.2.2.1 = 8) (c9 : ¬ T.1 s.2.2.1 = 9) : aGS T s g = g := by
  unfold aGS
  rw [if_neg (fun q => c7 q.2), if_neg (fun q => c8 q.2), if_neg (fun q => c9 q.2)]
/-- no late fault after a telling: none before -/
theorem aTell_l0 (hs : s.1 = 0) (q : (aTell T s).1 = 0) (l : (aTell T s).2.2.2.1 = 0) : s.2.2.2.1 = 0 := by
  by_cases ht : T.1 s.2.2.1 = 1
  · have Ea : aTell T s = aTake T 24 (aPlace T s) := by
      unfold aTell
      rw [if_neg (by omega), if_pos ht]
    rw [Ea] at q l
    have qp : (aPlace T s).1 = 0 := (aTake_i q).1
    have lp : (aPlace T s).2.2.2.1 = 0 := by rw [aTake_l] at l; exact l
    have q2 : (aPlace2 T (aPlace1 T s)).1 = 0 := by
      have qp' := qp
      unfold aPlace at qp'
      split at qp'
      · next c => exact c.1
      · exact qp'
    obtain ⟨s1z, -, i2⟩ := aPlace2_i q2
    have l2 : (aPlace2 T (aPlace1 T s)).2.2.2.1 = 0 := by
      unfold aPlace at lp
      split at lp
      · exact lp
      · exact lp
    have es1 : (aPlace1 T s).2.2.2.1 = s.2.2.2.1 := by
      by_cases c11 : s.2.2.2.2.2.2.1 < 11
      · have e : aPlace1 T s = aTake T 1 s := by
          unfold aPlace1
          rw [if_neg (by omega)]
        rw [e, aTake_l]
      · exfalso
        have s1z' := s1z
        unfold aPlace1 at s1z'
        rw [if_pos (by omega)] at s1z'
        have := (aTake_i s1z').1
        unfold aFail at this
        rw [if_neg (zne hs)] at this
        exact absurd this (by decide : ¬ (2 : Int) = 0)
    obtain ⟨z4, -, -⟩ := aNumb_i (lo := 0) (hi := 99) q2
    obtain ⟨z3, -, -⟩ := aNumb_i z4
    obtain ⟨z2, -, -⟩ := aNumb_i z3
    obtain ⟨z1, k22, -⟩ := aKnown_i z2
    have l4 := aNumb_l (lo := 0) (hi := 99) z4 l2
    have l3 := aNumb_l z3 l4
    have l1 := aNumb_l z2 l3
    obtain ⟨l0, -⟩ := aKnown_l z1 l1 k22
    have lN := aNew_l s1z l0
    rw [es1] at lN
    exact lN
  · exact (aK_tell (T := T) (l := s.2.2.2.1) (c := s.2.2.2.2.2.2.1) ⟨id, rfl⟩ ht).1 l
theorem gN_tell (hs : s.1 = 0) (h : zGn s g) : zGn (aTell T s) (aGS T s g) := by
  intro z l
  have H := h hs (aTell_l0 hs z l)
  by_cases c7 : T.1 s.2.2.1 = 7
  · rw [aGS_7 z c7]
    rw [aTell_7 c7] at z l
    have z1 := aTake_z z
    have l1 : (aNumb T 0 99 (aNumb T 0 100 (aTake T 7 s))).2.2.2.1 = 0 := by rw [aTake_l] at l; exact l
    have z2 := aNumb_z z1
    have l2 := aNumb_l z2 l1
    have z3 := aNumb_z z2
    have b1 := aNumb_in z2 z1 l1
    have b2 := aNumb_in z3 z2 l2
    exact ⟨b2, b1, H.2.2⟩
  · by_cases c8 : T.1 s.2.2.1 = 8
    · rw [aGS_8 z c8]
      rw [aTell_8 c8] at z l
      have z1 := aTake_z z
      have l1 : (aNumb T 0 99 (aTake T 8 s)).2.2.2.1 = 0 := by rw [aTake_l] at l; exact l
      exact ⟨H.1, H.2.1, aNumb_in (aNumb_z z1) z1 l1, H.2.2.2⟩
    · by_cases c9 : T.1 s.2.2.1 = 9
      · rw [aGS_9 z c9]
        rw [aTell_9 c9] at z l
        have z1 := aTake_z z
        have l1 : (aNumb T 0 9999 (aTake T 9 s)).2.2.2.1 = 0 := by rw [aTake_l] at l; exact l
        exact ⟨H.1, H.2.1, H.2.2.1, aNumb_in (aNumb_z z1) z1 l1⟩
      · rw [aGS_n c7 c8 c9]
        exact H
theorem gN_run : ∀ (l : Nat) (s : zA) (g : zNf), zGn s g → zGn (aRun T l s) (gRun T (aGS T) l s g) := by
  intro l
  induction l with
  | zero => intro s g h; exact h
  | succ l ih =>
    intro s g h
    rw [aRun, gRun]
    by_cases c : s.1 = 0
    · rw [if_neg (zne c), if_neg (zne c)]
      by_cases c1 : T.1 s.2.2.1 = 33
      · rw [if_pos c1, if_pos c1]; exact h
      · rw [if_neg c1, if_neg c1]
        exact ih _ _ (gN_tell c h)
    · rw [if_pos c, if_pos c]; exact h
end GSA
section GSC
variable {P tk kA vA qA tt N m : Nat} {T : zTn} {σ : zS} {s : zA} {g : zNf}
theorem cB1v (hd : zVd P tk kA vA qA N) (hT : zTK T m) (hP : tt ≠ P) (h : zV P tk kA vA qA tt N m T σ s) (hs : s.1 = 0) (j : Nat) (lo hi : Int32) (l u : Int) (e1 : lo.toInt = l) (e2 : hi.toInt = u) : zV P tk kA vA qA tt N m T (cB1 P j lo hi σ) (aNumb T l u s) ∧ ((cB1 P j lo hi σ).1 tt j).toInt = T.2.2.1 s.2.2.1 ∧ ∀ i, i ≠ j → (cB1 P j lo hi σ).1 tt i = σ.1 tt i := by
  obtain ⟨x, σ1, p1, p2⟩ := vNumb' hd hT h lo hi l u e1 e2
  have v := vNumbV h hs lo hi
  have f : zFi (fun c _ => c = P) σ (F_X3_number P lo hi σ).2 := fi_X3_number zFi.id rfl rfl rfl rfl rfl rfl rfl
  rw [p1] at v f
  have E : cB1 P j lo hi σ = (zu σ1.1 tt j x, σ1.2.1, σ1.2.2) := by
    unfold cB1
    rw [p1, vtt h]
  rw [E]
  exact ⟨vPutT p2 j x, by show (zu σ1.1 tt j x tt j).toInt = _; rw [zu_s]; exact v, fun i hi' => by show zu σ1.1 tt j x tt i = _; rw [zu_j _ _ _ _ _ (fun z => hi' z.symm)]; exact f.2 tt i hP⟩
theorem cTk_t {w : Int32} (hP : tt ≠ P) (i : Nat) : (F_X3_take P w σ).1 tt i = σ.1 tt i := by
  have f : zFi (fun c _ => c = P) σ (F_X3_take P w σ) := fi_X3_take zFi.id rfl rfl rfl rfl rfl
  exact f.2 tt i hP
theorem cTellN (hd : zVd P tk kA vA qA N) (hT : zTK T m) (hP : tt ≠ P) (nr : ∀ j, 2 ≤ j → j ≤ 9 → j ≠ 8 → (σ.2.2 tt j).getD 0 ≠ tt) (h : zV P tk kA vA qA tt N m T σ s) (hs : s.1 = 0) (hg : zCn tt σ s g) : zCn tt (F_X3_telling P σ) (aTell T s) (aGS T s g) := by
  obtain ⟨D0, D1, D2, D7, D8, D9, Dx⟩ := vDisp h hs
  have tP : (σ.2.2 P 1).getD 0 = tt := vtt h
  have r3 := (h.2.2.2 hs).2.2.1
  intro z j hj
  by_cases c7 : T.1 s.2.2.1 = 7
  · rw [aGS_7 z c7, D7 c7, cTk_t hP]
    rw [aTell_7 c7] at z
    have z1 := aTake_z z
    have z2 := aNumb_z z1
    have z3 := aNumb_z z2
    have a1 := vTake' hd hT h (σ.1 P 3) 7 (r3.trans c7) (by decide)
    obtain ⟨b1, b2, b3⟩ := cB1v hd hT hP a1 z3 10 0 100 0 100 (by decide) (by decide)
    obtain ⟨d1, d2, d3⟩ := cB1v hd hT hP b1 z2 11 0 99 0 99 (by decide) (by decide)
    by_cases j1 : j = 1
    · subst j1
      exact d2
    · rw [d3 (10 + j) (by omega)]
      by_cases j0 : j = 0
      · subst j0
        exact b2
      · rw [b3 (10 + j) (by omega), cTk_t hP]
        show _ = if j = 0 then _ else if j = 1 then _ else g j
        rw [if_neg j0, if_neg j1]
        exact hg hs j hj
  · by_cases c8 : T.1 s.2.2.1 = 8
    · rw [aGS_8 z c8, D8 c8, cTk_t hP]
      rw [aTell_8 c8] at z
      have z1 := aTake_z z
      have z2 := aNumb_z z1
      have a1 := vTake' hd hT h (σ.1 P 3) 8 (r3.trans c8) (by decide)
      obtain ⟨b1, b2, b3⟩ := cB1v hd hT hP a1 z2 12 0 99 0 99 (by decide) (by decide)
      by_cases j2 : j = 2
      · subst j2
        exact b2
      · rw [b3 (10 + j) (by omega), cTk_t hP]
        show _ = if j = 2 then _ else g j
        rw [if_neg j2]
        exact hg hs j hj
    · by_cases c9 : T.1 s.2.2.1 = 9
      · rw [aGS_9 z c9, D9 c9, cTk_t hP]
        rw [aTell_9 c9] at z
        have z1 := aTake_z z
        have z2 := aNumb_z z1
        have a1 := vTake' hd hT h (σ.1 P 3) 9 (r3.trans c9) (by decide)
        obtain ⟨b1, b2, b3⟩ := cB1v hd hT hP a1 z2 13 0 9999 0 9999 (by decide) (by decide)
        by_cases j3 : j = 3
        · subst j3
          exact b2
        · rw [b3 (10 + j) (by omega), cTk_t hP]
          show _ = if j = 3 then _ else g j
          rw [if_neg j3]
          exact hg hs j hj
      · rw [aGS_n c7 c8 c9]
        obtain ⟨A, hA⟩ : ∃ A : Nat → Nat → Prop, A = fun c i => ¬ (c = tt ∧ 10 ≤ i ∧ i ≤ 13) := ⟨_, rfl⟩
        have aP : ∀ i, A P i := fun i => by rw [hA]; exact fun q => hP q.1.symm
        have a8 : A ((σ.2.2 P 1).getD 0) 8 := by rw [hA]; exact fun q => by have := q.2; omega
        have aR : ∀ j, 2 ≤ j → j ≤ 9 → j ≠ 8 → ∀ i, A ((σ.2.2 ((σ.2.2 P 1).getD 0) j).getD 0) i := fun j j1 j2 j3 i => by rw [hA, tP]; exact fun q => nr j j1 j2 j3 q.1
        have fin : ∀ t', F_X3_telling P σ = t' → zFi A σ t' → ((F_X3_telling P σ).1 tt (10 + j)).toInt = g j := fun t' e f => by
          rw [e, f.2 tt (10 + j) (by rw [hA]; exact fun q => q ⟨rfl, by omega, by omega⟩)]
          exact hg hs j hj
        have tk : ∀ w s0, zFi A σ s0 → zFi A σ (F_X3_take P w s0) := fun w s0 q => fi_X3_take q (aP _) (aP _) (aP _) (aP _) (aP _)
        by_cases c0 : T.1 s.2.2.1 = 0
        · exact fin _ (D0 c0) (tk _ _ (fi_X3_mouth zFi.id (aP _) (aP _) (aP _) (aP _) (aP _) (aP _) (aP _) (aP _) (aR 2 (by decide) (by decide) (by decide)) (aR 3 (by decide) (by decide) (by decide)) (aR 4 (by decide) (by decide) (by decide)) (aR 5 (by decide) (by decide) (by decide))))
        · by_cases c1 : T.1 s.2.2.1 = 1
          · exact fin _ (D1 c1) (tk _ _ (fi_X3_newPlace zFi.id (aP _) (aP _) (aP _) (aP _) (aP _) (aP _) (aP _) (aP _) (aR 2 (by decide) (by decide) (by decide)) (aR 3 (by decide) (by decide) (by decide)) (aR 4 (by decide) (by decide) (by decide)) (aR 5 (by decide) (by decide) (by decide))))
          · by_cases c2 : 2 ≤ T.1 s.2.2.1 ∧ T.1 s.2.2.1 ≤ 6
            · obtain ⟨p, -, E⟩ := D2 c2.1 c2.2
              exact fin _ E (tk _ _ (fi_X3_law zFi.id (aP _) (aP _) (aP _) (aP _) (aP _) (aR 6 (by decide) (by decide) (by decide)) (aR 7 (by decide) (by decide) (by decide)) a8 (aR 9 (by decide) (by decide) (by decide))))
            · exfalso
              unfold aTell at z
              rw [if_neg c0, if_neg c1, if_neg c2, if_neg c7, if_neg c8, if_neg c9] at z
              exact absurd (aTake_z z) (aFail_1 (by decide))
end GSC
section GSX
variable {a k q v nm nO m b : Nat} {Y : Nat → Nat} {T : zTn} {R : Nat → Nat → Option Nat} {τ τ' : zS} {s s' : zA} {g : zNf}
theorem mB1v (hd : zWd a k q v nm nO) (hT : zTm T m) (hK : zTK T m) (hY : zYz Y a R) (hR : τ.2.2 = R) (h : zXo a k q v nm nO m T τ s) {j : Nat} (hj : zQs j) (h19 : (τ.1 a 19).toInt = b) (lo hi : Int32) (l u : Int) (e1 : lo.toInt = l) (e2 : hi.toInt = u) : zXo a k q v nm nO m T (mB1 a j lo hi τ) (aNumb T l u s) ∧ (mB1 a j lo hi τ).2.2 = R ∧ (mB1 a j lo hi τ).1 a 19 = τ.1 a 19 ∧ ((aNumb T l u s).1 = 0 → ((mB1 a j lo hi τ).1 (Y j) b).toInt = T.2.2.1 s.2.2.1) ∧ ∀ i, zQs i → i ≠ j → (mB1 a j lo hi τ).1 (Y i) = τ.1 (Y i) := by
  obtain ⟨x, τ1, p1, p2⟩ := xBound hd hT hK h lo hi l u e1 e2
  have f : zFi (fun c i => c = a ∧ i ≠ 19) τ (F_X11_bounded a lo hi τ).2 := fi_X11_bounded zFi.id ⟨rfl, by decide⟩ ⟨rfl, by decide⟩ ⟨rfl, by decide⟩ ⟨rfl, by decide⟩ ⟨rfl, by decide⟩
  have v : (aNumb T l u s).1 = 0 → (F_X11_bounded a lo hi τ).1.toInt = T.2.2.1 s.2.2.1 := fun z => xBoundV hT h lo hi z
  have n19 : (τ.1 a 19).toNatClampNeg = b := by rw [ztn, h19]; rfl
  have gY : (τ.2.2 a j).getD 0 = Y j := by rw [hR]; exact (hY.1 j hj).1
  have xA := xArrB h p2 j (τ.1 a 19).toNatClampNeg x hj
  rw [p1] at f v
  have E : mB1 a j lo hi τ = (zu τ1.1 (Y j) b x, τ1.2.1, τ1.2.2) := by
    unfold mB1
    rw [p1, gY, n19]
  rw [gY, n19] at xA
  rw [E]
  have nj := (hY.1 j hj).2
  refine ⟨xA, f.1.trans hR, ?_, fun z => ?_, fun i hi' n => funext (fun c => ?_)⟩
  · show zu τ1.1 (Y j) b x a 19 = _
    rw [zu_n _ _ _ (fun z => nj z.symm)]
    exact f.2 a 19 (fun z => z.2 rfl)
  · show (zu τ1.1 (Y j) b x (Y j) b).toInt = _
    rw [zu_s]
    exact v z
  · show zu τ1.1 (Y j) b x (Y i) c = _
    rw [zu_n _ _ _ (hY.2 i j hi' hj n)]
    exact f.2 (Y i) c (fun z => (hY.1 i hi').2 z.1)
theorem mMu_r (hY : zYz Y a R) {j : Nat} (hj : zQs j) (w : Int32) : (F_X11_must a w τ).1 (Y j) = τ.1 (Y j) := by
  have f : zFi (fun c _ => c = a) τ (F_X11_must a w τ) := fi_X11_must zFi.id rfl rfl rfl
  exact funext (fun i => f.2 (Y j) i (hY.1 j hj).2)
theorem mGo_r (hY : zYz Y a R) {j : Nat} (hj : zQs j) : (F_X11_goesOn a τ).1 (Y j) = τ.1 (Y j) := by
  have f : zFi (fun c _ => c = a) τ (F_X11_goesOn a τ) := fi_X11_goesOn zFi.id rfl rfl rfl
  exact funext (fun i => f.2 (Y j) i (hY.1 j hj).2)
theorem xTellN (hd : zWd a k q v nm nO) (hT : zTm T m) (hK : zTK T m) (hY : zYz Y a R) (hR : τ.2.2 = R) (h19 : (τ.1 a 19).toInt = b) (hx : zXo a k q v nm nO m T τ s) (hs : s.1 = 0) (hg : zXn Y b τ s g) : zXn Y b (F_X11_tellOne a τ) (aTell T s) (aGS T s g) := by
  obtain ⟨D1, D2, D3, D4, D5, D6, D7, D8, D9⟩ := xDisp hd hT hK hx hs
  have rg := hT.2.1 _ (hx.1.2.2.2.2 hs).1
  have Q : ∀ j, j < 4 → zQs (26 + j) := fun j hj => by unfold zQs; omega
  have go : zFi (fun c i => c = a ∧ i ≠ 19) τ (F_X11_goesOn a τ) := fi_X11_goesOn zFi.id ⟨rfl, by decide⟩ ⟨rfl, by decide⟩ ⟨rfl, by decide⟩
  have gR : (F_X11_goesOn a τ).2.2 = R := go.1.trans hR
  have g19 : ((F_X11_goesOn a τ).1 a 19).toInt = b := by rw [go.2 a 19 (fun z => z.2 rfl)]; exact h19
  intro z j hj
  by_cases c7 : T.1 s.2.2.1 = 7
  · rw [aGS_7 z c7, D6 c7, mMu_r hY (Q j hj)]
    rw [aTell_7 c7] at z
    have z1 := aTake_z z
    have z2 := aNumb_z z1
    obtain ⟨b1, b2, b3, b4, b5⟩ := mB1v hd hT hK hY gR (xOn hd hT hK hx 7 (fun _ => c7) (by decide)) (Q 0 (by decide)) g19 0 100 0 100 (by decide) (by decide)
    obtain ⟨d1, d2, d3, d4, d5⟩ := mB1v hd hT hK hY b2 b1 (Q 1 (by decide)) (by rw [b3]; exact g19) 0 99 0 99 (by decide) (by decide)
    by_cases j1 : j = 1
    · subst j1
      exact d4 z1
    · rw [d5 (26 + j) (Q j hj) (by omega)]
      by_cases j0 : j = 0
      · subst j0
        exact b4 z2
      · rw [b5 (26 + j) (Q j hj) (by omega), mGo_r hY (Q j hj)]
        show _ = if j = 0 then _ else if j = 1 then _ else g j
        rw [if_neg j0, if_neg j1]
        exact hg hs j hj
  · by_cases c8 : T.1 s.2.2.1 = 8
    · rw [aGS_8 z c8, D7 c8, mMu_r hY (Q j hj)]
      rw [aTell_8 c8] at z
      have z1 := aTake_z z
      obtain ⟨b1, b2, b3, b4, b5⟩ := mB1v hd hT hK hY gR (xOn hd hT hK hx 8 (fun _ => c8) (by decide)) (Q 2 (by decide)) g19 0 99 0 99 (by decide) (by decide)
      by_cases j2 : j = 2
      · subst j2
        exact b4 z1
      · rw [b5 (26 + j) (Q j hj) (by omega), mGo_r hY (Q j hj)]
        show _ = if j = 2 then _ else g j
        rw [if_neg j2]
        exact hg hs j hj
    · by_cases c9 : T.1 s.2.2.1 = 9
      · rw [aGS_9 z c9, D8 c9, mMu_r hY (Q j hj)]
        rw [aTell_9 c9] at z
        have z1 := aTake_z z
        obtain ⟨b1, b2, b3, b4, b5⟩ := mB1v hd hT hK hY gR (xOn hd hT hK hx 9 (fun _ => c9) (by decide)) (Q 3 (by decide)) g19 0 9999 0 9999 (by decide) (by decide)
        by_cases j3 : j = 3
        · subst j3
          exact b4 z1
        · rw [b5 (26 + j) (Q j hj) (by omega), mGo_r hY (Q j hj)]
          show _ = if j = 3 then _ else g j
          rw [if_neg j3]
          exact hg hs j hj
      · rw [aGS_n c7 c8 c9]
        obtain ⟨A, hA⟩ : ∃ A : Nat → Nat → Prop, A = fun c _ => c = a ∨ ∃ l, zQs l ∧ (l < 26 ∨ 29 < l) ∧ c = Y l := ⟨_, rfl⟩
        have o : ∀ i, A a i := fun i => by rw [hA]; exact Or.inl rfl
        have r : ∀ l, zQs l → (l < 26 ∨ 29 < l) → ∀ i, A ((τ.2.2 a l).getD 0) i := fun l hl h26 i => by rw [hA, hR]; exact Or.inr ⟨l, hl, h26, (hY.1 l hl).1⟩
        have qq : ∀ l, ((21 ≤ l ∧ l ≤ 25) ∨ l = 30 ∨ l = 31 ∨ l = 33 ∨ l = 34 ∨ l = 35 ∨ l = 36 ∨ l = 37 ∨ l = 39 ∨ l = 40 ∨ l = 43) → zQs l := fun l hl => by unfold zQs; omega
        have fin : ∀ t', F_X11_tellOne a τ = t' → zFi A τ t' → ((F_X11_tellOne a τ).1 (Y (26 + j)) b).toInt = g j := fun t' e f => by
          rw [e, f.2 (Y (26 + j)) b (by
            rw [hA]
            rintro (z | ⟨l, l1, l2, l3⟩)
            · exact (hY.1 _ (Q j hj)).2 z
            · exact hY.2 _ l (Q j hj) l1 (by omega) l3)]
          exact hg hs j hj
        have on : zFi A τ (F_X11_goesOn a τ) := fi_X11_goesOn zFi.id (o _) (o _) (o _)
        have fa : ∀ p : Int32, zFi A τ (F_X11_fail a p τ) := fun p => fi_X11_fail zFi.id (o _) (o _)
        by_cases c0 : T.1 s.2.2.1 = 0
        · by_cases cm : s.2.2.2.2.2.1 = 0
          · exact fin _ (D1 c0 cm) (fi_X11_tellMouth on (o _) (o _) (o _) (o _) (o _) (o _) (r 22 (qq _ (by decide)) (by decide)) (r 23 (qq _ (by decide)) (by decide)) (r 24 (qq _ (by decide)) (by decide)) (r 25 (qq _ (by decide)) (by decide)) (r 21 (qq _ (by decide)) (by decide)))
          · exact fin _ (D2 c0 cm) (fa 2)
        · by_cases c1 : T.1 s.2.2.1 = 1
          · by_cases cm : s.2.2.2.2.2.2.1 = 11
            · exact fin _ (D4 c1 cm) (fa 2)
            · exact fin _ (D3 c1 cm) (fi_X11_tellPlace on (o _) (o _) (o _) (o _) (o _) (r 22 (qq _ (by decide)) (by decide)) (r 23 (qq _ (by decide)) (by decide)) (r 24 (qq _ (by decide)) (by decide)) (r 25 (qq _ (by decide)) (by decide)) (o _) (r 21 (qq _ (by decide)) (by decide)))
          · by_cases c6 : T.1 s.2.2.1 ≤ 6
            · obtain ⟨p, -, e⟩ := D5 (by omega) c6
              exact fin _ e (fi_X11_tellLaw on (o _) (o _) (o _) (r 33 (qq _ (by decide)) (by decide)) (r 36 (qq _ (by decide)) (by decide)) (o _) (r 39 (qq _ (by decide)) (by decide)) (r 40 (qq _ (by decide)) (by decide)) (o _) (r 43 (qq _ (by decide)) (by decide)) (o _) (r 37 (qq _ (by decide)) (by decide)) (o _) (r 30 (qq _ (by decide)) (by decide)) (r 31 (qq _ (by decide)) (by decide)) (r 34 (qq _ (by decide)) (by decide)) (r 35 (qq _ (by decide)) (by decide)))
            · exact fin _ (D9 (by omega)) (fa 1)
end GSX
end
-- 35x89.lw22
section
/-! THE MOUTH'S ROW IN THE CLASS -/
/-- the mouth, once told, bears nothing -/
def zC0 (W : Nat → Nat) (τ : zS) (s : zA) : Prop := s.1 = 0 → s.2.2.2.2.2.1 ≠ 0 → ∀ j, 3 ≤ j → j ≤ 5 → (τ.1 (W j) 0).toInt = 0
section M0
variable {P tk kA vA qA tt N m : Nat} {T : zTn} {σ σ' τ : zS} {s s' : zA} {W : Nat → Nat}
theorem mouth0 (h : zV P tk kA vA qA tt N m T σ s) (hW : zWz W P tt σ.2.2) (h8 : ((F_X3_mouth P σ).1 P 8).toInt = 0) : ∀ j, 3 ≤ j → j ≤ 5 → (F_X3_mouth P σ).1 (W j) 0 = 0 := by
  intro j j1 j2
  have tP : (σ.2.2 P 1).getD 0 = tt := vtt h
  have fin : ∀ (s6 : zS) (v : Int64), zFi (fun c _ => c = P) σ s6 → (F_X9_setPlace ((s6.2.2 P 1).getD 0) 0 0 0 0 0 (zu s6.1 P 6 (1 : Int32), zu s6.2.1 ((s6.2.2 ((s6.2.2 P 1).getD 0) 1).getD 0) (0 : Int32).toNatClampNeg v, s6.2.2)).1 (W j) 0 = 0 := fun s6 v A => by
    rw [A.1, tP, setPV (W := W) (P := P) (τ := (zu s6.1 P 6 (1 : Int32), zu s6.2.1 ((σ.2.2 tt 1).getD 0) (0 : Int32).toNatClampNeg v, σ.2.2)) (n := 0) hW (by decide) (by decide)]
    show zu (zu (zu (zu (zu s6.1 P 6 1) (W 2) 0 0) (W 3) 0 0) (W 4) 0 0) (W 5) 0 0 (W j) 0 = 0
    have n : ∀ i k, 2 ≤ i → i ≤ 5 → 2 ≤ k → k ≤ 5 → i ≠ k → ¬ W i = W k := fun i k i1 i2 k1 k2 e => hW.2 i k i1 i2 k1 k2 e
    rcases (show j = 3 ∨ j = 4 ∨ j = 5 by omega) with rfl | rfl | rfl
    · rw [zu_n _ _ _ (n 3 5 (by decide) (by decide) (by decide) (by decide) (by decide)), zu_n _ _ _ (n 3 4 (by decide) (by decide) (by decide) (by decide) (by decide)), zu_s]
    · rw [zu_n _ _ _ (n 4 5 (by decide) (by decide) (by decide) (by decide) (by decide)), zu_s]
    · rw [zu_s]
  have A0 : ∀ s4, zFi (fun c _ => c = P) σ s4 → zFi (fun c _ => c = P) σ (F_X3_newName P s4).2 := fun s4 A => fi_X3_newName A rfl rfl rfl rfl rfl rfl rfl
  unfold F_X3_mouth at h8 ⊢
  simp only [zlt, zlt2] at h8 ⊢
  split
  · next c =>
    rw [if_pos c] at h8
    have A1 : zFi (fun c _ => c = P) σ (F_X3_take P 0 σ) := fi_X3_take zFi.id rfl rfl rfl rfl rfl
    split
    · exact fin _ _ (A0 _ A1)
    · next c2 =>
      rw [if_neg c2] at h8
      exact absurd h8 c2
  · next c =>
    rw [if_neg c] at h8
    have A1 : zFi (fun c _ => c = P) σ (F_X3_take P 0 (F_X3_fail P 2 σ)) := fi_X3_take (fi_X3_fail zFi.id rfl rfl rfl) rfl rfl rfl rfl rfl
    split
    · exact fin _ _ (A0 _ A1)
    · next c2 =>
      rw [if_neg c2] at h8
      exact absurd h8 c2
theorem place0 (h : zV P tk kA vA qA tt N m T σ s) (hs : s.1 = 0) (hW : zWz W P tt σ.2.2) : ∀ j, 2 ≤ j → j ≤ 5 → (F_X3_newPlace P σ).1 (W j) 0 = σ.1 (W j) 0 := by
  intro j j1 j2
  have tP : (σ.2.2 P 1).getD 0 = tt := vtt h
  have nP := (hW.1 j j1 j2).2
  have e1 : (1 : Int32).toInt = 1 := by decide
  have e11 : (11 : Int32).toInt = 11 := by decide
  obtain ⟨-, -, -, -, -, -, -, -, r9, r10, -⟩ := h.2.2.2 hs
  obtain ⟨B, hB⟩ : ∃ B : Nat → Nat → Prop, B = fun c i => c = P ∧ i ≠ 7 := ⟨_, rfl⟩
  have bp : ∀ i, i ≠ 7 → B P i := fun i hi => by rw [hB]; exact ⟨rfl, hi⟩
  have row : ∀ s6, zFi B σ s6 → s6.1 (W j) 0 = σ.1 (W j) 0 := fun s6 A => A.2 _ _ (by rw [hB]; exact fun z => nP z.1)
  have fin : ∀ (s6 : zS) (f : Nat → Nat → Int64) (x y z w : Int32), zFi B σ s6 → (s6.1 P 7).toInt < 11 → (F_X9_setPlace ((s6.2.2 P 1).getD 0) (zu s6.1 P 7 (s6.1 P 7 + (1 : Int32)) P 7) x y z w (zu s6.1 P 7 (s6.1 P 7 + (1 : Int32)), f, s6.2.2)).1 (W j) 0 = σ.1 (W j) 0 := fun s6 f x y z w A l => by
    have e7 : s6.1 P 7 = σ.1 P 7 := A.2 P 7 (by rw [hB]; exact fun q => q.2 rfl)
    obtain ⟨n, hn⟩ : ∃ n : Nat, (s6.1 P 7).toInt = n := ⟨(s6.1 P 7).toInt.toNat, by rw [e7, r9]; omega⟩
    rw [A.1, tP, setPV (W := W) (P := P) (τ := (zu s6.1 P 7 (s6.1 P 7 + (1 : Int32)), f, σ.2.2)) (n := n + 1) hW (by rw [zu_s, zb_add (by rw [e1]; omega) (by rw [e1]; omega), e1, hn]; omega) (by omega)]
    have z0 : ∀ (f : Nat → Nat → Int32) (k : Nat) (v : Int32), zu f (W k) (n + 1) v (W j) 0 = f (W j) 0 := fun f k v => by
      by_cases e : W j = W k
      · rw [e, zu_j _ _ _ _ _ (by omega)]
      · rw [zu_n _ _ _ e]
    rw [z0, z0, z0, z0]
    show zu s6.1 P 7 _ (W j) 0 = _
    rw [zu_n _ _ _ nP]
    exact row s6 A
  have Ak : ∀ (w : Int32) s4, zFi B σ s4 → zFi B σ (F_X3_take P w s4) := fun w s4 A => fi_X3_take A (bp 2 (by decide)) (bp 3 (by decide)) (bp 5 (by decide)) (bp 8 (by decide)) (bp 9 (by decide))
  have A0 : ∀ s4, zFi B σ s4 → zFi B σ (F_X3_newName P s4).2 := fun s4 A => fi_X3_newName A (bp _ (by decide)) (bp _ (by decide)) (bp _ (by decide)) (bp _ (by decide)) (bp _ (by decide)) (bp _ (by decide)) (bp _ (by decide))
  have A2 : ∀ s4, zFi B σ s4 → zFi B σ (F_X3_knownName P s4).2 := fun s4 A => fi_X3_knownName A (bp _ (by decide)) (bp _ (by decide)) (bp _ (by decide)) (bp _ (by decide)) (bp _ (by decide)) (bp _ (by decide)) (bp _ (by decide))
  have A3 : ∀ lo hi s4, zFi B σ s4 → zFi B σ (F_X3_number P lo hi s4).2 := fun lo hi s4 A => fi_X3_number A (bp _ (by decide)) (bp _ (by decide)) (bp _ (by decide)) (bp _ (by decide)) (bp _ (by decide)) (bp _ (by decide)) (bp _ (by decide))
  have A4 : ∀ s4, zFi B σ s4 → zFi B σ (F_X3_number P 0 99 (F_X3_number P 0 99 (F_X3_number P 1 99 (F_X3_knownName P (F_X3_newName P (F_X3_take P 1 s4)).2).2).2).2).2 := fun s4 A => A3 _ _ _ (A3 _ _ _ (A3 _ _ _ (A2 _ (A0 _ (Ak _ _ A)))))
  unfold F_X3_newPlace
  simp only [zlt, zlt2, e11]
  split
  · have q := A4 σ zFi.id
    split
    · split
      · next c => exact fin _ _ _ _ _ _ q c
      · exact row _ q
    · exact row _ q
  · have q := A4 (F_X3_fail P 2 σ) (fi_X3_fail zFi.id (bp _ (by decide)) (bp _ (by decide)) (bp _ (by decide)))
    split
    · split
      · next c => exact fin _ _ _ _ _ _ q c
      · exact row _ q
    · exact row _ q
theorem aTell_m1 (hs : s.1 = 0) (ht : T.1 s.2.2.1 = 1) (q : (aTell T s).1 = 0) : (aTell T s).2.2.2.2.2.1 = s.2.2.2.2.2.1 := by
  have Ea : aTell T s = aTake T 24 (aPlace T s) := by
    unfold aTell
    rw [if_neg (by omega), if_pos ht]
  rw [Ea] at q ⊢
  have i4 := (aTake_i q).2.2.2
  have qp : (aPlace T s).1 = 0 := (aTake_i q).1
  have q2 : (aPlace2 T (aPlace1 T s)).1 = 0 := by
    have qp' := qp
    unfold aPlace at qp'
    split at qp'
    · next c => exact c.1
    · exact qp'
  obtain ⟨s1z, -, i2⟩ := aPlace2_i q2
  have e2 : (aPlace2 T (aPlace1 T s)).2.2.2.2.2.1 = (aPlace1 T s).2.2.2.2.2.1 := congrArg (fun z => z.1) i2
  have e3 : (aPlace T s).2.2.2.2.2.1 = (aPlace2 T (aPlace1 T s)).2.2.2.2.2.1 := by
    unfold aPlace
    split
    · rfl
    · rfl
  have e1 : (aPlace1 T s).2.2.2.2.2.1 = s.2.2.2.2.2.1 := by
    by_cases c11 : 11 ≤ s.2.2.2.2.2.2.1
    · exfalso
      have s1z' := s1z
      unfold aPlace1 at s1z'
      rw [if_pos c11] at s1z'
      exact aFail_1 (by decide) (aTake_i s1z').1
    · unfold aPlace1 at s1z ⊢
      rw [if_neg c11] at s1z ⊢
      exact congrArg (fun z => z.2.2.1) (aTake_i s1z).2.2.2
  have e0 : (aTake T 24 (aPlace T s)).2.2.2.2.2.1 = (aPlace T s).2.2.2.2.2.1 := congrArg (fun z => z.2.2.1) i4
  rw [e0, e3, e2, e1]
theorem cTell0 (hd : zVd P tk kA vA qA N) (hT : zTK T m) (hW : zWz W P tt σ.2.2) (hX : zXz W tt σ.2.2) (h : zV P tk kA vA qA tt N m T σ s) (hs : s.1 = 0) (hg : zC0 W σ s) : zC0 W (F_X3_telling P σ) (aTell T s) := by
  obtain ⟨D0, D1, D2, D7, D8, D9, Dx⟩ := vDisp h hs
  have tP : (σ.2.2 P 1).getD 0 = tt := vtt h
  intro z hm j j1 j2
  have nP := (hW.1 j (by omega) j2).2
  obtain ⟨x1, x2, x3, x4⟩ := hX j (by omega) j2
  have tk0 : ∀ (w : Int32) (τ : zS), (F_X3_take P w τ).1 (W j) 0 = τ.1 (W j) 0 := fun w τ => by
    have f : zFi (fun c _ => c = P) τ (F_X3_take P w τ) := fi_X3_take zFi.id rfl rfl rfl rfl rfl
    exact f.2 _ _ nP
  by_cases c0 : T.1 s.2.2.1 = 0
  · rw [D0 c0, tk0]
    have Ea : aTell T s = aTake T 24 (aMouth T s) := by
      unfold aTell
      rw [if_pos c0]
    rw [Ea] at z
    have v := vMouth hd hT h hs
    rw [mouth0 h hW (v.2.1.trans (aTake_z z)) j j1 j2]
    decide
  · by_cases c1 : T.1 s.2.2.1 = 1
    · rw [D1 c1, tk0, place0 h hs hW j (by omega) j2]
      exact hg hs (by rw [← aTell_m1 hs c1 z]; exact hm) j j1 j2
    · have M := aM_tell (T := T) (s := s) (c := s.2.2.2.2.2.1) rfl c0 c1
      have hm' : s.2.2.2.2.2.1 ≠ 0 := fun e => hm (M.trans e)
      obtain ⟨A, hA⟩ : ∃ A : Nat → Nat → Prop, A = fun c _ => c = P ∨ c = tt ∨ c = (σ.2.2 tt 6).getD 0 ∨ c = (σ.2.2 tt 7).getD 0 ∨ c = (σ.2.2 tt 9).getD 0 := ⟨_, rfl⟩
      have aP : ∀ i, A P i := fun i => by rw [hA]; exact Or.inl rfl
      have aT : ∀ i, A tt i := fun i => by rw [hA]; exact Or.inr (Or.inl rfl)
      have fin : ∀ t', F_X3_telling P σ = t' → zFi A σ t' → ((F_X3_telling P σ).1 (W j) 0).toInt = 0 := fun t' e f => by
        rw [e, f.2 (W j) 0 (by
          rw [hA]
          rintro (q | q | q | q | q)
          · exact nP q
          · exact x1 q
          · exact x2 q
          · exact x3 q
          · exact x4 q)]
        exact hg hs hm' j j1 j2
      have tk : ∀ w s0, zFi A σ s0 → zFi A σ (F_X3_take P w s0) := fun w s0 q => fi_X3_take q (aP _) (aP _) (aP _) (aP _) (aP _)
      have nu : ∀ lo hi s0, zFi A σ s0 → zFi A σ (F_X3_number P lo hi s0).2 := fun lo hi s0 q => fi_X3_number q (aP _) (aP _) (aP _) (aP _) (aP _) (aP _) (aP _)
      have fa : ∀ w s0, zFi A σ s0 → zFi A σ (F_X3_fail P w s0) := fun w s0 q => fi_X3_fail q (aP _) (aP _) (aP _)
      have lw : ∀ w s0, zFi A σ s0 → zFi A σ (F_X3_law P w s0) := fun w s0 q => fi_X3_law q (aP _) (aP _) (aP _) (aP _) (aP _) (fun i => by rw [tP, hA]; exact Or.inr (Or.inr (Or.inl rfl))) (fun i => by rw [tP, hA]; exact Or.inr (Or.inr (Or.inr (Or.inl rfl)))) (by rw [tP]; exact aT _) (fun i => by rw [tP, hA]; exact Or.inr (Or.inr (Or.inr (Or.inr rfl))))
      have b1 : ∀ j lo hi s0, zFi A σ s0 → zFi A σ (cB1 P j lo hi s0) := fun j lo hi s0 q => by
        unfold cB1
        exact (nu lo hi s0 q).w (by rw [q.1, tP]; exact aT _)
      by_cases c2 : 2 ≤ T.1 s.2.2.1 ∧ T.1 s.2.2.1 ≤ 6
      · obtain ⟨p, -, E⟩ := D2 c2.1 c2.2
        exact fin _ E (tk _ _ (lw _ _ zFi.id))
      · by_cases c7 : T.1 s.2.2.1 = 7
        · exact fin _ (D7 c7) (tk _ _ (b1 _ _ _ _ (b1 _ _ _ _ (tk _ _ zFi.id))))
        · by_cases c8 : T.1 s.2.2.1 = 8
          · exact fin _ (D8 c8) (tk _ _ (b1 _ _ _ _ (tk _ _ zFi.id)))
          · by_cases c9 : T.1 s.2.2.1 = 9
            · exact fin _ (D9 c9) (tk _ _ (b1 _ _ _ _ (tk _ _ zFi.id)))
            · exfalso
              unfold aTell at z
              rw [if_neg c0, if_neg c1, if_neg c2, if_neg c7, if_neg c8, if_neg c9] at z
              exact absurd (aTake_z z) (aFail_1 (by decide))
end M0
end
