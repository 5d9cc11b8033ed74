/-! THE CLASS PUTS DOWN AN EXPRESSION -/
/-- codes that can be gone through: the height before, the limit, the height after -/
def zWl : zCs → Nat → Nat → Nat → Prop
  | [], d, _, d' => d = d'
  | c :: L, d, m, d' => (((c.1 = 0 ∧ 0 ≤ c.2) ∨ (c.1 = 1 ∧ 0 ≤ c.2 ∧ c.2 < 9)) ∧ d < m ∧ zWl L (d + 1) m d') ∨ (2 ≤ c.1 ∧ c.1 ≤ 5 ∧ 2 ≤ d ∧ zWl L (d - 1) m d')
theorem zWl_app {M : zCs} {m d1 d2 : Nat} : ∀ (L : zCs) (d : Nat), zWl L d m d1 → zWl M d1 m d2 → zWl (L ++ M) d m d2 := by
  intro L
  induction L with
  | nil =>
    intro d h g
    have h' : d = d1 := h
    rw [h']
    exact g
  | cons c L ih =>
    intro d h g
    rcases h with ⟨h1, h2, h3⟩ | ⟨h1, h2, h3, h4⟩
    · exact Or.inl ⟨h1, h2, ih _ h3 g⟩
    · exact Or.inr ⟨h1, h2, h3, ih _ h4 g⟩
theorem zWl_up {m m' d' : Nat} (hm : m ≤ m') : ∀ (L : zCs) (d : Nat), zWl L d m d' → zWl L d m' d' := by
  intro L
  induction L with
  | nil => intro d h; exact h
  | cons c L ih =>
    intro d h
    rcases h with ⟨h1, h2, h3⟩ | ⟨h1, h2, h3, h4⟩
    · exact Or.inl ⟨h1, by omega, ih _ h3⟩
    · exact Or.inr ⟨h1, h2, h3, ih _ h4⟩
theorem zWl_1 {m d' : Nat} : ∀ (L : zCs) (d : Nat), zWl L d m d' → zWl L (d + 1) (m + 1) (d' + 1) := by
  intro L
  induction L with
  | nil =>
    intro d h
    have h' : d = d' := h
    show d + 1 = d' + 1
    omega
  | cons c L ih =>
    intro d h
    rcases h with ⟨h1, h2, h3⟩ | ⟨h1, h2, h3, h4⟩
    · exact Or.inl ⟨h1, by omega, ih _ h3⟩
    · refine Or.inr ⟨h1, h2, by omega, ?_⟩
      have q := ih _ h4
      rw [show d + 1 - 1 = d - 1 + 1 by omega]
      exact q
/-- a number token bears no sign -/
def zNn (T : zTn) (m : Nat) : Prop := ∀ j, j < m → T.1 j = 23 → 0 ≤ T.2.2.1 j
theorem zWl_u {T : zTn} {m : Nat} {s : zA} (hN : zNn T m) (hs : s.2.2.1 < m) (hu : T.1 s.2.2.1 = 23 ∨ (13 ≤ T.1 s.2.2.1 ∧ T.1 s.2.2.1 < 22)) : zWl [aUc T s] 0 1 1 := by
  refine Or.inl ⟨?_, by decide, rfl⟩
  unfold aUc
  by_cases c : T.1 s.2.2.1 = 23
  · rw [if_pos c]
    exact Or.inl ⟨rfl, hN _ hs c⟩
  · rw [if_neg c]
    exact Or.inr ⟨rfl, by show 0 ≤ T.1 s.2.2.1 - 13; omega, by show T.1 s.2.2.1 - 13 < 9; omega⟩
/-- codes that stand from n0 on -/
def zCd (tt A6 A7 n0 : Nat) (σ : zS) (c : zCs) : Prop := (((σ.2.2 tt 6).getD 0 = A6 ∧ (σ.2.2 tt 7).getD 0 = A7) ∧ (A6 ≠ tt ∧ A7 ≠ tt) ∧ A6 ≠ A7) ∧ (σ.1 tt 8).toInt = n0 + c.length ∧ zHo A6 A7 σ n0 c
section CX1
variable {P tt A6 A7 n0 : Nat} {σ σ' : zS} {c : zCs}
theorem zCd.fi (h : zCd tt A6 A7 n0 σ c) (g : zFi (fun b _ => b = P) σ σ') (hP : tt ≠ P ∧ A6 ≠ P ∧ A7 ≠ P) : zCd tt A6 A7 n0 σ' c := by
  obtain ⟨hD, h8, hh⟩ := h
  obtain ⟨g1, g2⟩ := g
  exact ⟨by rw [g1]; exact hD, by rw [g2 tt 8 hP.1]; exact h8, zHo_cg c n0 (fun i _ _ => ⟨g2 A6 i hP.2.1, g2 A7 i hP.2.2⟩) hh⟩
theorem cStep (h : zCd tt A6 A7 n0 σ c) (hb : n0 + c.length < 420) (x y : Int32) {x' y' : Int} (hx : x.toInt = x') (hy : y.toInt = y') : zCd tt A6 A7 n0 (F_X9_addStep tt x y σ) (c ++ [(x', y')]) := by
  have e1 : (1 : Int32).toInt = 1 := by decide
  have e420 : (420 : Int32).toInt = 420 := by decide
  obtain ⟨⟨⟨g6, g7⟩, ⟨n6, n7⟩, n67⟩, h8, hh⟩ := h
  have q6 : ¬ tt = A6 := fun z => n6 z.symm
  have q7 : ¬ tt = A7 := fun z => n7 z.symm
  have n8 : (σ.1 tt 8).toNatClampNeg = n0 + c.length := by rw [ztn]; omega
  have el : (c ++ [(x', y')]).length = c.length + 1 := by rw [List.length_append]; rfl
  have E : F_X9_addStep tt x y σ = (zu (zu (zu σ.1 A6 (n0 + c.length) x) A7 (n0 + c.length) y) tt 8 (σ.1 tt 8 + (1 : Int32)), σ.2.1, σ.2.2) := by
    unfold F_X9_addStep
    simp only [zlt, e420]
    rw [if_pos (by omega)]
    simp only [g6, g7, zu_n _ _ _ q6, zu_n _ _ _ q7, n8]
  rw [E]
  refine ⟨⟨⟨g6, g7⟩, ⟨n6, n7⟩, n67⟩, ?_, (zHo_app _ _ _).mpr ⟨zHo_cg c n0 (fun i i1 i2 => ⟨?_, ?_⟩) hh, zHo_1 ?_ ?_⟩⟩
  · show (zu (zu (zu σ.1 A6 _ x) A7 _ y) tt 8 _ tt 8).toInt = _
    rw [zu_s, zb_add (by rw [e1]; omega) (by rw [e1]; omega), e1, el]
    omega
  · show zu (zu (zu σ.1 A6 _ x) A7 _ y) tt 8 _ A6 i = _
    rw [zu_n _ _ _ n6, zu_n _ _ _ n67, zu_j _ _ _ _ _ (by omega)]
  · show zu (zu (zu σ.1 A6 _ x) A7 _ y) tt 8 _ A7 i = _
    rw [zu_n _ _ _ n7, zu_j _ _ _ _ _ (by omega), zu_n _ _ _ (fun z => n67 z.symm)]
  · show (zu (zu (zu σ.1 A6 _ x) A7 _ y) tt 8 _ A6 _).toInt = _
    rw [zu_n _ _ _ n6, zu_n _ _ _ n67, zu_s]
    exact hx
  · show (zu (zu (zu σ.1 A6 _ x) A7 _ y) tt 8 _ A7 _).toInt = _
    rw [zu_n _ _ _ n7, zu_s]
    exact hy
theorem cTake (h : zCd tt A6 A7 n0 σ c) (hP : tt ≠ P ∧ A6 ≠ P ∧ A7 ≠ P) (w : Int32) : zCd tt A6 A7 n0 (F_X3_take P w σ) c := h.fi (fi_X3_take zFi.id rfl rfl rfl rfl rfl) hP
end CX1
/-- what waits, put down -/
def flw (w : List Int) : zCs := w.map (fun x => (opc x, 0))
def hdP (st : List Int) : Prop := ∀ x st', st = x :: st' → x = 6 ∨ x = 8 ∨ x = 9
def hdS (st : List Int) : Prop := ∀ x st', st = x :: st' → x = 6
theorem flw_s (w : List Int) (x : Int) : flw (w ++ [x]) = flw w ++ [(opc x, 0)] := by
  unfold flw
  rw [List.map_append]
  rfl
theorem pl_w {b : Bool} {st : List Int} : ∀ (w : List Int) (out : zCs), (∀ x ∈ w, x ≠ 6 ∧ (b = true → x ≠ 8 ∧ x ≠ 9)) → pl b (w ++ st) out = pl b st (out ++ flw w) := by
  intro w
  induction w with
  | nil =>
    intro out _
    show pl b st out = pl b st (out ++ [])
    rw [List.append_nil]
  | cons x w ih =>
    intro out h
    have hx := h x List.mem_cons_self
    rw [List.cons_append, pl, if_neg hx.1, if_neg (fun z => z.2.elim (hx.2 z.1).1 (hx.2 z.1).2), ih _ (fun y hy => h y (List.mem_cons_of_mem _ hy)), List.append_assoc]
    rfl
theorem pl_hP {st : List Int} (h : hdP st) (out : zCs) : pl true st out = (st, out) := by
  cases st with
  | nil => rfl
  | cons x st =>
    rw [pl]
    by_cases c : x = 6
    · rw [if_pos c]
    · rw [if_neg c, if_pos ⟨rfl, (h x st rfl).resolve_left c⟩]
theorem pl_hS {b : Bool} {st : List Int} (h : hdS st) (out : zCs) : pl b st out = (st, out) := by
  cases st with
  | nil => rfl
  | cons x st => rw [pl, if_pos (h x st rfl)]
/-- what F puts down: codes ew, and w waits (brought down at once by what comes next) -/
def zUo (P tk kA vA qA tt N m A6 A7 : Nat) (T : zTn) (H : List Int → Prop) (Z Wp : Int → Prop) (o : Int) (h : Nat) (s : zA) (n0 : Nat) (c : zCs) (σ' : zS) : Prop :=
  ∃ s' : zA, zV P tk kA vA qA tt N m T σ' s' ∧ (s'.1 = 0 → (s.1 = 0 ∧ s.2.2.1 < s'.2.2.1 ∧ s'.2.2.2 = s.2.2.2 ∧ Z (T.1 s'.2.2.1)) ∧ ∃ (ew : zCs) (w : List Int), zCd tt A6 A7 n0 σ' (c ++ (ew ++ flw w)) ∧ (ew ++ flw w).length + s.2.2.1 ≤ s'.2.2.1 ∧ zWl (ew ++ flw w) 0 h 1 ∧ (∀ x ∈ w, Wp x) ∧ ∃ k, ∀ (st : List Int) (out : zCs) (n : Nat), H st → aX T (n + k) true o s st out = aX T n false o s' (w ++ st) (out ++ ew))
def zUx (P tk kA vA qA tt N m A6 A7 : Nat) (T : zTn) (H : List Int → Prop) (Z Wp : Int → Prop) (F : zS → zS) (o : Int) (h : Nat) : Prop :=
  ∀ (σ : zS) (s : zA) (n0 : Nat) (c : zCs), zV P tk kA vA qA tt N m T σ s → (s.1 = 0 → zCd tt A6 A7 n0 σ c ∧ n0 + c.length ≤ 10 + s.2.2.1) → zUo P tk kA vA qA tt N m A6 A7 T H Z Wp o h s n0 c (F σ)
section CX2
variable {P tk kA vA qA tt N m A6 A7 : Nat} {T : zTn} {σ σ' : zS} {s : zA}
theorem cRow (hd : zVd P tk kA vA qA N) (hT : zTK T m) (hP : tt ≠ P ∧ A6 ≠ P ∧ A7 ≠ P) {F : zS → zS} {o lo : Int} {h : Nat} {A B C D : Int32} (hlo : 26 ≤ lo ∧ lo ≤ 28) (hA : A.toInt = lo) (hB : B.toInt = lo + 1) (hC : C.toInt = opc (zrho lo)) (hD : D.toInt = opc (zrho (lo + 1))) {H H' : List Int → Prop} {Z Wp Wp' : Int → Prop}
    (hpop : ∀ (K : Int) (w st : List Int) (out : zCs), lo ≤ K → K ≤ lo + 1 → (∀ x ∈ w, Wp x) → H st → pl (decide (28 ≤ K)) (w ++ st) out = (st, out ++ flw w)) (hH : ∀ (K : Int) (st : List Int), lo ≤ K → K ≤ lo + 1 → H' (zrho K :: st)) (hW : ∀ x, Wp' x → Wp x) (hWz : ∀ K : Int, lo ≤ K → K ≤ lo + 1 → Wp (zrho K))
    (hF : zUx P tk kA vA qA tt N m A6 A7 T H' Z Wp' F o h) (G : Nat → Int32 → zS → zS)
    (hG : ∀ (n : Nat) (x : Int32) (τ : zS), G (n + 1) x τ = if (400 : Int32).toInt < x.toInt then τ else if (F_X10_isWithin (τ.1 P 3) A B).toInt = 0 then τ else if (τ.1 P 3).toInt = A.toInt then G n (x + (1 : Int32)) (F_X9_addStep (((F (F_X3_take P (τ.1 P 3) τ)).2.2 P 1).getD 0) C 0 (F (F_X3_take P (τ.1 P 3) τ))) else G n (x + (1 : Int32)) (F_X9_addStep (((F (F_X3_take P (τ.1 P 3) τ)).2.2 P 1).getD 0) D 0 (F (F_X3_take P (τ.1 P 3) τ)))) {n0 : Nat} {c : zCs} :
    ∀ (n : Nat) (x : Int32) (j : Nat) (τ : zS) (s : zA) (ew : zCs) (w : List Int), x.toInt = j → j ≤ 401 → 401 - j < n → zV P tk kA vA qA tt N m T τ s → (s.1 = 0 → (j ≤ s.2.2.1 ∧ Z (T.1 s.2.2.1)) ∧ zCd tt A6 A7 n0 τ (c ++ (ew ++ flw w)) ∧ n0 + c.length + (ew ++ flw w).length ≤ 10 + s.2.2.1 ∧ zWl (ew ++ flw w) 0 (h + 1) 1 ∧ ∀ x ∈ w, Wp x) → ∃ s' : zA, zV P tk kA vA qA tt N m T (G n x τ) s' ∧ (s'.1 = 0 → (s.1 = 0 ∧ s.2.2.1 ≤ s'.2.2.1 ∧ s'.2.2.2 = s.2.2.2 ∧ Z (T.1 s'.2.2.1) ∧ ¬ (lo ≤ T.1 s'.2.2.1 ∧ T.1 s'.2.2.1 ≤ lo + 1)) ∧ ∃ (ew' : zCs) (w' : List Int), zCd tt A6 A7 n0 (G n x τ) (c ++ (ew' ++ flw w')) ∧ (ew' ++ flw w').length + s.2.2.1 ≤ s'.2.2.1 + (ew ++ flw w).length ∧ zWl (ew' ++ flw w') 0 (h + 1) 1 ∧ (∀ x ∈ w', Wp x) ∧ ∃ k, ∀ (st : List Int) (out : zCs) (n : Nat), H st → aX T (n + k) false o s (w ++ st) (out ++ ew) = aX T n false o s' (w' ++ st) (out ++ ew')) := by
  intro n
  induction n with
  | zero => intro x j τ s _ _ _ _ h; exact absurd h (by omega)
  | succ n ih =>
    intro x j τ s ew w hx hj hm h' hz
    have e400 : (400 : Int32).toInt = 400 := by decide
    rw [hG, e400]
    simp only [zwi, hA, hB]
    have stay : Unit → (s.1 = 0 → ¬ (lo ≤ T.1 s.2.2.1 ∧ T.1 s.2.2.1 ≤ lo + 1)) → ∃ s' : zA, zV P tk kA vA qA tt N m T τ s' ∧ (s'.1 = 0 → (s.1 = 0 ∧ s.2.2.1 ≤ s'.2.2.1 ∧ s'.2.2.2 = s.2.2.2 ∧ Z (T.1 s'.2.2.1) ∧ ¬ (lo ≤ T.1 s'.2.2.1 ∧ T.1 s'.2.2.1 ≤ lo + 1)) ∧ ∃ (ew' : zCs) (w' : List Int), zCd tt A6 A7 n0 τ (c ++ (ew' ++ flw w')) ∧ (ew' ++ flw w').length + s.2.2.1 ≤ s'.2.2.1 + (ew ++ flw w).length ∧ zWl (ew' ++ flw w') 0 (h + 1) 1 ∧ (∀ x ∈ w', Wp x) ∧ ∃ k, ∀ (st : List Int) (out : zCs) (n : Nat), H st → aX T (n + k) false o s (w ++ st) (out ++ ew) = aX T n false o s' (w' ++ st) (out ++ ew')) := fun _ q => ⟨s, h', fun z => ⟨⟨z, Nat.le_refl _, rfl, (hz z).1.2, q z⟩, ew, w, (hz z).2.1, by omega, (hz z).2.2.2.1, (hz z).2.2.2.2, 0, fun _ _ _ _ => rfl⟩⟩
    by_cases c0 : 400 < x.toInt
    · rw [if_pos c0]
      refine stay () (fun z => ?_)
      have r1 := (h'.2.2.2 z).1
      have r2 := (hz z).1.1
      have := hT.2.1
      omega
    rw [if_neg c0]
    by_cases cs : s.1 = 0
    · have r3 := (h'.2.2.2 cs).2.2.1
      rw [r3]
      by_cases c1 : lo ≤ T.1 s.2.2.1 ∧ T.1 s.2.2.1 ≤ lo + 1
      · rw [if_neg (fun z => z c1)]
        obtain ⟨⟨z1, z2⟩, z3, z4, z5, z6⟩ := hz cs
        have t1 := vTake hd hT h' (τ.1 P 3) (by omega)
        rw [r3] at t1
        obtain ⟨s2, u1, u2⟩ := hF _ _ n0 (c ++ (ew ++ flw w)) t1 (fun z => ⟨cTake z3 hP _, by rw [List.length_append, (aTake_i z).2.2.1]; omega⟩)
        have ut := vtt u1
        rw [ut]
        have key : ∀ C : Int32, C.toInt = opc (zrho (T.1 s.2.2.1)) → ∃ s' : zA, zV P tk kA vA qA tt N m T (G n (x + (1 : Int32)) (F_X9_addStep tt C 0 (F (F_X3_take P (τ.1 P 3) τ)))) s' ∧ (s'.1 = 0 → (s.1 = 0 ∧ s.2.2.1 ≤ s'.2.2.1 ∧ s'.2.2.2 = s.2.2.2 ∧ Z (T.1 s'.2.2.1) ∧ ¬ (lo ≤ T.1 s'.2.2.1 ∧ T.1 s'.2.2.1 ≤ lo + 1)) ∧ ∃ (ew' : zCs) (w' : List Int), zCd tt A6 A7 n0 (G n (x + (1 : Int32)) (F_X9_addStep tt C 0 (F (F_X3_take P (τ.1 P 3) τ)))) (c ++ (ew' ++ flw w')) ∧ (ew' ++ flw w').length + s.2.2.1 ≤ s'.2.2.1 + (ew ++ flw w).length ∧ zWl (ew' ++ flw w') 0 (h + 1) 1 ∧ (∀ x ∈ w', Wp x) ∧ ∃ k, ∀ (st : List Int) (out : zCs) (n : Nat), H st → aX T (n + k) false o s (w ++ st) (out ++ ew) = aX T n false o s' (w' ++ st) (out ++ ew')) := fun C hC' => by
          by_cases cf : s2.1 = 0
          · obtain ⟨⟨y1, y2, y3, y4⟩, ew2, w2, y5, y6, y7, y8, k, y9⟩ := u2 cf
            have qi := aTake_i y1
            have pm := (u1.2.2.2 cf).1
            have pk := hT.2.1
            obtain ⟨e, he⟩ : ∃ e : zCs, e = ew ++ flw w := ⟨_, rfl⟩
            obtain ⟨e2, he2⟩ : ∃ e2 : zCs, e2 = ew2 ++ flw w2 := ⟨_, rfl⟩
            rw [← he] at z3 z4 z5 y5 ⊢
            rw [← he2] at y5 y6 y7
            have ll : (c ++ e ++ e2).length = c.length + e.length + e2.length := by rw [List.length_append, List.length_append]
            have lq : e.length = ew.length + (flw w).length := by rw [he, List.length_append]
            have ass : c ++ ((e ++ ew2) ++ flw (w2 ++ [zrho (T.1 s.2.2.1)])) = c ++ e ++ e2 ++ [(opc (zrho (T.1 s.2.2.1)), 0)] := by
              rw [flw_s, he2]
              simp only [List.append_assoc]
            have ass2 : (e ++ ew2) ++ flw (w2 ++ [zrho (T.1 s.2.2.1)]) = e ++ (e2 ++ [(opc (zrho (T.1 s.2.2.1)), 0)]) := by
              rw [flw_s, he2]
              simp only [List.append_assoc]
            have l2 : ((e ++ ew2) ++ flw (w2 ++ [zrho (T.1 s.2.2.1)])).length = e.length + e2.length + 1 := by
              rw [ass2, List.length_append, List.length_append]
              show e.length + (e2.length + 1) = _
              omega
            have st2 := cStep y5 (by rw [ll]; omega) C 0 hC' (by decide : (0 : Int32).toInt = 0)
            rw [← ass] at st2
            obtain ⟨s', v1, v2⟩ := ih (x + (1 : Int32)) (j + 1) (F_X9_addStep tt C 0 (F (F_X3_take P (τ.1 P 3) τ))) s2 (e ++ ew2) (w2 ++ [zrho (T.1 s.2.2.1)]) (zp1 hx (by omega)) (by omega) (by omega) (vStep u1 C 0) (fun _ => ⟨⟨by omega, y4⟩, st2, by rw [l2]; omega, by
              rw [ass2]
              refine zWl_app e 0 z5 (zWl_app e2 1 (zWl_1 e2 0 y7) (Or.inr ⟨?_, ?_, by decide, rfl⟩))
              · show 2 ≤ opc (zrho (T.1 s.2.2.1))
                unfold opc
                split
                · decide
                · split
                  · decide
                  · split <;> decide
              · show opc (zrho (T.1 s.2.2.1)) ≤ 5
                unfold opc
                split
                · decide
                · split
                  · decide
                  · split <;> decide, fun y hy => by
              rcases List.mem_append.mp hy with hy | hy
              · exact hW _ (y8 y hy)
              · rw [List.mem_singleton.mp hy]
                exact hWz _ c1.1 c1.2⟩)
            refine ⟨s', v1, fun z => ?_⟩
            obtain ⟨⟨x1, x2, x3, x4, x5⟩, ew', w', x6, x7, x8, x9, k2, x10⟩ := v2 z
            rw [l2] at x7
            refine ⟨⟨cs, by omega, by rw [x3, y3, qi.2.2.2], x4, x5⟩, ew', w', x6, by omega, x8, x9, k2 + k + 1, fun st out n hst => ?_⟩
            rw [show n + (k2 + k + 1) = (n + k2 + k) + 1 by omega, aX, if_neg (zne cs), if_pos (by omega), hpop _ w st (out ++ ew) c1.1 c1.2 z6 hst]
            show aX T (n + k2 + k) true o (aTake T (T.1 s.2.2.1) s) (zrho (T.1 s.2.2.1) :: st) (out ++ ew ++ flw w) = _
            rw [y9 _ _ _ (hH _ st c1.1 c1.2)]
            have x11 := x10 st out n hst
            rw [← x11, he]
            simp only [List.append_assoc, List.cons_append, List.nil_append]
          · obtain ⟨s', v1, v2⟩ := ih (x + (1 : Int32)) (j + 1) (F_X9_addStep tt C 0 (F (F_X3_take P (τ.1 P 3) τ))) s2 [] [] (zp1 hx (by clear u2; omega)) (by clear u2; omega) (by clear u2; omega) (vStep u1 C 0) (fun z => absurd z cf)
            exact ⟨s', v1, fun z => absurd (v2 z).1.1 cf⟩
        by_cases c2 : T.1 s.2.2.1 = lo
        · rw [if_pos c2]
          exact key C (by rw [hC, c2])
        · rw [if_neg c2]
          exact key D (by rw [hD, show T.1 s.2.2.1 = lo + 1 by omega])
      · rw [if_pos c1]
        exact stay () (fun _ => c1)
    · rw [if_pos (by rw [(h'.2.2.1 cs).2]; omega)]
      exact stay () (fun z => absurd z cs)
end CX2
