/-! LAWS: the codes that both sides put down -/
abbrev zCs : Type := List (Int × Int)
def zHo (r1 r2 : Nat) (σ : zS) : Nat → zCs → Prop
  | _, [] => True
  | n, c :: L => ((σ.1 r1 n).toInt = c.1 ∧ (σ.1 r2 n).toInt = c.2) ∧ zHo r1 r2 σ (n + 1) L
def zPk (f : Nat → Int32) : List Int → Prop
  | [] => True
  | x :: st => (f st.length).toInt = x ∧ zPk f st
section HOLDS
variable {r1 r2 : Nat} {σ τ : zS}
theorem zHo_app : ∀ (L M : zCs) (n : Nat), zHo r1 r2 σ n (L ++ M) ↔ zHo r1 r2 σ n L ∧ zHo r1 r2 σ (n + L.length) M := by
  intro L
  induction L with
  | nil => intro M n; exact ⟨fun h => ⟨trivial, h⟩, fun h => h.2⟩
  | cons c L ih =>
    intro M n
    have e : n + (c :: L).length = n + 1 + L.length := by rw [List.length_cons]; omega
    rw [e]
    exact ⟨fun h => ⟨⟨h.1, ((ih M (n + 1)).mp h.2).1⟩, ((ih M (n + 1)).mp h.2).2⟩, fun h => ⟨h.1.1, (ih M (n + 1)).mpr ⟨h.1.2, h.2⟩⟩⟩
theorem zHo_cg : ∀ (L : zCs) (n : Nat), (∀ i, n ≤ i → i < n + L.length → τ.1 r1 i = σ.1 r1 i ∧ τ.1 r2 i = σ.1 r2 i) → zHo r1 r2 σ n L → zHo r1 r2 τ n L := by
  intro L
  induction L with
  | nil => intro n _ _; exact trivial
  | cons c L ih =>
    intro n e h
    have e0 := e n (Nat.le_refl _) (by rw [List.length_cons]; omega)
    refine ⟨?_, ih (n + 1) (fun i i1 i2 => e i (by omega) (by rw [List.length_cons]; omega)) h.2⟩
    rw [e0.1, e0.2]
    exact h.1
theorem zHo_1 {n : Nat} {x y : Int} (h1 : (σ.1 r1 n).toInt = x) (h2 : (σ.1 r2 n).toInt = y) : zHo r1 r2 σ n [(x, y)] := ⟨⟨h1, h2⟩, trivial⟩
theorem zPk_cg {f g : Nat → Int32} : ∀ st : List Int, (∀ i, i < st.length → g i = f i) → zPk f st → zPk g st := by
  intro st
  induction st with
  | nil => intro _ _; exact trivial
  | cons x st ih =>
    intro e h
    refine ⟨?_, ih (fun i hi => e i (by rw [List.length_cons]; omega)) h.2⟩
    rw [e st.length (by rw [List.length_cons]; omega)]
    exact h.1
end HOLDS
/-- what a sign is put down as -/
def opc (x : Int) : Int := if x = 8 then 2 else if x = 9 then 3 else if x = 10 then 4 else 5
/-- what comes down from the pile -/
def pl (p : Bool) : List Int → zCs → List Int × zCs
  | [], out => ([], out)
  | x :: st, out => if x = 6 then (x :: st, out) else if p = true ∧ (x = 8 ∨ x = 9) then (x :: st, out) else pl p st (out ++ [(opc x, 0)])
/-- brackets open on the pile -/
def br : List Int → Int
  | [] => 0
  | x :: st => (if x = 6 then 1 else 0) + br st
section PILE
variable {p : Bool}
theorem br_n : ∀ st : List Int, 0 ≤ br st := by
  intro st
  induction st with
  | nil => exact Int.le_refl _
  | cons x st ih =>
    rw [br]
    split <;> omega
theorem pl_br : ∀ (st : List Int) (out : zCs), br (pl p st out).1 = br st := by
  intro st
  induction st with
  | nil => intro out; rfl
  | cons x st ih =>
    intro out
    rw [pl]
    by_cases c : x = 6
    · rw [if_pos c]
    · rw [if_neg c]
      by_cases c2 : p = true ∧ (x = 8 ∨ x = 9)
      · rw [if_pos c2]
      · rw [if_neg c2, ih, br, if_neg c]
        omega
theorem pl_len : ∀ (st : List Int) (out : zCs), (pl p st out).1.length + (pl p st out).2.length = st.length + out.length := by
  intro st
  induction st with
  | nil => intro out; rfl
  | cons x st ih =>
    intro out
    rw [pl]
    by_cases c : x = 6
    · rw [if_pos c]
    · rw [if_neg c]
      by_cases c2 : p = true ∧ (x = 8 ∨ x = 9)
      · rw [if_pos c2]
      · rw [if_neg c2, ih, List.length_append, List.length_cons, List.length_cons, List.length_nil]
        omega
theorem pl_6 : ∀ (st : List Int) (out : zCs), 0 < br st → ∃ st', (pl false st out).1 = 6 :: st' ∧ br st' + 1 = br st := by
  intro st
  induction st with
  | nil => intro out h; exact absurd h (by rw [br]; omega)
  | cons x st ih =>
    intro out h
    rw [pl]
    by_cases c : x = 6
    · rw [if_pos c]
      refine ⟨st, by rw [c], ?_⟩
      rw [br, if_pos c]
      omega
    · rw [br, if_neg c] at h
      rw [if_neg c, if_neg (fun z => absurd z.1 (by decide)), br, if_neg c]
      obtain ⟨st', e1, e2⟩ := ih (out ++ [(opc x, 0)]) (by omega)
      exact ⟨st', e1, by omega⟩
theorem pl_0 : ∀ (st : List Int) (out : zCs), br st = 0 → (pl false st out).1 = [] := by
  intro st
  induction st with
  | nil => intro out _; rfl
  | cons x st ih =>
    intro out h
    have := br_n st
    rw [br] at h
    by_cases c : x = 6
    · rw [if_pos c] at h
      omega
    · rw [if_neg c] at h
      rw [pl, if_neg c, if_neg (fun z => absurd z.1 (by decide))]
      exact ih _ (by omega)
end PILE
/-- what a unit is put down as -/
def aUc (T : zTn) (s : zA) : Int × Int := if T.1 s.2.2.1 = 23 then (0, T.2.2.1 s.2.2.1) else (1, T.1 s.2.2.1 - 13)
/-- the automaton of expressions, with pile and codes -/
def aX (T : zTn) : Nat → Bool → Int → zA → List Int → zCs → zA × zCs
  | 0, _, _, s, _, out => (s, out)
  | n + 1, true, o, s, st, out => if s.1 ≠ 0 then (s, out) else if T.1 s.2.2.1 = 23 ∨ (13 ≤ T.1 s.2.2.1 ∧ T.1 s.2.2.1 < 22) then aX T n false o (aTake T (T.1 s.2.2.1) s) st (out ++ [aUc T s]) else if T.1 s.2.2.1 = 31 ∧ o < 6 then aX T n true (o + 1) (aTake T 31 s) (6 :: st) out else (aFail T (if T.1 s.2.2.1 = 31 then 2 else 1) s, out)
  | n + 1, false, o, s, st, out => if s.1 ≠ 0 then (s, out) else if 26 ≤ T.1 s.2.2.1 ∧ T.1 s.2.2.1 ≤ 29 then aX T n true o (aTake T (T.1 s.2.2.1) s) (zrho (T.1 s.2.2.1) :: (pl (decide (28 ≤ T.1 s.2.2.1)) st out).1) (pl (decide (28 ≤ T.1 s.2.2.1)) st out).2 else if 0 < o then (if T.1 s.2.2.1 = 32 then aX T n false (o - 1) (aTake T 32 s) (pl false st out).1.tail (pl false st out).2 else (aFail T 1 s, out)) else (s, (pl false st out).2)
theorem aX_f {T : zTn} {s : zA} (c : s.1 ≠ 0) : ∀ (n : Nat) (b : Bool) (o : Int) (st : List Int) (out : zCs), aX T n b o s st out = (s, out)
  | 0, _, _, _, _ => rfl
  | _ + 1, true, _, _, _ => if_pos c
  | _ + 1, false, _, _, _ => if_pos c
theorem aX_1 {T : zTn} : ∀ (n : Nat) (b : Bool) (o : Int) (s : zA) (st : List Int) (out : zCs), (aX T n b o s st out).1 = aE T n b o s := by
  intro n
  induction n with
  | zero => intro b o s st out; rfl
  | succ n ih =>
    intro b o s st out
    cases b with
    | true =>
      rw [aX, aE]
      by_cases c : s.1 ≠ 0
      · rw [if_pos c, if_pos c]
      · rw [if_neg c, if_neg c]
        by_cases c1 : T.1 s.2.2.1 = 23 ∨ (13 ≤ T.1 s.2.2.1 ∧ T.1 s.2.2.1 < 22)
        · rw [if_pos c1, if_pos c1, ih]
        · rw [if_neg c1, if_neg c1]
          by_cases c2 : T.1 s.2.2.1 = 31 ∧ o < 6
          · rw [if_pos c2, if_pos c2, ih]
          · rw [if_neg c2, if_neg c2]
    | false =>
      rw [aX, aE]
      by_cases c : s.1 ≠ 0
      · rw [if_pos c, if_pos c]
      · rw [if_neg c, if_neg c]
        by_cases c1 : 26 ≤ T.1 s.2.2.1 ∧ T.1 s.2.2.1 ≤ 29
        · rw [if_pos c1, if_pos c1, ih]
        · rw [if_neg c1, if_neg c1]
          by_cases c2 : 0 < o
          · rw [if_pos c2, if_pos c2]
            by_cases c3 : T.1 s.2.2.1 = 32
            · rw [if_pos c3, if_pos c3, ih]
            · rw [if_neg c3, if_neg c3]
          · rw [if_neg c2, if_neg c2]
theorem aX_st {T : zTn} : ∀ (N N' : Nat) (b : Bool) (o : Int) (s : zA) (st : List Int) (out : zCs), (s.1 = 0 → s.2.2.1 ≤ 400 ∧ 401 < N + s.2.2.1 ∧ 401 < N' + s.2.2.1) → aX T N b o s st out = aX T N' b o s st out := by
  intro N
  induction N with
  | zero =>
    intro N' b o s st out h
    by_cases c : s.1 = 0
    · have := h c
      omega
    · rw [aX_f c, aX_f c]
  | succ n ih =>
    intro N' b o s st out h
    by_cases c : s.1 = 0
    · obtain ⟨h1, h2, h3⟩ := h c
      obtain ⟨n', rfl⟩ : ∃ q, N' = q + 1 := ⟨N' - 1, by omega⟩
      have tk : ∀ (w : Int) (b : Bool) (o : Int) (st : List Int) (out : zCs), aX T n b o (aTake T w s) st out = aX T n' b o (aTake T w s) st out := fun w b o st out => ih n' b o _ st out (fun z => by
        have q := aTake_i z
        have q2 : s.2.2.1 < 400 := by
          unfold aTake at z
          rw [if_neg (zne c), if_neg (zne q.2.1)] at z
          by_cases c2 : 400 ≤ s.2.2.1
          · rw [if_pos c2] at z; exact absurd z (aFail_1 (by decide))
          · omega
        omega)
      cases b with
      | true =>
        rw [aX, aX, tk, tk]
      | false =>
        rw [aX, aX, tk, tk]
    · rw [aX_f c, aX_f c]
/-- the codes of an expression -/
def aCo (T : zTn) (s : zA) : zCs := (aX T 500 true 0 s [] []).2
theorem aCo_e {T : zTn} {s s' : zA} {c : zCs} {e : Nat} (h : ∀ n, aX T (n + e) true 0 s [] [] = (s', c)) (hs : s.1 = 0 → s.2.2.1 ≤ 400) : aSum T s = s' ∧ aCo T s = c := by
  have q := h 500
  have q2 := aX_st (T := T) 500 (500 + e) true 0 s [] [] (fun z => by have := hs z; omega)
  constructor
  · have := aX_1 (T := T) 500 true 0 s [] []
    rw [q2, q] at this
    exact this.symm
  · unfold aCo
    rw [q2, q]
