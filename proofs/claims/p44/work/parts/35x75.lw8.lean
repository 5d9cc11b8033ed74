/-! WHAT CODES ARE WORTH -/
def opv (k : Int) (x y : Int32) : Int32 := if k = 2 then x + y else if k = 3 then x - y else if k = 4 then x * y else x / y
def ev2 (k : Int) : List Int32 → Option (List Int32)
  | y :: x :: r => if k = 5 ∧ y.toInt = 0 then none else some (opv k x y :: r)
  | _ => none
/-- codes gone through on a pile (top first); none: a division by nothing -/
def evC (ft : Nat → Int32) : zCs → List Int32 → Option (List Int32)
  | [], st => some st
  | c :: L, st => if c.1 = 0 then evC ft L (Int32.ofInt c.2 :: st) else if c.1 = 1 then evC ft L (ft c.2.toNat :: st) else (ev2 c.1 st).bind (evC ft L)
theorem evC_0 {ft : Nat → Int32} {c : Int × Int} {L : zCs} {st : List Int32} (h : c.1 = 0) : evC ft (c :: L) st = evC ft L (Int32.ofInt c.2 :: st) := by rw [evC, if_pos h]
theorem evC_1 {ft : Nat → Int32} {c : Int × Int} {L : zCs} {st : List Int32} (h : c.1 = 1) : evC ft (c :: L) st = evC ft L (ft c.2.toNat :: st) := by rw [evC, if_neg (by omega), if_pos h]
theorem evC_z {ft : Nat → Int32} {c : Int × Int} {L : zCs} {x y : Int32} {st : List Int32} (h : c.1 = 5 ∧ y.toInt = 0) : evC ft (c :: L) (y :: x :: st) = none := by
  rw [evC, if_neg (by omega), if_neg (by omega), ev2, if_pos h]
  rfl
theorem evC_2 {ft : Nat → Int32} {c : Int × Int} {L : zCs} {x y : Int32} {st : List Int32} (h : 2 ≤ c.1) (z : ¬ (c.1 = 5 ∧ y.toInt = 0)) : evC ft (c :: L) (y :: x :: st) = evC ft L (opv c.1 x y :: st) := by
  rw [evC, if_neg (by omega), if_neg (by omega), ev2, if_neg z]
  rfl
def zSk (f : Nat → Int32) : List Int32 → Prop
  | [] => True
  | x :: st => f st.length = x ∧ zSk f st
theorem zSk_cg {f g : Nat → Int32} : ∀ st : List Int32, (∀ i, i < st.length → g i = f i) → zSk f st → zSk g st := by
  intro st
  induction st with
  | nil => intro _ _; exact trivial
  | cons x st ih =>
    intro e h
    refine ⟨?_, ih (fun i hi => e i (by rw [List.length_cons]; omega)) h.2⟩
    rw [e st.length (by rw [List.length_cons]; omega)]
    exact h.1
/-- what lies deeper doesn't bear on it -/
theorem evC_sh {ft : Nat → Int32} {m d' : Nat} {r : List Int32} : ∀ (L : zCs) (d : Nat) (st : List Int32), st.length = d → zWl L d m d' → (evC ft L st = none ∧ evC ft L (st ++ r) = none) ∨ ∃ st', evC ft L st = some st' ∧ st'.length = d' ∧ evC ft L (st ++ r) = some (st' ++ r) := by
  intro L
  induction L with
  | nil =>
    intro d st hd h
    exact Or.inr ⟨st, rfl, hd.trans h, rfl⟩
  | cons c L ih =>
    intro d st hd h
    rcases h with ⟨h1, h2, h3⟩ | ⟨h1, h2, h3, h4⟩
    · rcases h1 with ⟨c0, -⟩ | ⟨c1, -⟩
      · have q := ih (d + 1) (Int32.ofInt c.2 :: st) (by rw [List.length_cons, hd]) h3
        rw [evC_0 c0, evC_0 c0]
        exact q
      · have q := ih (d + 1) (ft c.2.toNat :: st) (by rw [List.length_cons, hd]) h3
        rw [evC_1 c1, evC_1 c1]
        exact q
    · cases st with
      | nil => rw [List.length_nil] at hd; omega
      | cons y st =>
        cases st with
        | nil => rw [List.length_cons, List.length_nil] at hd; omega
        | cons x st =>
          rw [List.length_cons, List.length_cons] at hd
          have q := ih (d - 1) (opv c.1 x y :: st) (by rw [List.length_cons]; omega) h4
          have e : y :: x :: st ++ r = y :: x :: (st ++ r) := rfl
          rw [e]
          by_cases z : c.1 = 5 ∧ y.toInt = 0
          · rw [evC_z z, evC_z z]
            exact Or.inl ⟨rfl, rfl⟩
          · rw [evC_2 h1 z, evC_2 h1 z]
            exact q
/-- the worth of an expression -/
def vlC (ft : Nat → Int32) (L : zCs) : Option Int32 := match evC ft L [] with
  | some (x :: _) => some x
  | _ => none
/-- the worth of a law -/
def evB (ft : Nat → Int32) : List zBr → Int32
  | [] => 0
  | (none, v) :: _ => (vlC ft v).getD 0
  | (some (l, r), v) :: B => match vlC ft l, vlC ft r with
    | some a, some b => if a.toInt < b.toInt then (vlC ft v).getD 0 else evB ft B
    | _, _ => 0
theorem vlC_2 {ft : Nat → Int32} {m : Nat} {L : zCs} (h : zWl L 0 m 1) (r : List Int32) : (vlC ft L = none ∧ evC ft L r = none) ∨ ∃ x, vlC ft L = some x ∧ evC ft L r = some (x :: r) := by
  rcases evC_sh (ft := ft) (r := r) L 0 [] rfl h with ⟨h1, h2⟩ | ⟨st', h1, h2, h3⟩
  · left
    unfold vlC
    rw [h1]
    exact ⟨rfl, h2⟩
  · cases st' with
    | nil => rw [List.length_nil] at h2; omega
    | cons x st' =>
      cases st' with
      | nil =>
        right
        unfold vlC
        rw [h1]
        exact ⟨x, rfl, h3⟩
      | cons y st' => rw [List.length_cons, List.length_cons] at h2; omega
theorem ofI {x : Int32} {v : Int} (h : x.toInt = v) : x = Int32.ofInt v := by rw [← h, Int32.ofInt_toInt]
