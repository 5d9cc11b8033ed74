/-! A LAW ASKED OF THE CLASS -/
/-- what a law is that no text tells -/
def dfl : Nat → Int × Int
  | 0 => (1, 0)
  | 1 => (0, 0)
  | 2 => (1, 1)
  | 3 => (1, 4)
  | _ => (1, 2)
def lwB (v : Nat) : Option (List zBr) → List zBr
  | none => [(none, [dfl v])]
  | some B => B
/-- how the class holds a law -/
def zLc (A6 A7 A9 : Nat) (t : zS) (K v : Nat) (g : Option (List zBr)) : Prop := okB (lwB v g) ∧ ∃ i : Nat, (t.1 A9 v).toInt = i ∧ zHo A6 A7 t i (cBr i (lwB v g)) ∧ i + (cBr i (lwB v g)).length ≤ K
theorem okB_d (v : Nat) : okB [(none, [dfl v])] := by
  match v with
  | 0 => exact Or.inl ⟨Or.inr ⟨rfl, by decide, by decide⟩, by decide, rfl⟩
  | 1 => exact Or.inl ⟨Or.inl ⟨rfl, by decide⟩, by decide, rfl⟩
  | 2 => exact Or.inl ⟨Or.inr ⟨rfl, by decide, by decide⟩, by decide, rfl⟩
  | 3 => exact Or.inl ⟨Or.inr ⟨rfl, by decide, by decide⟩, by decide, rfl⟩
  | _ + 4 => exact Or.inl ⟨Or.inr ⟨rfl, (by decide : (0 : Int) ≤ 2), (by decide : (2 : Int) < 9)⟩, by decide, rfl⟩
section LAWC2
variable {a tt A F A6 A7 A9 K : Nat} {p2 : Int32} {ft : Nat → Int32} {t0 : zS}
theorem cLawA (E : zEc a tt A F A6 A7 K ft t0) (h9 : (t0.2.2 tt 9).getD 0 = A9) {v : Nat} (hp : p2.toInt = v) {g : Option (List zBr)} (h : zLc A6 A7 A9 t0 K v g) : ∃ τ', F_X0_answer a tt p2 t0 = (evB ft (lwB v g), τ') ∧ zFr (fun c _ => c = A) t0 τ' := by
  obtain ⟨ho, i, h1, h2, h3⟩ := h
  have w : p2.toNatClampNeg = v := by rw [ztn, hp]; rfl
  have e0 : (0 : Int32).toInt = 0 := by decide
  unfold F_X0_answer
  simp only [zlt, h9, w]
  exact cLawV E (lwB v g) i 10000 0 0 (t0.1 A9 v) 0 t0 ho h2 h3 ⟨e0, Nat.zero_le _, by omega, h1, e0, trivial, zFr.id⟩
/-- told or not: the same worth -/
theorem lwV_e {v : Nat} {d : Int32} (g : Option (List zBr)) (hd : d = evB ft [(none, [dfl v])]) : lwV ft d g = evB ft (lwB v g) := by
  cases g with
  | none => exact hd
  | some B => rfl
theorem lwV_0 : evB ft [(none, [dfl 0])] = ft 0 := rfl
theorem lwV_1 : evB ft [(none, [dfl 1])] = 0 := by
  show Int32.ofInt 0 = 0
  decide
theorem lwV_2 : evB ft [(none, [dfl 2])] = ft 1 := rfl
theorem lwV_3 : evB ft [(none, [dfl 3])] = ft 4 := rfl
theorem lwV_4 : evB ft [(none, [dfl 4])] = ft 2 := rfl
end LAWC2
