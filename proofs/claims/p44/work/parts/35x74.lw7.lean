/-! A LAW OF THE REFERENCE: its branches -/
/-- codes from lo to hi, all ahead of M, none ahead of cl -/
def zSg (Y : Nat → Nat) (cl : Nat) (τ : zS) (M : Nat) (lo hi : Int32) (L : zCs) : Prop := ∃ i : Nat, lo.toInt = i ∧ hi.toInt = i + L.length ∧ zHo (Y 39) (Y 40) τ i L ∧ i + L.length ≤ M ∧ cl ≤ i
/-- one branch -/
def zB1 (Y : Nat → Nat) (cl : Nat) (τ : zS) (M b : Nat) : zBr → Prop
  | (none, v) => (τ.1 (Y 33) b).toInt = 0 ∧ zSg Y cl τ M (τ.1 (Y 36) b) (τ.1 (Y 37) b) v
  | (some (l, r), v) => (τ.1 (Y 33) b).toInt = 1 ∧ zSg Y cl τ M (τ.1 (Y 34) b) (τ.1 (Y 35) b) l ∧ zSg Y cl τ M (τ.1 (Y 35) b) (τ.1 (Y 36) b) r ∧ zSg Y cl τ M (τ.1 (Y 36) b) (τ.1 (Y 37) b) v
/-- the branches from b on -/
def zBz (Y : Nat → Nat) (cl : Nat) (τ : zS) (M : Nat) : Nat → List zBr → Prop
  | _, [] => True
  | b, x :: B => zB1 Y cl τ M b x ∧ zBz Y cl τ M (b + 1) B
section BZ
variable {Y : Nat → Nat} {τ τ' : zS} {M M' cl : Nat}
theorem zSg.cg {lo hi : Int32} {L : zCs} (h : zSg Y cl τ M lo hi L) (hM : M ≤ M') (e : ∀ i, cl ≤ i → i < M → τ'.1 (Y 39) i = τ.1 (Y 39) i ∧ τ'.1 (Y 40) i = τ.1 (Y 40) i) : zSg Y cl τ' M' lo hi L := by
  obtain ⟨i, h1, h2, h3, h4, h5⟩ := h
  exact ⟨i, h1, h2, zHo_cg L i (fun j j1 j2 => e j (by omega) (by omega)) h3, by omega, h5⟩
theorem zB1.cg {b : Nat} {x : zBr} (h : zB1 Y cl τ M b x) (hM : M ≤ M') (e : ∀ i, cl ≤ i → i < M → τ'.1 (Y 39) i = τ.1 (Y 39) i ∧ τ'.1 (Y 40) i = τ.1 (Y 40) i) (r : ∀ j, 33 ≤ j → j ≤ 37 → τ'.1 (Y j) b = τ.1 (Y j) b) : zB1 Y cl τ' M' b x := by
  obtain ⟨o, v⟩ := x
  cases o with
  | none =>
    obtain ⟨h1, h2⟩ := h
    refine ⟨?_, ?_⟩
    · rw [r 33 (by omega) (by omega)]
      exact h1
    · rw [r 36 (by omega) (by omega), r 37 (by omega) (by omega)]
      exact h2.cg hM e
  | some lr =>
    obtain ⟨l, q⟩ := lr
    obtain ⟨h1, h2, h3, h4⟩ := h
    refine ⟨?_, ?_, ?_, ?_⟩
    · rw [r 33 (by omega) (by omega)]
      exact h1
    · rw [r 34 (by omega) (by omega), r 35 (by omega) (by omega)]
      exact h2.cg hM e
    · rw [r 35 (by omega) (by omega), r 36 (by omega) (by omega)]
      exact h3.cg hM e
    · rw [r 36 (by omega) (by omega), r 37 (by omega) (by omega)]
      exact h4.cg hM e
theorem zBz_cg (hM : M ≤ M') (e : ∀ i, cl ≤ i → i < M → τ'.1 (Y 39) i = τ.1 (Y 39) i ∧ τ'.1 (Y 40) i = τ.1 (Y 40) i) : ∀ (B : List zBr) (b : Nat), (∀ j i, 33 ≤ j → j ≤ 37 → b ≤ i → i < b + B.length → τ'.1 (Y j) i = τ.1 (Y j) i) → zBz Y cl τ M b B → zBz Y cl τ' M' b B := by
  intro B
  induction B with
  | nil => intro b _ _; exact trivial
  | cons x B ih =>
    intro b r h
    exact ⟨h.1.cg hM e (fun j j1 j2 => r j b j1 j2 (Nat.le_refl _) (by rw [List.length_cons]; omega)), ih (b + 1) (fun j i j1 j2 i1 i2 => r j i j1 j2 (by omega) (by rw [List.length_cons]; omega)) h.2⟩
theorem zBz_app : ∀ (B C : List zBr) (b : Nat), zBz Y cl τ M b B → zBz Y cl τ M (b + B.length) C → zBz Y cl τ M b (B ++ C) := by
  intro B
  induction B with
  | nil => intro C b _ h; exact h
  | cons x B ih =>
    intro C b h g
    refine ⟨h.1, ih C (b + 1) h.2 ?_⟩
    rw [List.length_cons] at g
    rw [show b + 1 + B.length = b + (B.length + 1) by omega]
    exact g
end BZ
