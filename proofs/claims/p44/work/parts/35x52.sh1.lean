/-! TREES: each place but 0 runs into another one, by a rank -/
def zTr (N : Nat) (u : Nat → Nat) : Prop := ∃ q : Nat → Nat, ∀ c, 1 ≤ c → c < N → u c < N ∧ q (u c) < q c
def up (u : Nat → Nat) : Nat → Nat → Nat
  | 0, c => c
  | k + 1, c => if up u k c = 0 then 0 else u (up u k c)
/-- j's water comes by t -/
def An (u : Nat → Nat) (t j : Nat) : Prop := ∃ k, up u k j = t
noncomputable def cnt (P : Nat → Prop) : Nat → Nat
  | 0 => 0
  | n + 1 => cnt P n + @ite Nat (P n) (Classical.propDecidable _) 1 0
section TREE
variable {N : Nat} {u : Nat → Nat} {a b c j t : Nat}
theorem up_1 : ∀ k, up u (k + 1) c = if c = 0 then 0 else up u k (u c) := by
  intro k
  induction k with
  | zero => rfl
  | succ k ih =>
    show (if up u (k + 1) c = 0 then 0 else u (up u (k + 1) c)) = _
    rw [ih]
    by_cases h : c = 0
    · rw [if_pos h, if_pos rfl, if_pos h]
    · rw [if_neg h, if_neg h]
      rfl
theorem up_0 : ∀ k, up u k 0 = 0 := by
  intro k
  induction k with
  | zero => rfl
  | succ k ih => rw [up_1, if_pos rfl]
theorem up_add : ∀ k m, up u (k + m) c = up u k (up u m c) := by
  intro k m
  induction k with
  | zero => rw [Nat.zero_add]; rfl
  | succ k ih =>
    rw [Nat.succ_add]
    show (if up u (k + m) c = 0 then 0 else u (up u (k + m) c)) = (if up u k (up u m c) = 0 then 0 else u (up u k (up u m c)))
    rw [ih]
theorem An_0 : An u t 0 ↔ t = 0 := ⟨fun ⟨k, h⟩ => by rw [up_0] at h; exact h.symm, fun h => ⟨0, h.symm⟩⟩
theorem An_s (hc : c ≠ 0) : An u t c ↔ t = c ∨ An u t (u c) := by
  constructor
  · rintro ⟨k, h⟩
    cases k with
    | zero => exact Or.inl h.symm
    | succ k =>
      rw [up_1, if_neg hc] at h
      exact Or.inr ⟨k, h⟩
  · rintro (h | ⟨k, h⟩)
    · exact ⟨0, h.symm⟩
    · exact ⟨k + 1, by rw [up_1, if_neg hc]; exact h⟩
theorem An_rf : An u c c := ⟨0, rfl⟩
theorem An_tr (h : An u a b) (g : An u b c) : An u a c := by
  obtain ⟨k, hk⟩ := h
  obtain ⟨m, hm⟩ := g
  exact ⟨k + m, by rw [up_add, hm, hk]⟩
/-- of two on one way, one is on the other's -/
theorem An_or (h : An u a j) (g : An u b j) : An u a b ∨ An u b a := by
  obtain ⟨k, hk⟩ := h
  obtain ⟨m, hm⟩ := g
  by_cases c : k ≤ m
  · right
    refine ⟨m - k, ?_⟩
    rw [← hk, ← up_add, show m - k + k = m by omega]
    exact hm
  · left
    refine ⟨k - m, ?_⟩
    rw [← hm, ← up_add, show k - m + m = k by omega]
    exact hk
theorem zTr.ind (h : zTr N u) (P : Nat → Prop) (h0 : P 0) (hs : ∀ c, 1 ≤ c → c < N → P (u c) → P c) : ∀ c, c < N → P c := by
  obtain ⟨q, hq⟩ := h
  have key : ∀ n c, q c < n → c < N → P c := by
    intro n
    induction n with
    | zero => intro c h; exact absurd h (by omega)
    | succ n ih =>
      intro c h1 h2
      by_cases e : c = 0
      · rw [e]; exact h0
      · obtain ⟨z1, z2⟩ := hq c (by omega) h2
        exact hs c (by omega) h2 (ih (u c) (by omega) z1)
  exact fun c hc => key (q c + 1) c (by omega) hc
theorem zTr.lt (h : zTr N u) (hN : 0 < N) : ∀ j, j < N → ∀ t, An u t j → t < N := by
  refine h.ind _ (fun t ht => by rw [An_0.mp ht]; exact hN) (fun c h1 h2 ih t ht => ?_)
  rcases (An_s (by omega)).mp ht with e | e
  · rw [e]; exact h2
  · exact ih t e
theorem zTr.u_lt (h : zTr N u) (h1 : 1 ≤ c) (h2 : c < N) : u c < N := by
  obtain ⟨q, hq⟩ := h
  exact (hq c h1 h2).1
/-- the way up is no way down -/
theorem zTr.acyc (h : zTr N u) (h1 : 1 ≤ c) (h2 : c < N) : ¬ An u c (u c) := by
  obtain ⟨q, hq⟩ := id h
  have key : ∀ j, j < N → ∀ t, An u t j → t = j ∨ q t < q j := h.ind _ (fun t ht => Or.inl (An_0.mp ht)) (fun c h1 h2 ih t ht => by
    rcases (An_s (by omega)).mp ht with e | e
    · exact Or.inl e
    · have := hq c h1 h2
      rcases ih t e with z | z
      · rw [z]; exact Or.inr this.2
      · exact Or.inr (by omega))
  intro z
  have := hq c h1 h2
  rcases key (u c) this.1 c z with e | e
  · rw [← e] at this; omega
  · omega
/-- one child on a way -/
theorem zTr.one (h : zTr N u) {c' : Nat} (h1 : 1 ≤ c) (h2 : c < N) (h1' : 1 ≤ c') (h2' : c' < N) (e : u c = u c') (g : An u c j) (g' : An u c' j) : c = c' := by
  have key : ∀ {a b : Nat}, 1 ≤ a → a < N → 1 ≤ b → b < N → u a = u b → An u a b → a = b := fun {a b} a1 a2 b1 b2 e g => by
    rcases (An_s (by omega)).mp g with z | z
    · exact z
    · rw [← e] at z
      exact absurd z (h.acyc a1 a2)
  rcases An_or g g' with z | z
  · exact key h1 h2 h1' h2' e z
  · exact (key h1' h2' h1 h2 e.symm z).symm
/-- two that go the same way by the same rule are one -/
theorem zTr.uniq {α : Type} {f g : Nat → α} (h : zTr N u) (h0 : f 0 = g 0) (hs : ∀ c, 1 ≤ c → c < N → f (u c) = g (u c) → f c = g c) : ∀ c, c < N → f c = g c := h.ind (fun c => f c = g c) h0 hs
theorem zTr.cg {v : Nat → Nat} (h : zTr N u) (e : ∀ c, 1 ≤ c → c < N → v c = u c) : zTr N v := by
  obtain ⟨q, hq⟩ := h
  exact ⟨q, fun c h1 h2 => by rw [e c h1 h2]; exact hq c h1 h2⟩
theorem An_cg {v : Nat → Nat} (h : zTr N u) (e : ∀ c, 1 ≤ c → c < N → v c = u c) : ∀ j, j < N → ∀ t, An v t j ↔ An u t j := h.ind _ (fun t => by rw [An_0, An_0]) (fun c h1 h2 ih t => by rw [An_s (u := v) (c := c) (by omega), An_s (u := u) (c := c) (by omega), e c h1 h2, ih t])
end TREE
section COUNT
variable {P Q : Nat → Prop} {n : Nat}
theorem cnt_cg : ∀ n, (∀ j, j < n → (P j ↔ Q j)) → cnt P n = cnt Q n := by
  intro n
  induction n with
  | zero => intro _; rfl
  | succ n ih =>
    intro h
    rw [cnt, cnt, ih (fun j hj => h j (by omega))]
    by_cases c : P n
    · rw [if_pos c, if_pos ((h n (by omega)).mp c)]
    · rw [if_neg c, if_neg (fun z => c ((h n (by omega)).mpr z))]
theorem cnt_or : ∀ n, (∀ j, j < n → ¬ (P j ∧ Q j)) → cnt (fun j => P j ∨ Q j) n = cnt P n + cnt Q n := by
  intro n
  induction n with
  | zero => intro _; rfl
  | succ n ih =>
    intro h
    rw [cnt, cnt, cnt, ih (fun j hj => h j (by omega))]
    by_cases c : P n
    · have d : ¬ Q n := fun z => h n (by omega) ⟨c, z⟩
      rw [if_pos (Or.inl c), if_pos c, if_neg d]
      omega
    · by_cases d : Q n
      · rw [if_pos (Or.inr d), if_neg c, if_pos d]
        omega
      · rw [if_neg (fun z => z.elim c d), if_neg c, if_neg d]
        omega
theorem cnt_le : ∀ n, cnt P n ≤ n := by
  intro n
  induction n with
  | zero => exact Nat.le_refl _
  | succ n ih =>
    rw [cnt]
    by_cases c : P n
    · rw [if_pos c]; omega
    · rw [if_neg c]; omega
theorem cnt_0 : ∀ n, (∀ j, j < n → ¬ P j) → cnt P n = 0 := by
  intro n
  induction n with
  | zero => intro _; rfl
  | succ n ih =>
    intro h
    rw [cnt, ih (fun j hj => h j (by omega)), if_neg (h n (by omega))]
theorem cnt_1 {k : Nat} : ∀ n, cnt (fun j => j = k) n = if k < n then 1 else 0 := by
  intro n
  induction n with
  | zero => rw [if_neg (by omega)]; rfl
  | succ n ih =>
    rw [cnt, ih]
    by_cases c : n = k
    · rw [if_pos c, if_neg (by omega), if_pos (by omega)]
    · rw [if_neg c]
      by_cases d : k < n
      · rw [if_pos d, if_pos (by omega)]
      · rw [if_neg d, if_neg (by omega)]
theorem cnt_p {k : Nat} : ∀ n, k < n → P k → 0 < cnt P n := by
  intro n
  induction n with
  | zero => intro h; exact absurd h (by omega)
  | succ n ih =>
    intro h hp
    rw [cnt]
    by_cases c : k = n
    · subst c
      rw [if_pos hp]
      omega
    · have := ih (by omega) hp
      omega
/-- n unlike numbers below n are all of them -/
theorem pigeon : ∀ (n : Nat) (f : Nat → Nat), (∀ i, i < n → f i < n) → (∀ i j, i < n → j < n → f i = f j → i = j) → ∀ q, q < n → ∃ i, i < n ∧ f i = q := by
  intro n
  induction n with
  | zero => intro f _ _ q h; exact absurd h (by omega)
  | succ n ih =>
    intro f hf hi q hq
    apply Classical.byContradiction
    intro no
    have ne : ∀ i, i < n + 1 → f i ≠ q := fun i h e => no ⟨i, h, e⟩
    obtain ⟨g, hg⟩ : ∃ g : Nat → Nat, g = fun i => if f i < q then f i else f i - 1 := ⟨_, rfl⟩
    have ge : ∀ i, (f i < q ∧ g i = f i) ∨ (¬ f i < q ∧ g i = f i - 1) := fun i => by
      rw [hg]
      by_cases c : f i < q
      · exact Or.inl ⟨c, if_pos c⟩
      · exact Or.inr ⟨c, if_neg c⟩
    have inj : ∀ i j, i < n + 1 → j < n + 1 → g i = g j → i = j := fun i j h1 h2 e => by
      have a := ge i
      have b := ge j
      have c := ne i h1
      have d := ne j h2
      exact hi i j h1 h2 (by omega)
    have lt : ∀ i, i < n + 1 → g i < n := fun i h1 => by
      have a := ge i
      have b := ne i h1
      have c := hf i h1
      omega
    obtain ⟨i, h1, h2⟩ := ih g (fun i h => lt i (by omega)) (fun i j h1 h2 => inj i j (by omega) (by omega)) (g n) (lt n (by omega))
    have := inj i n (by omega) (by omega) h2
    omega
end COUNT
/-- the tree of a row -/
def uOf (r : Nat → Int32) : Nat → Nat := fun c => (r c).toInt.toNat
section UOF
variable {N : Nat} {r r' : Nat → Int32}
theorem zRow.tr (h : zRow N r) : zTr N (uOf r) := by
  obtain ⟨q, h1, -⟩ := h
  refine ⟨fun c => q (c : Int), fun c c1 c2 => ?_⟩
  obtain ⟨a, b, d⟩ := h1 c c1 c2
  unfold uOf
  refine ⟨by omega, ?_⟩
  show q (((r c).toInt.toNat : Nat) : Int) < q c
  rw [show (((r c).toInt.toNat : Nat) : Int) = (r c).toInt by omega]
  exact d
theorem zRow.u (h : zRow N r) {c : Nat} (c1 : 1 ≤ c) (c2 : c < N) : (r c).toInt = uOf r c := by
  obtain ⟨q, h1, -⟩ := h
  have := h1 c c1 c2
  unfold uOf
  omega
theorem pa_up (h : zRow N r) (hN : N ≤ 12) {j : Nat} (hj : j < N) : ∀ k, (pa r k (nI j)).toInt = up (uOf r) k j := by
  intro k
  have i0 : (nI j).toInt = (j : Int) := nI_t (by omega)
  induction k with
  | zero => exact i0
  | succ k ih =>
    obtain ⟨z0, z1⟩ := pa_in (p := nI j) h (by omega) (by omega) k
    show (stp r (pa r k (nI j))).toInt = ((if up (uOf r) k j = 0 then 0 else uOf r (up (uOf r) k j) : Nat) : Int)
    unfold stp
    by_cases c : 0 < (pa r k (nI j)).toInt
    · rw [if_pos c, if_neg (by omega)]
      have e : (pa r k (nI j)).toNatClampNeg = up (uOf r) k j := by rw [ztn, ih]; rfl
      rw [e]
      exact h.u (by omega) (by omega)
    · rw [if_neg c, if_pos (by omega)]
      omega
theorem pa_An (h : zRow N r) (hN : N ≤ 12) {j t : Nat} (hj : j < N) : (∃ k, (pa r k (nI j)).toInt = (t : Int)) ↔ An (uOf r) t j := by
  constructor
  · rintro ⟨k, hk⟩
    rw [pa_up h hN hj] at hk
    exact ⟨k, by omega⟩
  · rintro ⟨k, hk⟩
    exact ⟨k, by rw [pa_up h hN hj, hk]⟩
theorem uOf_cg (e : ∀ c, 1 ≤ c → c < N → r' c = r c) : ∀ c, 1 ≤ c → c < N → uOf r' c = uOf r c := fun c c1 c2 => by unfold uOf; rw [e c c1 c2]
end UOF
