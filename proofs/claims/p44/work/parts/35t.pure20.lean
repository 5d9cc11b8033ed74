/-! THE REFERENCE'S READ -/
noncomputable def zRi (a0 : Nat) (t16 : zS) : zS :=
  zLet ((0 : Int32)) fun v20 =>
  zLet ((zu t16.1 a0 11 v20, t16.2.1, t16.2.2)) fun s21 =>
  zLet ((0 : Int32)) fun v26 =>
  zLet ((zu s21.1 a0 12 v26, s21.2.1, s21.2.2)) fun s27 =>
  zLet ((0 : Int32)) fun v33 =>
  zLet ((zu s27.1 a0 13 v33, s27.2.1, s27.2.2)) fun s35 =>
  zLet ((0 : Int32)) fun v42 =>
  zLet ((zu s35.1 a0 15 v42, s35.2.1, s35.2.2)) fun s43 =>
  zLet ((1 : Int32)) fun v51 =>
  zLet (s43.1 a0 18) fun v52 =>
  zLet (v51 - v52) fun v53 =>
  zLet ((zu s43.1 a0 19 v53, s43.2.1, s43.2.2)) fun s54 =>
  zLet (s54.1 a0 19) fun v64 =>
  zLet (F_X11_plain a0 v64 s54) fun t65 =>
  zLet ((130 : Int32)) fun v75 =>
  zLet (t65.1 a0 19) fun v76 =>
  zLet (v75 * v76) fun v77 =>
  zLet ((zu t65.1 a0 32 v77, t65.2.1, t65.2.2)) fun s78 =>
  zLet ((420 : Int32)) fun v89 =>
  zLet (s78.1 a0 19) fun v90 =>
  zLet (v89 * v90) fun v91 =>
  zLet ((zu s78.1 a0 38 v91, s78.2.1, s78.2.2)) fun s92 =>
  zLet ((0 : Int32)) fun v104 =>
  zLet ((zu s92.1 a0 41 v104, s92.2.1, s92.2.2)) fun s105 =>
  zLet ((0 : Int32)) fun v118 =>
  zLet ((zu s105.1 a0 42 v118, s105.2.1, s105.2.2)) fun s119 =>
  s119

theorem znb (x : Int32) (h : -128 ≤ x.toInt ∧ x.toInt ≤ 127) : vp_nar .byte x = x := by
  show x.toInt8.toInt32 = x
  refine Int32.toInt_inj.mp ?_
  rw [Int8.toInt_toInt32, Int32.toInt_toInt8]
  exact Int.bmod_eq_of_le (by omega) (by omega)
def zPf (a : Nat) (σ σ' : zS) : Prop := σ'.2 = σ.2 ∧ ∀ c, (∀ j, zQs j → (σ.2.2 a j).getD 0 ≠ c) → σ'.1 c = σ.1 c
theorem zPf.tr {a : Nat} {σ σ1 σ2 : zS} (h : zPf a σ σ1) (g : zPf a σ1 σ2) : zPf a σ σ2 := ⟨g.1.trans h.1, fun c hc => by
  have q := g.2 c
  rw [h.1] at q
  exact (q hc).trans (h.2 c hc)⟩
theorem pArr {a : Nat} {σ : zS} (j i : Nat) (v : Int32) (hj : zQs j) : zPf a σ (zu σ.1 ((σ.2.2 a j).getD 0) i v, σ.2.1, σ.2.2) := ⟨rfl, fun c hc => zu_n _ _ _ (fun z => hc j hj z.symm)⟩
theorem pPlain_l {a : Nat} {p : Int32} : ∀ (n : Nat) (x : Int32) (τ : zS), zPf a τ (F_X11_plain_37 a p n x τ) := by
  intro n
  induction n with
  | zero => intro x τ; exact ⟨rfl, fun _ _ => rfl⟩
  | succ n ih =>
    intro x τ
    have q30 : zQs 30 := by unfold zQs; omega
    have q31 : zQs 31 := by unfold zQs; omega
    rw [F_X11_plain_37]
    simp only [zlt]
    split
    · exact ((pArr 30 _ _ q30).tr (pArr 31 _ _ q31)).tr (ih _ _)
    · exact ⟨rfl, fun _ _ => rfl⟩
theorem pPlain {a : Nat} {p : Int32} {σ : zS} : zPf a σ (F_X11_plain a p σ) := by
  have q21 : zQs 21 := by unfold zQs; omega
  have q26 : zQs 26 := by unfold zQs; omega
  have q27 : zQs 27 := by unfold zQs; omega
  have q28 : zQs 28 := by unfold zQs; omega
  have q29 : zQs 29 := by unfold zQs; omega
  unfold F_X11_plain
  simp only [zlt]
  exact (((((pArr 21 _ _ q21).tr (pArr 26 _ _ q26)).tr (pArr 27 _ _ q27)).tr (pArr 28 _ _ q28)).tr (pArr 29 _ _ q29)).tr (pPlain_l _ _ _)
theorem zRi_f {a k q v : Nat} {t : zS} (hk : k ≠ a) (hq : q ≠ a) (hv : v ≠ a) (hs : ∀ j, zQs j → (t.2.2 a j).getD 0 ≠ a ∧ (t.2.2 a j).getD 0 ≠ k ∧ (t.2.2 a j).getD 0 ≠ q ∧ (t.2.2 a j).getD 0 ≠ v) :
    (zRi a t).2 = t.2 ∧ (zRi a t).1 k = t.1 k ∧ (zRi a t).1 q = t.1 q ∧ (zRi a t).1 v = t.1 v ∧ ∀ j, (j = 11 ∨ j = 12 ∨ j = 13 ∨ j = 15 ∨ j = 41 ∨ j = 42) → ((zRi a t).1 a j).toInt = 0 := by
  have e0 : (0 : Int32).toInt = 0 := by decide
  unfold zRi
  simp only [zlt]
  generalize hp : (1 : Int32) - _ = p
  generalize hp2 : zu (zu (zu (zu (zu t.1 a 11 0) a 12 0) a 13 0) a 15 0) a 19 p a 19 = p2
  generalize hX : F_X11_plain a p2 (zu (zu (zu (zu (zu t.1 a 11 0) a 12 0) a 13 0) a 15 0) a 19 p, t.2.1, t.2.2) = C
  have f := pPlain (a := a) (p := p2) (σ := (zu (zu (zu (zu (zu t.1 a 11 0) a 12 0) a 13 0) a 15 0) a 19 p, t.2.1, t.2.2))
  rw [hX] at f
  have fa := f.2 a (fun j hj => (hs j hj).1)
  have fk := f.2 k (fun j hj => (hs j hj).2.1)
  have fq := f.2 q (fun j hj => (hs j hj).2.2.1)
  have fv := f.2 v (fun j hj => (hs j hj).2.2.2)
  have n5 : ∀ c, c ≠ a → (zu (zu (zu (zu (zu t.1 a 11 0) a 12 0) a 13 0) a 15 0) a 19 p, t.2.1, t.2.2).1 c = t.1 c := fun c hc => by
    show zu (zu (zu (zu (zu t.1 a 11 0) a 12 0) a 13 0) a 15 0) a 19 p c = _
    rw [zu_n _ _ _ hc, zu_n _ _ _ hc, zu_n _ _ _ hc, zu_n _ _ _ hc, zu_n _ _ _ hc]
  refine ⟨f.1, ?_, ?_, ?_, fun j hj => ?_⟩
  · rw [zu_n _ _ _ hk, zu_n _ _ _ hk, zu_n _ _ _ hk, zu_n _ _ _ hk, fk]; exact n5 k hk
  · rw [zu_n _ _ _ hq, zu_n _ _ _ hq, zu_n _ _ _ hq, zu_n _ _ _ hq, fq]; exact n5 q hq
  · rw [zu_n _ _ _ hv, zu_n _ _ _ hv, zu_n _ _ _ hv, zu_n _ _ _ hv, fv]; exact n5 v hv
  · have fj : ∀ j, C.1 a j = zu (zu (zu (zu (zu t.1 a 11 0) a 12 0) a 13 0) a 15 0) a 19 p a j := fun j => by rw [fa]
    have out : ∀ j, j ≠ 32 → j ≠ 38 → j ≠ 41 → j ≠ 42 → ∀ x y, zu (zu (zu (zu C.1 a 32 x) a 38 y) a 41 0) a 42 0 a j = C.1 a j := fun j h1 h2 h3 h4 x y => by rw [zu_j _ _ _ _ _ (fun z => h4 z.symm), zu_j _ _ _ _ _ (fun z => h3 z.symm), zu_j _ _ _ _ _ (fun z => h2 z.symm), zu_j _ _ _ _ _ (fun z => h1 z.symm)]
    rcases hj with z | z | z | z | z | z <;> subst z
    · rw [out 11 (by decide) (by decide) (by decide) (by decide), fj, zu_j _ _ _ _ _ (by decide), zu_j _ _ _ _ _ (by decide), zu_j _ _ _ _ _ (by decide), zu_j _ _ _ _ _ (by decide), zu_s]; exact e0
    · rw [out 12 (by decide) (by decide) (by decide) (by decide), fj, zu_j _ _ _ _ _ (by decide), zu_j _ _ _ _ _ (by decide), zu_j _ _ _ _ _ (by decide), zu_s]; exact e0
    · rw [out 13 (by decide) (by decide) (by decide) (by decide), fj, zu_j _ _ _ _ _ (by decide), zu_j _ _ _ _ _ (by decide), zu_s]; exact e0
    · rw [out 15 (by decide) (by decide) (by decide) (by decide), fj, zu_j _ _ _ _ _ (by decide), zu_s]; exact e0
    · rw [zu_j _ _ _ _ _ (by decide), zu_s]; exact e0
    · rw [zu_s]; exact e0
theorem rcopy {a x bt n : Nat} (hxa : x ≠ a) (hbx : bt ≠ x) (hn2 : n ≤ 2000) : ∀ (fu : Nat) (x7 : Int32) (j : Nat) (τ : zS), x7.toInt = j → j ≤ n → n - j < fu → τ.2.2 a 3 = some x → τ.2.2 a 1 = some bt → (τ.1 a 4).toInt = n → (∀ i, -128 ≤ (τ.1 bt i).toInt ∧ (τ.1 bt i).toInt ≤ 127) →
    ∃ (f : Nat) (y : Int32) (τ' : zS), F_X11_read_10 a fu x7 τ = F_X11_read_117 y a (F_X11_read_10 a f) 10000 (zRi a (F_X11_cut a (zu τ'.1 a 2 0, τ'.2.1, τ'.2.2))) ∧ τ'.2 = τ.2 ∧ (∀ b, b ≠ x → τ'.1 b = τ.1 b) ∧ (∀ i, i < j → τ'.1 x i = τ.1 x i) ∧ (∀ i, j ≤ i → i < n → τ'.1 x i = τ.1 bt i) ∧ ∀ i, n ≤ i → τ'.1 x i = τ.1 x i := by
  intro fu
  induction fu with
  | zero => intro x7 j τ _ _ h; exact absurd h (by omega)
  | succ fu ih =>
    intro x7 j τ hx hj hm r3 r1 h4 hb
    by_cases c : j < n
    · have g3 : (τ.2.2 a 3).getD 0 = x := by rw [r3]; rfl
      have g1 : (τ.2.2 a 1).getD 0 = bt := by rw [r1]; rfl
      have ej : x7.toNatClampNeg = j := by rw [ztn, hx]; rfl
      obtain ⟨f, y, τ', u1, u2, u3, u4, u5, u6⟩ := ih (x7 + (1 : Int32)) (j + 1) (zu τ.1 x j (τ.1 bt j), τ.2.1, τ.2.2) (zp1 hx (by omega)) (by omega) (by omega) r3 r1 (by show (zu τ.1 x j _ a 4).toInt = _; rw [zu_n _ _ _ (fun z => hxa z.symm)]; exact h4) (fun i => by show -128 ≤ (zu τ.1 x j _ bt i).toInt ∧ (zu τ.1 x j _ bt i).toInt ≤ 127; rw [zu_n _ _ _ hbx]; exact hb i)
      refine ⟨f, y, τ', ?_, u2, fun b h => (u3 b h).trans (zu_n _ _ _ h), fun i hi => (u4 i (by omega)).trans (zu_j _ _ _ _ _ (by omega)), fun i h1 h2 => ?_, fun i hi => (u6 i hi).trans (zu_j _ _ _ _ _ (by omega))⟩
      · rw [F_X11_read_10]
        simp only [zlt, g3, g1, ej]
        rw [if_pos (by omega), znb _ (hb j)]
        exact u1
      · by_cases e : i = j
        · subst e
          exact (u4 i (by omega)).trans (zu_s _ _ _ _)
        · refine (u5 i (by omega) h2).trans ?_
          show zu τ.1 x j _ bt i = _
          rw [zu_n _ _ _ hbx]
    · refine ⟨fu, x7, τ, ?_, rfl, fun _ _ => rfl, fun _ _ => rfl, fun i h1 h2 => absurd h2 (by omega), fun _ _ => rfl⟩
      rw [F_X11_read_10]
      unfold zRi
      simp only [zlt]
      rw [if_neg (by omega)]
