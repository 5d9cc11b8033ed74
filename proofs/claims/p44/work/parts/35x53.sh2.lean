/-! THE CLASS' SHAPE: the places in line, how far, the ways -/
def zShD (sh A1 A2 A3 A4 A6 I : Nat) : Prop := (A1 ≠ sh ∧ A2 ≠ sh ∧ A3 ≠ sh ∧ A4 ≠ sh ∧ A6 ≠ sh ∧ I ≠ sh) ∧ (A2 ≠ A1 ∧ A3 ≠ A1 ∧ A4 ≠ A1 ∧ A6 ≠ A1) ∧ (A3 ≠ A2 ∧ A4 ≠ A2 ∧ A6 ≠ A2) ∧ (A4 ≠ A3 ∧ A6 ≠ A3) ∧ A6 ≠ A4 ∧ (I ≠ A2 ∧ I ≠ A3 ∧ I ≠ A4 ∧ I ≠ A6)
def zShR (sh co A1 A2 A3 A4 A6 I : Nat) (R : Nat → Nat → Option Nat) : Prop := (R sh 1).getD 0 = A1 ∧ (R sh 2).getD 0 = A2 ∧ (R sh 3).getD 0 = A3 ∧ (R sh 4).getD 0 = A4 ∧ (R sh 6).getD 0 = A6 ∧ (R co 0).getD 0 = I
/-- in line so far: m places (l), those that run into the first i of them, and of the i-th those below p -/
def zLn (N : Nat) (u : Nat → Nat) (A2 A3 A6 : Nat) (FR : Nat → Int32) (i p m : Nat) (l : Nat → Nat) (τ : zS) : Prop :=
  (1 ≤ m ∧ m ≤ N ∧ l 0 = 0) ∧ (∀ j, j < m → (τ.1 A2 j).toInt = l j ∧ l j < N ∧ τ.1 A3 (l j) = FR (l j) ∧ ∀ t, t < 32 → (bt (τ.1 A6 (l j)) t = true ↔ An u t (l j))) ∧ (∀ j j', j < m → j' < m → l j = l j' → j = j') ∧ (∀ j, 1 ≤ j → j < m → 1 ≤ l j ∧ ∃ j', j' < j ∧ l j' = u (l j)) ∧ ∀ q, 1 ≤ q → q < N → ((∃ j, j < m ∧ l j = q) ↔ ((∃ j, j < i ∧ l j = u q) ∨ (l i = u q ∧ q < p)))
def zB3 (A2 A3 A6 : Nat) : Nat → Nat → Prop := fun c _ => c = A2 ∨ c = A3 ∨ c = A6
section CFORM
variable {N sh co tt A1 A2 A3 A4 A6 I : Nat} {u : Nat → Nat} {FR ℓ : Nat → Int32} {s : zS}
set_option maxHeartbeats 1000000 in
theorem cForm1 (D : zShD sh A1 A2 A3 A4 A6 I) (hR : zShR sh co A1 A2 A3 A4 A6 I s.2.2) (hN : N ≤ 12) (hu : ∀ c, 1 ≤ c → c < N → (s.1 I c).toInt = u c) (hF : ∀ c, 1 ≤ c → c < N → FR c = FR (u c) + ℓ c) (hl : ∀ c, 1 ≤ c → c < N → s.1 A1 c = ℓ c) (h0 : (s.1 sh 0).toInt = N) {k : Int32 → Int32 → zS → zS} {i : Nat} {v x30 : Int32} : ∀ (n : Nat) (x : Int32) (p : Nat) (y : Int32) (m : Nat) (τ : zS) (l : Nat → Nat), x.toInt = p → 1 ≤ p → p ≤ N → N - p < n → y.toInt = m → i < m → v.toInt = l i → zFr (zB3 A2 A3 A6) s τ → zLn N u A2 A3 A6 FR i p m l τ → ∃ (y' : Int32) (m' : Nat) (τ' : zS) (l' : Nat → Nat), y'.toInt = m' ∧ i < m' ∧ zFr (zB3 A2 A3 A6) s τ' ∧ zLn N u A2 A3 A6 FR (i + 1) 1 m' l' τ' ∧ F_X6_form_81_1 v x30 sh tt co k n x y τ = k (x30 + (1 : Int32)) y' τ' := by
  obtain ⟨⟨d1, d2, d3, d4, d5, d6⟩, ⟨e2, e3, e4, e6⟩, ⟨f3, f4, f6⟩, ⟨g4, g6⟩, g7, ⟨i2, i3, i4, i6⟩⟩ := D
  obtain ⟨R1, R2, R3, R4, R6, RI⟩ := hR
  intro n
  induction n with
  | zero => intro x p y m τ l _ _ _ h; exact absurd h (by omega)
  | succ n ih =>
    intro x p y m τ l hx hp1 hpN hm hy him hv g h
    obtain ⟨⟨a1, a2, a3⟩, b, inj, ord, c5⟩ := id h
    have r0 : τ.2.2 = s.2.2 := g.rf
    have t0 : τ.1 sh 0 = s.1 sh 0 := g.2 _ _ (by
      rintro (z | z | z)
      · exact d2 z.symm
      · exact d3 z.symm
      · exact d5 z.symm)
    have tI : ∀ j, τ.1 I j = s.1 I j := fun j => g.2 _ _ (by
      rintro (z | z | z)
      · exact i2 z
      · exact i3 z
      · exact i6 z)
    have t1 : ∀ j, τ.1 A1 j = s.1 A1 j := fun j => g.2 _ _ (by
      rintro (z | z | z)
      · exact e2 z.symm
      · exact e3 z.symm
      · exact e6 z.symm)
    have nx : x.toNatClampNeg = p := by rw [ztn, hx]; rfl
    have ny : y.toNatClampNeg = m := by rw [ztn, hy]; rfl
    have nv : v.toNatClampNeg = l i := by rw [ztn, hv]; rfl
    -- the inner loop is over
    have over : (m = N ∨ p = N) → zLn N u A2 A3 A6 FR (i + 1) 1 m l τ := fun ho => ⟨⟨a1, a2, a3⟩, b, inj, ord, fun q q1 q2 => by
      rw [c5 q q1 q2]
      constructor
      · rintro (⟨j, j1, j2⟩ | ⟨j1, j2⟩)
        · exact Or.inl ⟨j, by omega, j2⟩
        · exact Or.inl ⟨i, by omega, j1⟩
      · rintro (⟨j, j1, j2⟩ | ⟨-, j2⟩)
        · by_cases e : j = i
          · rcases ho with ho | ho
            · have z : ∃ j, j < m ∧ l j = q := by
                obtain ⟨j', w1, w2⟩ := pigeon N l (fun j hj => (b j (by omega)).2.1) (fun j j' h1 h2 => inj j j' (by omega) (by omega)) q q2
                exact ⟨j', by omega, w2⟩
              exact (c5 q q1 q2).mp z
            · exact Or.inr ⟨by rw [← e]; exact j2, by omega⟩
          · exact Or.inl ⟨j, by omega, j2⟩
        · omega⟩
    rw [F_X6_form_81_1]
    simp only [zlt, r0, R1, R2, R3, R6, RI, t0, nx, ny, nv, tI, t1]
    by_cases cp : p < N
    · rw [if_pos (by omega)]
      by_cases cm : m < N
      · rw [if_pos (by omega)]
        have up' := hu p hp1 cp
        by_cases cu : u p = l i
        · rw [if_pos (by omega)]
          have new : ∀ j, j < m → l j ≠ p := fun j hj e => by
            rcases (c5 p hp1 cp).mp ⟨j, hj, e⟩ with ⟨j', w1, w2⟩ | ⟨-, w⟩
            · have := inj j' i (by omega) him (w2.trans cu)
              omega
            · omega
          obtain ⟨l', hl'⟩ : ∃ l' : Nat → Nat, l' = fun j => if j = m then p else l j := ⟨_, rfl⟩
          have lm : l' m = p := by rw [hl']; exact if_pos rfl
          have lo : ∀ j, j ≠ m → l' j = l j := fun j hj => by rw [hl']; exact if_neg hj
          obtain ⟨bi1, bi2, bi3, bi4⟩ := b i him
          refine ih (x + (1 : Int32)) (p + 1) (y + (1 : Int32)) (m + 1) _ l' (zp1 hx (by omega)) (by omega) (by omega) (by omega) (zp1 hy (by omega)) (by omega) (by rw [lo i (by omega)]; exact hv) (by rw [← r0]; exact ((g.w (r := A3) (j := p) (Or.inr (Or.inl rfl))).w (r := A6) (j := p) (Or.inr (Or.inr rfl))).w (r := A2) (j := m) (Or.inl rfl)) ⟨⟨by omega, by omega, by rw [lo 0 (by omega)]; exact a3⟩, fun j hj => ?_, fun j j' h1 h2 e => ?_, fun j h1 h2 => ?_, fun q q1 q2 => ?_⟩
          · by_cases ej : j = m
            · subst ej
              rw [lm]
              refine ⟨?_, cp, ?_, fun t ht => ?_⟩
              · show (zu _ A2 j x A2 j).toInt = _
                rw [zu_s]; exact hx
              · show zu (zu (zu τ.1 A3 p _) A6 p _) A2 j x A3 p = _
                rw [zu_n _ _ _ f3, zu_n _ _ _ (fun z => g6 z.symm), zu_s, bi3, hl p hp1 cp, hF p hp1 cp, cu]
              · show bt (zu (zu (zu τ.1 A3 p _) A6 p _) A2 j x A6 p) t = true ↔ _
                rw [zu_n _ _ _ f6, zu_s, zu_n _ _ _ g6, b_or, bt_bit hx (by omega) ht, Bool.or_eq_true, bi4 t ht, decide_eq_true_eq, An_s (u := u) (t := t) (c := p) (by omega), cu]
                exact ⟨fun z => z.elim Or.inr Or.inl, fun z => z.elim Or.inr Or.inl⟩
            · have hj' : j < m := by omega
              obtain ⟨w1, w2, w3, w4⟩ := b j hj'
              rw [lo j ej]
              refine ⟨?_, w2, ?_, fun t ht => ?_⟩
              · show (zu (zu (zu τ.1 A3 p _) A6 p _) A2 m x A2 j).toInt = _
                rw [zu_j _ _ _ _ _ (fun z => ej z.symm), zu_n _ _ _ (fun z => f6 z.symm), zu_n _ _ _ (fun z => f3 z.symm)]
                exact w1
              · show zu (zu (zu τ.1 A3 p _) A6 p _) A2 m x A3 (l j) = _
                rw [zu_n _ _ _ f3, zu_n _ _ _ (fun z => g6 z.symm), zu_j _ _ _ _ _ (fun z => new j hj' z.symm)]
                exact w3
              · show bt (zu (zu (zu τ.1 A3 p _) A6 p _) A2 m x A6 (l j)) t = true ↔ _
                rw [zu_n _ _ _ f6, zu_j _ _ _ _ _ (fun z => new j hj' z.symm), zu_n _ _ _ g6]
                exact w4 t ht
          · by_cases e1 : j = m
            · by_cases e2' : j' = m
              · omega
              · rw [e1, lm, lo j' e2'] at e
                exact absurd e.symm (new j' (by omega))
            · by_cases e2' : j' = m
              · rw [e2', lm, lo j e1] at e
                exact absurd e (new j (by omega))
              · rw [lo j e1, lo j' e2'] at e
                exact inj j j' (by omega) (by omega) e
          · by_cases e1 : j = m
            · rw [e1, lm]
              exact ⟨hp1, i, him, by rw [lo i (by omega)]; exact cu.symm⟩
            · rw [lo j e1]
              obtain ⟨w1, j', w2, w3⟩ := ord j h1 (by omega)
              exact ⟨w1, j', w2, by rw [lo j' (by omega)]; exact w3⟩
          · have A : (∃ j, j < m + 1 ∧ l' j = q) ↔ ((∃ j, j < m ∧ l j = q) ∨ q = p) := by
              constructor
              · rintro ⟨j, w1, w2⟩
                by_cases e1 : j = m
                · rw [e1, lm] at w2
                  exact Or.inr w2.symm
                · rw [lo j e1] at w2
                  exact Or.inl ⟨j, by omega, w2⟩
              · rintro (⟨j, w1, w2⟩ | e)
                · exact ⟨j, by omega, by rw [lo j (by omega)]; exact w2⟩
                · exact ⟨m, by omega, by rw [lm, e]⟩
            rw [A, c5 q q1 q2, lo i (by omega)]
            constructor
            · rintro ((⟨j, w1, w2⟩ | ⟨w1, w2⟩) | e)
              · exact Or.inl ⟨j, w1, by rw [lo j (by omega)]; exact w2⟩
              · exact Or.inr ⟨w1, by omega⟩
              · exact Or.inr ⟨by rw [e]; exact cu.symm, by omega⟩
            · rintro (⟨j, w1, w2⟩ | ⟨w1, w2⟩)
              · rw [lo j (by omega)] at w2
                exact Or.inl (Or.inl ⟨j, w1, w2⟩)
              · by_cases e : q = p
                · exact Or.inr e
                · exact Or.inl (Or.inr ⟨w1, by omega⟩)
        · rw [if_neg (by omega)]
          refine ih (x + (1 : Int32)) (p + 1) y m τ l (zp1 hx (by omega)) (by omega) (by omega) (by omega) hy him hv g ⟨⟨a1, a2, a3⟩, b, inj, ord, fun q q1 q2 => ?_⟩
          rw [c5 q q1 q2]
          constructor
          · rintro (w | ⟨w1, w2⟩)
            · exact Or.inl w
            · exact Or.inr ⟨w1, by omega⟩
          · rintro (w | ⟨w1, w2⟩)
            · exact Or.inl w
            · by_cases e : q = p
              · rw [e] at w1
                exact absurd w1.symm cu
              · exact Or.inr ⟨w1, by omega⟩
      · rw [if_neg (by omega)]
        exact ⟨y, m, τ, l, hy, him, g, over (Or.inl (by omega)), rfl⟩
    · rw [if_neg (by omega)]
      exact ⟨y, m, τ, l, hy, him, g, over (Or.inr (by omega)), rfl⟩
/-- all in line -/
def zLnE (N : Nat) (u : Nat → Nat) (A2 A3 A6 : Nat) (FR : Nat → Int32) (l : Nat → Nat) (τ : zS) : Prop :=
  (∀ j, j < N → (τ.1 A2 j).toInt = l j ∧ l j < N) ∧ (∀ p, p < N → τ.1 A3 p = FR p) ∧ (∀ p, p < N → ∀ t, t < 32 → (bt (τ.1 A6 p) t = true ↔ An u t p)) ∧ (∀ j j', j < N → j' < N → l j = l j' → j = j') ∧ (∀ j, 1 ≤ j → j < N → 1 ≤ l j ∧ ∃ j', j' < j ∧ l j' = u (l j)) ∧ ∀ q, q < N → ∃ j, j < N ∧ l j = q
theorem zLn.e {m : Nat} {l : Nat → Nat} {τ : zS} (hT : zTr N u) (h : zLn N u A2 A3 A6 FR m 1 m l τ) : zLnE N u A2 A3 A6 FR l τ := by
  obtain ⟨⟨a1, a2, a3⟩, b, inj, ord, c5⟩ := h
  have all : ∀ q, q < N → ∃ j, j < m ∧ l j = q := hT.ind _ ⟨0, by omega, a3⟩ (fun c h1 h2 ih => (c5 c h1 h2).mpr (Or.inl ih))
  have eN : m = N := by
    apply Classical.byContradiction
    intro n
    have ex : ∀ q, ∃ j, q < N → j < m ∧ l j = q := fun q => by
      by_cases c : q < N
      · obtain ⟨j, h⟩ := all q c
        exact ⟨j, fun _ => h⟩
      · exact ⟨0, fun z => absurd z c⟩
    obtain ⟨f, hf⟩ := Classical.axiomOfChoice ex
    obtain ⟨q, h1, h2⟩ := pigeon N f (fun q hq => by have := (hf q hq).1; omega) (fun q q' h1 h2 e => by
      have w1 := (hf q h1).2
      have w2 := (hf q' h2).2
      rw [← w1, ← w2, e]) (N - 1) (by omega)
    have := (hf q h1).1
    omega
  subst eN
  refine ⟨fun j hj => ⟨(b j hj).1, (b j hj).2.1⟩, fun p hp => ?_, fun p hp => ?_, inj, ord, all⟩
  · obtain ⟨j, h1, h2⟩ := all p hp
    rw [← h2]
    exact (b j h1).2.2.1
  · obtain ⟨j, h1, h2⟩ := all p hp
    rw [← h2]
    exact (b j h1).2.2.2
theorem cForm2 (D : zShD sh A1 A2 A3 A4 A6 I) (hR : zShR sh co A1 A2 A3 A4 A6 I s.2.2) (hN : N ≤ 12) (hT : zTr N u) (hu : ∀ c, 1 ≤ c → c < N → (s.1 I c).toInt = u c) (hF : ∀ c, 1 ≤ c → c < N → FR c = FR (u c) + ℓ c) (hl : ∀ c, 1 ≤ c → c < N → s.1 A1 c = ℓ c) (h0 : (s.1 sh 0).toInt = N) : ∀ (n : Nat) (x : Int32) (i : Nat) (y : Int32) (m : Nat) (τ : zS) (l : Nat → Nat), x.toInt = i → i ≤ m → y.toInt = m → N - i < n → zFr (zB3 A2 A3 A6) s τ → zLn N u A2 A3 A6 FR i 1 m l τ → ∃ (τ' : zS) (l' : Nat → Nat), zFr (zB3 A2 A3 A6) s τ' ∧ zLnE N u A2 A3 A6 FR l' τ' ∧ F_X6_form_63_1 sh tt co n x y τ = F_X6_countAbove sh co τ' := by
  intro n
  induction n with
  | zero => intro x i y m τ l _ _ _ h; exact absurd h (by omega)
  | succ n ih =>
    intro x i y m τ l hx him hy hm g h
    have r0 : τ.2.2 = s.2.2 := g.rf
    have nx : x.toNatClampNeg = i := by rw [ztn, hx]; rfl
    have e1 : (1 : Int32).toInt = (1 : Nat) := by decide
    rw [F_X6_form_63_1]
    simp only [zlt, r0, hR.2.1, nx]
    by_cases c : i < m
    · rw [if_pos (by omega)]
      obtain ⟨y', m', τ', l', w1, w2, w3, w4, w5⟩ := cForm1 (tt := tt) D hR hN hu hF hl h0 (k := F_X6_form_63_1 sh tt co n) (i := i) (v := τ.1 A2 i) (x30 := x) 10000 1 1 y m τ l e1 (by omega) (by have := h.1; omega) (by omega) hy c (h.2.1 i c).1 g h
      rw [w5]
      exact ih (x + (1 : Int32)) (i + 1) y' m' τ' l' (zp1 hx (by have := h.1; omega)) (by omega) w1 (by have := h.1; omega) w3 w4
    · rw [if_neg (by omega)]
      obtain rfl : i = m := by omega
      exact ⟨τ, l, g, h.e hT, rfl⟩
end CFORM
