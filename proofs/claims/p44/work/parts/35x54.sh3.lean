/-! THE CLASS' SHAPE: how many come by, all of it -/
/-- j comes by t, by one of those in line behind the i-th that runs into t -/
def Thr (N : Nat) (u l : Nat → Nat) (t i j : Nat) : Prop := ∃ k, i < k ∧ k < N ∧ u (l k) = t ∧ An u (l k) j
section CABOVE
variable {N sh co tt A1 A2 A3 A4 A6 I TL : Nat} {u l : Nat → Nat} {FR : Nat → Int32} {s σ : zS}
theorem zLnE.z {τ : zS} (E : zLnE N u A2 A3 A6 FR l τ) (hN : 0 < N) : l 0 = 0 := by
  obtain ⟨-, -, -, -, ord, all⟩ := E
  obtain ⟨j, h1, h2⟩ := all 0 hN
  by_cases c : j = 0
  · rw [c] at h2; exact h2
  · have := (ord j (by omega) h1).1
    omega
theorem thr_0 {τ : zS} (hT : zTr N u) (E : zLnE N u A2 A3 A6 FR l τ) {t : Nat} : ∀ j, j < N → (An u t j ↔ (j = t ∨ Thr N u l t 0 j)) := by
  have z0 : 0 < N → l 0 = 0 := E.z
  obtain ⟨-, -, -, -, ord, all⟩ := E
  refine hT.ind _ ?_ (fun c h1 h2 ih => ?_)
  · constructor
    · intro h
      exact Or.inl (An_0.mp h).symm
    · rintro (h | ⟨k, k1, k2, k3, k4⟩)
      · rw [h]; exact An_rf
      · have w := (ord k k1 k2).1
        rw [An_0] at k4
        omega
  · constructor
    · intro h
      rcases (An_s (by omega)).mp h with e | e
      · exact Or.inl e.symm
      · right
        rcases ih.mp e with e2 | ⟨k, k1, k2, k3, k4⟩
        · obtain ⟨k, k1, k2⟩ := all c h2
          refine ⟨k, ?_, k1, by rw [k2]; exact e2, by rw [k2]; exact An_rf⟩
          by_cases e0 : k = 0
          · rw [e0, z0 (by omega)] at k2
            omega
          · omega
        · exact ⟨k, k1, k2, k3, (An_s (by omega)).mpr (Or.inr k4)⟩
    · rintro (h | ⟨k, k1, k2, k3, k4⟩)
      · rw [h]; exact An_rf
      · have w := (ord k k1 k2).1
        exact An_tr ((An_s (by omega)).mpr (Or.inr (by rw [k3]; exact An_rf))) k4
theorem thr_n {τ : zS} (hT : zTr N u) (E : zLnE N u A2 A3 A6 FR l τ) {t i : Nat} : ¬ Thr N u l t i t := by
  rintro ⟨k, k1, k2, k3, k4⟩
  have w := E.2.2.2.2.1 k (by omega) k2
  refine hT.acyc (c := l k) w.1 (E.1 k k2).2 ?_
  rw [k3]
  exact k4
/-- those that run into the i-th stand behind it -/
theorem thr_i {τ : zS} (E : zLnE N u A2 A3 A6 FR l τ) {i j : Nat} (hi : i < N) : Thr N u l (l i) i j ↔ Thr N u l (l i) 0 j := by
  obtain ⟨a, -, -, inj, ord, all⟩ := E
  constructor
  · rintro ⟨k, k1, k2, k3, k4⟩
    exact ⟨k, by omega, k2, k3, k4⟩
  · rintro ⟨k, k1, k2, k3, k4⟩
    obtain ⟨-, j', w1, w2⟩ := ord k k1 k2
    have := inj j' i (by omega) hi (w2.trans k3)
    exact ⟨k, by omega, k2, k3, k4⟩
theorem thr_c {τ : zS} (hT : zTr N u) (E : zLnE N u A2 A3 A6 FR l τ) {t : Nat} (ht : t < N) : cnt (Thr N u l t 0) N + 1 = cnt (fun j => An u t j) N := by
  have e : cnt (fun j => An u t j) N = cnt (fun j => j = t ∨ Thr N u l t 0 j) N := cnt_cg N (fun j hj => thr_0 hT E j hj)
  rw [e, cnt_or N (fun j _ ⟨h1, h2⟩ => thr_n hT E (by rw [h1] at h2; exact h2)), cnt_1, if_pos ht]
  omega
theorem cAb1 (D : zShD sh A1 A2 A3 A4 A6 I) (hR : zShR sh co A1 A2 A3 A4 A6 I s.2.2) (hN : N ≤ 12) (hT : zTr N u) (hu : ∀ c, 1 ≤ c → c < N → (s.1 I c).toInt = u c) (E : zLnE N u A2 A3 A6 FR l s) : ∀ (n : Nat) (x : Int32) (i : Nat) (τ : zS), x.toInt = i → i < N → i < n → zFr (fun c _ => c = A4) s τ → (∀ t, t < N → (τ.1 A4 t).toInt = cnt (Thr N u l t i) N) → zFr (fun c _ => c = A4) s (F_X6_countAbove_15 sh co n x τ) ∧ ∀ t, t < N → ((F_X6_countAbove_15 sh co n x τ).1 A4 t).toInt = cnt (Thr N u l t 0) N := by
  obtain ⟨⟨d1, d2, d3, d4, d5, d6⟩, ⟨e2, e3, e4, e6⟩, ⟨f3, f4, f6⟩, ⟨g4, g6⟩, g7, ⟨i2, i3, i4, i6⟩⟩ := D
  obtain ⟨R1, R2, R3, R4, R6, RI⟩ := hR
  have e1 : (1 : Int32).toInt = 1 := by decide
  have em : (-1 : Int32).toInt = -1 := by decide
  intro n
  induction n with
  | zero => intro x i τ _ _ h; exact absurd h (by omega)
  | succ n ih =>
    intro x i τ hx hi hm g h
    have r0 : τ.2.2 = s.2.2 := g.rf
    have nx : x.toNatClampNeg = i := by rw [ztn, hx]; rfl
    have tI : ∀ j, τ.1 I j = s.1 I j := fun j => g.2 _ _ i4
    have t2 : ∀ j, τ.1 A2 j = s.1 A2 j := fun j => g.2 _ _ (fun z => f4 z.symm)
    rw [F_X6_countAbove_15]
    simp only [zlt, r0, R2, R4, RI, nx, tI, t2]
    by_cases c : 0 < i
    · rw [if_pos (by omega)]
      obtain ⟨q1, q2⟩ := E.1 i hi
      obtain ⟨w1, j', w2, w3⟩ := E.2.2.2.2.1 i c hi
      have nq : (s.1 A2 i).toNatClampNeg = l i := by rw [ztn, q1]; rfl
      have ul : u (l i) < N := hT.u_lt w1 q2
      have nu : (s.1 I (l i)).toNatClampNeg = u (l i) := by rw [ztn, hu (l i) w1 q2]; rfl
      rw [nq, nu]
      have S1 : cnt (Thr N u l (l i) i) N + 1 = cnt (fun j => An u (l i) j) N := by
        rw [← thr_c hT E q2, cnt_cg N (fun j _ => thr_i E hi)]
      have S2 : cnt (Thr N u l (u (l i)) (i - 1)) N = cnt (Thr N u l (u (l i)) i) N + cnt (fun j => An u (l i) j) N := by
        have dis : ∀ j, j < N → ¬ (Thr N u l (u (l i)) i j ∧ An u (l i) j) := by
          rintro j hj ⟨⟨k, k1, k2, k3, k4⟩, h2⟩
          have wk := (E.2.2.2.2.1 k (by omega) k2).1
          have := E.2.2.2.1 k i k2 hi (hT.one wk (E.1 k k2).2 w1 q2 k3 k4 h2)
          omega
        rw [← cnt_or N dis]
        refine cnt_cg N (fun j hj => ?_)
        constructor
        · rintro ⟨k, k1, k2, k3, k4⟩
          by_cases e : k = i
          · rw [e] at k4
            exact Or.inr k4
          · exact Or.inl ⟨k, by omega, k2, k3, k4⟩
        · rintro (⟨k, k1, k2, k3, k4⟩ | h2)
          · exact ⟨k, by omega, k2, k3, k4⟩
          · exact ⟨i, by omega, hi, rfl, h2⟩
      have S3 : ∀ t, t ≠ u (l i) → cnt (Thr N u l t (i - 1)) N = cnt (Thr N u l t i) N := fun t ht => cnt_cg N (fun j hj => by
        constructor
        · rintro ⟨k, k1, k2, k3, k4⟩
          by_cases e : k = i
          · rw [e] at k3
            exact absurd k3.symm ht
          · exact ⟨k, by omega, k2, k3, k4⟩
        · rintro ⟨k, k1, k2, k3, k4⟩
          exact ⟨k, by omega, k2, k3, k4⟩)
      have L1 := cnt_le (P := Thr N u l (u (l i)) (i - 1)) N
      have h1 := h (l i) q2
      have h2 := h (u (l i)) ul
      have v1 : (τ.1 A4 (l i) + (1 : Int32)).toInt = cnt (fun j => An u (l i) j) N := by rw [zb_add (by rw [h1, e1]; omega) (by rw [h1, e1]; omega), h1, e1]; omega
      have v2 : (τ.1 A4 (u (l i)) + (τ.1 A4 (l i) + (1 : Int32))).toInt = cnt (Thr N u l (u (l i)) (i - 1)) N := by rw [zb_add (by rw [h2, v1]; omega) (by rw [h2, v1]; omega), h2, v1]; omega
      have hx' : (x + (-1 : Int32)).toInt = (i - 1 : Nat) := by rw [zb_add (by rw [hx, em]; omega) (by rw [hx, em]; omega), hx, em]; omega
      refine ih (x + (-1 : Int32)) (i - 1) _ hx' (by omega) (by omega) (by rw [← r0]; exact g.w rfl) (fun t ht => ?_)
      show (zu τ.1 A4 (u (l i)) _ A4 t).toInt = _
      by_cases e : t = u (l i)
      · rw [e, zu_s]; exact v2
      · rw [zu_j _ _ _ _ _ (fun z => e z.symm), h t ht, S3 t e]
    · rw [if_neg (by omega)]
      obtain rfl : i = 0 := by omega
      exact ⟨g, h⟩
/-- the class' shape as it is formed -/
def zShp (N : Nat) (u : Nat → Nat) (ℓ FR : Nat → Int32) (sh A1 A2 A3 A4 A6 : Nat) (l : Nat → Nat) (s : zS) : Prop := (s.1 sh 0).toInt = N ∧ zLnE N u A2 A3 A6 FR l s ∧ (∀ t, t < N → (s.1 A4 t).toInt + 1 = cnt (fun j => An u t j) N) ∧ ∀ c, 1 ≤ c → c < N → s.1 A1 c = ℓ c
def zB6 (sh A1 A2 A3 A4 A6 : Nat) : Nat → Nat → Prop := fun c j => (c = sh ∧ j = 0) ∨ c = A1 ∨ c = A2 ∨ c = A3 ∨ c = A4 ∨ c = A6
theorem cAb (D : zShD sh A1 A2 A3 A4 A6 I) (hR : zShR sh co A1 A2 A3 A4 A6 I s.2.2) (hN : N ≤ 12) (hT : zTr N u) (hu : ∀ c, 1 ≤ c → c < N → (s.1 I c).toInt = u c) (h0 : (s.1 sh 0).toInt = N) (E : zLnE N u A2 A3 A6 FR l s) : zFr (fun c _ => c = A4) s (F_X6_countAbove sh co s) ∧ ∀ t, t < N → ((F_X6_countAbove sh co s).1 A4 t).toInt + 1 = cnt (fun j => An u t j) N := by
  have e1 : (1 : Int32).toInt = 1 := by decide
  obtain ⟨⟨d1, d2, d3, d4, d5, d6⟩, ⟨e2, e3, e4, e6⟩, ⟨f3, f4, f6⟩, ⟨g4, g6⟩, g7, ⟨i2, i3, i4, i6⟩⟩ := id D
  obtain ⟨f, hf⟩ : ∃ f, f = zf12 s.1 A4 := ⟨_, rfl⟩
  have hz : zfil s A4 0 12 = (f, s.2.1, s.2.2) := by rw [hf]; rfl
  have hR4 := hR.2.2.2.1
  have fs : f sh 0 = s.1 sh 0 := by rw [hf, zf12_n (fun z => d4 z.symm)]
  have eq : F_X6_countAbove sh co s = F_X6_countAbove_15 sh co 10000 (s.1 sh 0 - (1 : Int32)) (f, s.2.1, s.2.2) := by
    unfold F_X6_countAbove
    simp only [zlt, hR4, hz, fs]
  have g0 : zFr (fun c _ => c = A4) s (f, s.2.1, s.2.2) := ⟨rfl, fun c j n => by
    show f c j = _
    rw [hf, zf12_n n]⟩
  rw [eq]
  by_cases c : 0 < N
  · have hx : (s.1 sh 0 - (1 : Int32)).toInt = (N - 1 : Nat) := by rw [zb_sub (by rw [h0, e1]; omega) (by rw [h0, e1]; omega), h0, e1]; omega
    obtain ⟨q1, q2⟩ := cAb1 D hR hN hT hu E 10000 (s.1 sh 0 - (1 : Int32)) (N - 1) (f, s.2.1, s.2.2) hx (by omega) (by omega) g0 (fun t ht => by
      show (f A4 t).toInt = _
      rw [hf, zf12_b (by omega), cnt_0 N (fun j hj ⟨k, k1, k2, k3, k4⟩ => by omega)]
      rfl)
    refine ⟨q1, fun t ht => ?_⟩
    have := q2 t ht
    have := thr_c hT E ht
    omega
  · have hx : (s.1 sh 0 - (1 : Int32)).toInt = -1 := by rw [zb_sub (by rw [h0, e1]; omega) (by rw [h0, e1]; omega), h0, e1]; omega
    have e : F_X6_countAbove_15 sh co 10000 (s.1 sh 0 - (1 : Int32)) (f, s.2.1, s.2.2) = (f, s.2.1, s.2.2) := by
      rw [F_X6_countAbove_15]
      rw [if_neg (by omega)]
    rw [e]
    exact ⟨g0, fun t ht => absurd ht (by omega)⟩
set_option maxHeartbeats 1000000 in
theorem cForm (D : zShD sh A1 A2 A3 A4 A6 I) (hR : zShR sh co A1 A2 A3 A4 A6 I σ.2.2) (hTL : (σ.2.2 tt 3).getD 0 = TL) (nT : TL ≠ sh ∧ TL ≠ A1) (nI : I ≠ A1) (hN : N ≤ 12) (hT : zTr N u) (hu : ∀ c, 1 ≤ c → c < N → (σ.1 I c).toInt = u c) (h0 : (σ.1 tt 0).toInt = N) (hF0 : FR 0 = 0) (hF : ∀ c, 1 ≤ c → c < N → FR c = FR (u c) + σ.1 TL c) : zFr (zB6 sh A1 A2 A3 A4 A6) σ (F_X6_form sh tt co σ) ∧ ∃ l, zShp N u (σ.1 TL) FR sh A1 A2 A3 A4 A6 l (F_X6_form sh tt co σ) := by
  obtain ⟨⟨d1, d2, d3, d4, d5, d6⟩, ⟨e2, e3, e4, e6⟩, ⟨f3, f4, f6⟩, ⟨g4, g6⟩, g7, ⟨i2, i3, i4, i6⟩⟩ := id D
  obtain ⟨R1, R2, R3, R4, R6, RI⟩ := id hR
  have e00 : (0 : Int32).toNatClampNeg = 0 := by decide
  have e0 : (0 : Int32).toInt = 0 := by decide
  have e1 : (1 : Int32).toInt = 1 := by decide
  obtain ⟨f9, h9⟩ : ∃ f, f = zc12 (zu σ.1 sh 0 (σ.1 tt 0)) TL A1 := ⟨_, rfl⟩
  obtain ⟨f1, hf1⟩ : ∃ f, f = zu (zu (zu f9 A2 0 0) A3 0 0) A6 0 (F_X10_bit 0) := ⟨_, rfl⟩
  have eq : F_X6_form sh tt co σ = if 0 < (f9 sh 0).toInt then F_X6_form_63_1 sh tt co 10000 0 1 (f1, σ.2.1, σ.2.2) else F_X6_form_63 sh tt co 10000 0 0 (f1, σ.2.1, σ.2.2) := by
    rw [hf1, h9]
    unfold F_X6_form
    simp only [zlt, hTL, R1, R2, R3, R6, e00]
    rfl
  have f9s : f9 sh 0 = σ.1 tt 0 := by rw [h9, zc12_n (fun z => d1 z.symm), zu_s]
  have s1s : f1 sh 0 = σ.1 tt 0 := by rw [hf1, zu_n _ _ _ (fun z => d5 z.symm), zu_n _ _ _ (fun z => d3 z.symm), zu_n _ _ _ (fun z => d2 z.symm), f9s]
  have s1I : ∀ j, f1 I j = σ.1 I j := fun j => by rw [hf1, zu_n _ _ _ i6, zu_n _ _ _ i3, zu_n _ _ _ i2, h9, zc12_n nI, zu_n _ _ _ d6]
  have s11 : ∀ j, j < 12 → f1 A1 j = σ.1 TL j := fun j hj => by rw [hf1, zu_n _ _ _ (fun z => e6 z.symm), zu_n _ _ _ (fun z => e3 z.symm), zu_n _ _ _ (fun z => e2 z.symm), h9, zc12_b hj, zu_n _ _ _ nT.1]
  have g1 : zFr (zB6 sh A1 A2 A3 A4 A6) σ (f1, σ.2.1, σ.2.2) := ⟨rfl, fun c j n => by
    show f1 c j = _
    have n1 : ¬ c = A1 := fun z => n (Or.inr (Or.inl z))
    have n2 : ¬ c = A2 := fun z => n (Or.inr (Or.inr (Or.inl z)))
    have n3 : ¬ c = A3 := fun z => n (Or.inr (Or.inr (Or.inr (Or.inl z))))
    have n6 : ¬ c = A6 := fun z => n (Or.inr (Or.inr (Or.inr (Or.inr (Or.inr z)))))
    rw [hf1, zu_n _ _ _ n6, zu_n _ _ _ n3, zu_n _ _ _ n2, h9, zc12_n n1]
    by_cases e : c = sh
    · rw [e, zu_j _ _ _ _ _ (fun z => n (Or.inl ⟨e, z.symm⟩))]
    · rw [zu_n _ _ _ e]⟩
  have key : ∃ (τ : zS) (l : Nat → Nat), zFr (zB3 A2 A3 A6) (f1, σ.2.1, σ.2.2) τ ∧ zLnE N u A2 A3 A6 FR l τ ∧ F_X6_form sh tt co σ = F_X6_countAbove sh co τ := by
    by_cases c : 0 < N
    · rw [eq, if_pos (by rw [f9s]; omega)]
      have b0 : ∀ j, j < 1 → ((f1 A2 j).toInt = ((0 : Nat) : Int) ∧ 0 < N ∧ f1 A3 0 = FR 0 ∧ ∀ t, t < 32 → (bt (f1 A6 0) t = true ↔ An u t 0)) := fun j hj => by
        have ej : j = 0 := by omega
        rw [ej]
        refine ⟨?_, c, ?_, fun t ht => ?_⟩
        · rw [hf1, zu_n _ _ _ (fun z => f6 z.symm), zu_n _ _ _ (fun z => f3 z.symm), zu_s]; exact e0
        · rw [hf1, zu_n _ _ _ (fun z => g6 z.symm), zu_s, hF0]
        · rw [hf1, zu_s, bt_bit (k := 0) e0 (by omega) ht, decide_eq_true_eq, An_0]
      have init : zLn N u A2 A3 A6 FR 0 1 1 (fun _ => 0) (f1, σ.2.1, σ.2.2) := ⟨⟨Nat.le_refl _, by omega, rfl⟩, b0, fun j j' h1 h2 _ => by omega, fun j h1 h2 => by omega, fun q q1 q2 => ⟨fun ⟨j, h1, h2⟩ => by
        have h2' : 0 = q := h2
        omega, fun h => by
        rcases h with ⟨j, h1, h2⟩ | ⟨h1, h2⟩
        · omega
        · omega⟩⟩
      obtain ⟨τ, l, w1, w2, w3⟩ := cForm2 (s := (f1, σ.2.1, σ.2.2)) (ℓ := σ.1 TL) (FR := FR) (tt := tt) D hR hN hT (fun c h1 h2 => by show (f1 I c).toInt = _; rw [s1I]; exact hu c h1 h2) hF (fun c h1 h2 => s11 c (by omega)) (by show (f1 sh 0).toInt = _; rw [s1s]; exact h0) 10000 0 0 1 1 (f1, σ.2.1, σ.2.2) (fun _ => 0) e0 (by omega) e1 (by omega) zFr.id init
      exact ⟨τ, l, w1, w2, w3⟩
    · refine ⟨(f1, σ.2.1, σ.2.2), fun _ => 0, zFr.id, ⟨fun j hj => by omega, fun p hp => by omega, fun p hp => by omega, fun j j' h1 h2 _ => by omega, fun j h1 h2 => by omega, fun q hq => by omega⟩, ?_⟩
      rw [eq, if_neg (by rw [f9s]; omega), F_X6_form_63]
      rw [if_neg (by rw [e0]; omega), zlt]
  obtain ⟨τ, l, w1, w2, w3⟩ := key
  have rτ : τ.2.2 = σ.2.2 := w1.rf
  have o : ∀ c j, c ≠ A2 → c ≠ A3 → c ≠ A6 → τ.1 c j = f1 c j := fun c j n2 n3 n6 => w1.2 c j (by
    rintro (z | z | z)
    · exact n2 z
    · exact n3 z
    · exact n6 z)
  obtain ⟨q1, q2⟩ := cAb (s := τ) D (by rw [rτ]; exact hR) hN hT (fun c h1 h2 => by rw [o I c i2 i3 i6, s1I]; exact hu c h1 h2) (by rw [o sh 0 (fun z => d2 z.symm) (fun z => d3 z.symm) (fun z => d5 z.symm), s1s]; exact h0) w2
  rw [w3]
  have k : ∀ c j, c ≠ A4 → (F_X6_countAbove sh co τ).1 c j = τ.1 c j := fun c j n => q1.2 c j n
  refine ⟨⟨q1.1.trans (w1.1.trans g1.1), fun c j n => ?_⟩, l, ?_, ⟨fun j hj => ?_, fun p hp => ?_, fun p hp t ht => ?_, w2.2.2.2.1, w2.2.2.2.2.1, w2.2.2.2.2.2⟩, q2, fun c h1 h2 => ?_⟩
  · rw [k c j (fun z => n (Or.inr (Or.inr (Or.inr (Or.inr (Or.inl z)))))), o c j (fun z => n (Or.inr (Or.inr (Or.inl z)))) (fun z => n (Or.inr (Or.inr (Or.inr (Or.inl z))))) (fun z => n (Or.inr (Or.inr (Or.inr (Or.inr (Or.inr z))))))]
    exact g1.2 c j n
  · rw [k sh 0 (fun z => d4 z.symm), o sh 0 (fun z => d2 z.symm) (fun z => d3 z.symm) (fun z => d5 z.symm), s1s]; exact h0
  · rw [k A2 j (fun z => f4 z.symm)]; exact w2.1 j hj
  · rw [k A3 p (fun z => g4 z.symm)]; exact w2.2.1 p hp
  · rw [k A6 p g7]; exact w2.2.2.1 p hp t ht
  · rw [k A1 c (fun z => e4 z.symm), o A1 c (fun z => e2 z.symm) (fun z => e3 z.symm) (fun z => e6 z.symm)]
    exact s11 c (by omega)
end CABOVE
