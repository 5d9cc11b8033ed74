-- 35x54.sh3
section
/-! THE CLASS' SHAPE: how many come by, all of it -/
/-- j comes by t, by one of those in line behind the i-th that runs into t -/
def Thr (N : Nat) (u l : Nat → Nat) (t i j : Nat) : Prop := ∃ k, i < k ∧ k < N ∧ u (l k) = t ∧ An u (l k) j
section CABOVE
variable {N sh co tt A1 A2 A3 A4 A6 I TL : Nat} {u l : Nat → Nat} {FR : Nat → Int32} {s σ : zS}
theorem zLnE.z {τ : zS} (E : zLnE N u A2 A3 A6 FR l τ) (hN : 0 < N) : l 0 = 0 := by
  obtain ⟨-, -, -, -, ord, all⟩ := E
  obtain ⟨j, h1, h2⟩ := all 0 hN
  by_cases c : j = 0
  · rw [c] at h2; exact h2
  · have := (ord j (by omega) h1).1
    omega
theorem thr_0 {τ : zS} (hT : zTr N u) (E : zLnE N u A2 A3 A6 FR l τ) {t : Nat} : ∀ j, j < N → (An u t j ↔ (j = t ∨ Thr N u l t 0 j)) := by
  have z0 : 0 < N → l 0 = 0 := E.z
  obtain ⟨-, -, -, -, ord, all⟩ := E
  refine hT.ind _ ?_ (fun c h1 h2 ih => ?_)
  · constructor
    · intro h
      exact Or.inl (An_0.mp h).symm
    · rintro (h | ⟨k, k1, k2, k3, k4⟩)
      · rw [h]; exact An_rf
      · have w := (ord k k1 k2).1
        rw [An_0] at k4
        omega
  · constructor
    · intro h
      rcases (An_s (by omega)).mp h with e | e
      · exact Or.inl e.symm
      · right
        rcases ih.mp e with e2 | ⟨k, k1, k2, k3, k4⟩
        · obtain ⟨k, k1, k2⟩ := all c h2
          refine ⟨k, ?_, k1, by rw [k2]; exact e2, by rw [k2]; exact An_rf⟩
          by_cases e0 : k = 0
          · rw [e0, z0 (by omega)] at k2
            omega
          · omega
        · exact ⟨k, k1, k2, k3, (An_s (by omega)).mpr (Or.inr k4)⟩
    · rintro (h | ⟨k, k1, k2, k3, k4⟩)
      · rw [h]; exact An_rf
      · have w := (ord k k1 k2).1
        exact An_tr ((An_s (by omega)).mpr (Or.inr (by rw [k3]; exact An_rf))) k4
theorem thr_n {τ : zS} (hT : zTr N u) (E : zLnE N u A2 A3 A6 FR l τ) {t i : Nat} : ¬ Thr N u l t i t := by
  rintro ⟨k, k1, k2, k3, k4⟩
  have w := E.2.2.2.2.1 k (by omega) k2
  refine hT.acyc (c := l k) w.1 (E.1 k k2).2 ?_
  rw [k3]
  exact k4
/-- those that run into the i-th stand behind it -/
theorem thr_i {τ : zS} (E : zLnE N u A2 A3 A6 FR l τ) {i j : Nat} (hi : i < N) : Thr N u l (l i) i j ↔ Thr N u l (l i) 0 j := by
  obtain ⟨a, -, -, inj, ord, all⟩ := E
  constructor
  · rintro ⟨k, k1, k2, k3, k4⟩
    exact ⟨k, by omega, k2, k3, k4⟩
  · rintro ⟨k, k1, k2, k3, k4⟩
    obtain ⟨-, j', w1, w2⟩ := ord k k1 k2
    have := inj j' i (by omega) hi (w2.trans k3)
    exact ⟨k, by omega, k2, k3, k4⟩
theorem thr_c {τ : zS} (hT : zTr N u) (E : zLnE N u A2 A3 A6 FR l τ) {t : Nat} (ht : t < N) : cnt (Thr N u l t 0) N + 1 = cnt (fun j => An u t j) N := by
  have e : cnt (fun j => An u t j) N = cnt (fun j => j = t ∨ Thr N u l t 0 j) N := cnt_cg N (fun j hj => thr_0 hT E j hj)
  rw [e, cnt_or N (fun j _ ⟨h1, h2⟩ => thr_n hT E (by rw [h1] at h2; exact h2)), cnt_1, if_pos ht]
  omega
theorem cAb1 (D : zShD sh A1 A2 A3 A4 A6 I) (hR : zShR sh co A1 A2 A3 A4 A6 I s.2.2) (hN : N ≤ 12) (hT : zTr N u) (hu : ∀ c, 1 ≤ c → c < N → (s.1 I c).toInt = u c) (E : zLnE N u A2 A3 A6 FR l s) : ∀ (n : Nat) (x : Int32) (i : Nat) (τ : zS), x.toInt = i → i < N → i < n → zFr (fun c _ => c = A4) s τ → (∀ t, t < N → (τ.1 A4 t).toInt = cnt (Thr N u l t i) N) → zFr (fun c _ => c = A4) s (F_X6_countAbove_15 sh co n x τ) ∧ ∀ t, t < N → ((F_X6_countAbove_15 sh co n x τ).1 A4 t).toInt = cnt (Thr N u l t 0) N := by
  obtain ⟨⟨d1, d2, d3, d4, d5, d6⟩, ⟨e2, e3, e4, e6⟩, ⟨f3, f4, f6⟩, ⟨g4, g6⟩, g7, ⟨i2, i3, i4, i6⟩⟩ := D
  obtain ⟨R1, R2, R3, R4, R6, RI⟩ := hR
  have e1 : (1 : Int32).toInt = 1 := by decide
  have em : (-1 : Int32).toInt = -1 := by decide
  intro n
  induction n with
  | zero => intro x i τ _ _ h; exact absurd h (by omega)
  | succ n ih =>
    intro x i τ hx hi hm g h
    have r0 : τ.2.2 = s.2.2 := g.rf
    have nx : x.toNatClampNeg = i := by rw [ztn, hx]; rfl
    have tI : ∀ j, τ.1 I j = s.1 I j := fun j => g.2 _ _ i4
    have t2 : ∀ j, τ.1 A2 j = s.1 A2 j := fun j => g.2 _ _ (fun z => f4 z.symm)
    rw [F_X6_countAbove_15]
    simp only [zlt, r0, R2, R4, RI, nx, tI, t2]
    by_cases c : 0 < i
    · rw [if_pos (by omega)]
      obtain ⟨q1, q2⟩ := E.1 i hi
      obtain ⟨w1, j', w2, w3⟩ := E.2.2.2.2.1 i c hi
      have nq : (s.1 A2 i).toNatClampNeg = l i := by rw [ztn, q1]; rfl
      have ul : u (l i) < N := hT.u_lt w1 q2
      have nu : (s.1 I (l i)).toNatClampNeg = u (l i) := by rw [ztn, hu (l i) w1 q2]; rfl
      rw [nq, nu]
      have S1 : cnt (Thr N u l (l i) i) N + 1 = cnt (fun j => An u (l i) j) N := by
        rw [← thr_c hT E q2, cnt_cg N (fun j _ => thr_i E hi)]
      have S2 : cnt (Thr N u l (u (l i)) (i - 1)) N = cnt (Thr N u l (u (l i)) i) N + cnt (fun j => An u (l i) j) N := by
        have dis : ∀ j, j < N → ¬ (Thr N u l (u (l i)) i j ∧ An u (l i) j) := by
          rintro j hj ⟨⟨k, k1, k2, k3, k4⟩, h2⟩
          have wk := (E.2.2.2.2.1 k (by omega) k2).1
          have := E.2.2.2.1 k i k2 hi (hT.one wk (E.1 k k2).2 w1 q2 k3 k4 h2)
          omega
        rw [← cnt_or N dis]
        refine cnt_cg N (fun j hj => ?_)
        constructor
        · rintro ⟨k, k1, k2, k3, k4⟩
          by_cases e : k = i
          · rw [e] at k4
            exact Or.inr k4
          · exact Or.inl ⟨k, by omega, k2, k3, k4⟩
        · rintro (⟨k, k1, k2, k3, k4⟩ | h2)
          · exact ⟨k, by omega, k2, k3, k4⟩
          · exact ⟨i, by omega, hi, rfl, h2⟩
      have S3 : ∀ t, t ≠ u (l i) → cnt (Thr N u l t (i - 1)) N = cnt (Thr N u l t i) N := fun t ht => cnt_cg N (fun j hj => by
        constructor
        · rintro ⟨k, k1, k2, k3, k4⟩
          by_cases e : k = i
          · rw [e] at k3
            exact absurd k3.symm ht
          · exact ⟨k, by omega, k2, k3, k4⟩
        · rintro ⟨k, k1, k2, k3, k4⟩
          exact ⟨k, by omega, k2, k3, k4⟩)
      have L1 := cnt_le (P := Thr N u l (u (l i)) (i - 1)) N
      have h1 := h (l i) q2
      have h2 := h (u (l i)) ul
      have v1 : (τ.1 A4 (l i) + (1 : Int32)).toInt = cnt (fun j => An u (l i) j) N := by rw [zb_add (by rw [h1, e1]; omega) (by rw [h1, e1]; omega), h1, e1]; omega
      have v2 : (τ.1 A4 (u (l i)) + (τ.1 A4 (l i) + (1 : Int32))).toInt = cnt (Thr N u l (u (l i)) (i - 1)) N := by rw [zb_add (by rw [h2, v1]; omega) (by rw [h2, v1]; omega), h2, v1]; omega
      have hx' : (x + (-1 : Int32)).toInt = (i - 1 : Nat) := by rw [zb_add (by rw [hx, em]; omega) (by rw [hx, em]; omega), hx, em]; omega
      refine ih (x + (-1 : Int32)) (i - 1) _ hx' (by omega) (by omega) (by rw [← r0]; exact g.w rfl) (fun t ht => ?_)
      show (zu τ.1 A4 (u (l i)) _ A4 t).toInt = _
      by_cases e : t = u (l i)
      · rw [e, zu_s]; exact v2
      · rw [zu_j _ _ _ _ _ (fun z => e z.symm), h t ht, S3 t e]
    · rw [if_neg (by omega)]
      obtain rfl : i = 0 := by omega
      exact ⟨g, h⟩
/-- the class' shape as it is formed -/
def zShp (N : Nat) (u : Nat → Nat) (ℓ FR : Nat → Int32) (sh A1 A2 A3 A4 A6 : Nat) (l : Nat → Nat) (s : zS) : Prop := (s.1 sh 0).toInt = N ∧ zLnE N u A2 A3 A6 FR l s ∧ (∀ t, t < N → (s.1 A4 t).toInt + 1 = cnt (fun j => An u t j) N) ∧ ∀ c, 1 ≤ c → c < N → s.1 A1 c = ℓ c
def zB6 (sh A1 A2 A3 A4 A6 : Nat) : Nat → Nat → Prop := fun c j => (c = sh ∧ j = 0) ∨ c = A1 ∨ c = A2 ∨ c = A3 ∨ c = A4 ∨ c = A6
theorem cAb (D : zShD sh A1 A2 A3 A4 A6 I) (hR : zShR sh co A1 A2 A3 A4 A6 I s.2.2) (hN : N ≤ 12) (hT : zTr N u) (hu : ∀ c, 1 ≤ c → c < N → (s.1 I c).toInt = u c) (h0 : (s.1 sh 0).toInt = N) (E : zLnE N u A2 A3 A6 FR l s) : zFr (fun c _ => c = A4) s (F_X6_countAbove sh co s) ∧ ∀ t, t < N → ((F_X6_countAbove sh co s).1 A4 t).toInt + 1 = cnt (fun j => An u t j) N := by
  have e1 : (1 : Int32).toInt = 1 := by decide
  obtain ⟨⟨d1, d2, d3, d4, d5, d6⟩, ⟨e2, e3, e4, e6⟩, ⟨f3, f4, f6⟩, ⟨g4, g6⟩, g7, ⟨i2, i3, i4, i6⟩⟩ := id D
  obtain ⟨f, hf⟩ : ∃ f, f = zf12 s.1 A4 := ⟨_, rfl⟩
  have hz : zfil s A4 0 12 = (f, s.2.1, s.2.2) := by rw [hf]; rfl
  have hR4 := hR.2.2.2.1
  have fs : f sh 0 = s.1 sh 0 := by rw [hf, zf12_n (fun z => d4 z.symm)]
  have eq : F_X6_countAbove sh co s = F_X6_countAbove_15 sh co 10000 (s.1 sh 0 - (1 : Int32)) (f, s.2.1, s.2.2) := by
    unfold F_X6_countAbove
    simp only [zlt, hR4, hz, fs]
  have g0 : zFr (fun c _ => c = A4) s (f, s.2.1, s.2.2) := ⟨rfl, fun c j n => by
    show f c j = _
    rw [hf, zf12_n n]⟩
  rw [eq]
  by_cases c : 0 < N
  · have hx : (s.1 sh 0 - (1 : Int32)).toInt = (N - 1 : Nat) := by rw [zb_sub (by rw [h0, e1]; omega) (by rw [h0, e1]; omega), h0, e1]; omega
    obtain ⟨q1, q2⟩ := cAb1 D hR hN hT hu E 10000 (s.1 sh 0 - (1 : Int32)) (N - 1) (f, s.2.1, s.2.2) hx (by omega) (by omega) g0 (fun t ht => by
      show (f A4 t).toInt = _
      rw [hf, zf12_b (by omega), cnt_0 N (fun j hj ⟨k, k1, k2, k3, k4⟩ => by omega)]
      rfl)
    refine ⟨q1, fun t ht => ?_⟩
    have := q2 t ht
    have := thr_c hT E ht
    omega
  · have hx : (s.1 sh 0 - (1 : Int32)).toInt = -1 := by rw [zb_sub (by rw [h0, e1]; omega) (by rw [h0, e1]; omega), h0, e1]; omega
    have e : F_X6_countAbove_15 sh co 10000 (s.1 sh 0 - (1 : Int32)) (f, s.2.1, s.2.2) = (f, s.2.1, s.2.2) := by
      rw [F_X6_countAbove_15]
      rw [if_neg (by omega)]
    rw [e]
    exact ⟨g0, fun t ht => absurd ht (by omega)⟩
set_option maxHeartbeats 1000000 in
theorem cForm (D : zShD sh A1 A2 A3 A4 A6 I) (hR : zShR sh co A1 A2 A3 A4 A6 I σ.2.2) (hTL : (σ.2.2 tt 3).getD 0 = TL) (nT : TL ≠ sh ∧ TL ≠ A1) (nI : I ≠ A1) (hN : N ≤ 12) (hT : zTr N u) (hu : ∀ c, 1 ≤ c → c < N → (σ.1 I c).toInt = u c) (h0 : (σ.1 tt 0).toInt = N) (hF0 : FR 0 = 0) (hF : ∀ c, 1 ≤ c → c < N → FR c = FR (u c) + σ.1 TL c) : zFr (zB6 sh A1 A2 A3 A4 A6) σ (F_X6_form sh tt co σ) ∧ ∃ l, zShp N u (σ.1 TL) FR sh A1 A2 A3 A4 A6 l (F_X6_form sh tt co σ) := by
  obtain ⟨⟨d1, d2, d3, d4, d5, d6⟩, ⟨e2, e3, e4, e6⟩, ⟨f3, f4, f6⟩, ⟨g4, g6⟩, g7, ⟨i2, i3, i4, i6⟩⟩ := id D
  obtain ⟨R1, R2, R3, R4, R6, RI⟩ := id hR
  have e00 : (0 : Int32).toNatClampNeg = 0 := by decide
  have e0 : (0 : Int32).toInt = 0 := by decide
  have e1 : (1 : Int32).toInt = 1 := by decide
  obtain ⟨f9, h9⟩ : ∃ f, f = zc12 (zu σ.1 sh 0 (σ.1 tt 0)) TL A1 := ⟨_, rfl⟩
  obtain ⟨f1, hf1⟩ : ∃ f, f = zu (zu (zu f9 A2 0 0) A3 0 0) A6 0 (F_X10_bit 0) := ⟨_, rfl⟩
  have eq : F_X6_form sh tt co σ = if 0 < (f9 sh 0).toInt then F_X6_form_63_1 sh tt co 10000 0 1 (f1, σ.2.1, σ.2.2) else F_X6_form_63 sh tt co 10000 0 0 (f1, σ.2.1, σ.2.2) := by
    rw [hf1, h9]
    unfold F_X6_form
    simp only [zlt, hTL, R1, R2, R3, R6, e00]
    rfl
  have f9s : f9 sh 0 = σ.1 tt 0 := by rw [h9, zc12_n (fun z => d1 z.symm), zu_s]
  have s1s : f1 sh 0 = σ.1 tt 0 := by rw [hf1, zu_n _ _ _ (fun z => d5 z.symm), zu_n _ _ _ (fun z => d3 z.symm), zu_n _ _ _ (fun z => d2 z.symm), f9s]
  have s1I : ∀ j, f1 I j = σ.1 I j := fun j => by rw [hf1, zu_n _ _ _ i6, zu_n _ _ _ i3, zu_n _ _ _ i2, h9, zc12_n nI, zu_n _ _ _ d6]
  have s11 : ∀ j, j < 12 → f1 A1 j = σ.1 TL j := fun j hj => by rw [hf1, zu_n _ _ _ (fun z => e6 z.symm), zu_n _ _ _ (fun z => e3 z.symm), zu_n _ _ _ (fun z => e2 z.symm), h9, zc12_b hj, zu_n _ _ _ nT.1]
  have g1 : zFr (zB6 sh A1 A2 A3 A4 A6) σ (f1, σ.2.1, σ.2.2) := ⟨rfl, fun c j n => by
    show f1 c j = _
    have n1 : ¬ c = A1 := fun z => n (Or.inr (Or.inl z))
    have n2 : ¬ c = A2 := fun z => n (Or.inr (Or.inr (Or.inl z)))
    have n3 : ¬ c = A3 := fun z => n (Or.inr (Or.inr (Or.inr (Or.inl z))))
    have n6 : ¬ c = A6 := fun z => n (Or.inr (Or.inr (Or.inr (Or.inr (Or.inr z)))))
    rw [hf1, zu_n _ _ _ n6, zu_n _ _ _ n3, zu_n _ _ _ n2, h9, zc12_n n1]
    by_cases e : c = sh
    · rw [e, zu_j _ _ _ _ _ (fun z => n (Or.inl ⟨e, z.symm⟩))]
    · rw [zu_n _ _ _ e]⟩
  have key : ∃ (τ : zS) (l : Nat → Nat), zFr (zB3 A2 A3 A6) (f1, σ.2.1, σ.2.2) τ ∧ zLnE N u A2 A3 A6 FR l τ ∧ F_X6_form sh tt co σ = F_X6_countAbove sh co τ := by
    by_cases c : 0 < N
    · rw [eq, if_pos (by rw [f9s]; omega)]
      have b0 : ∀ j, j < 1 → ((f1 A2 j).toInt = ((0 : Nat) : Int) ∧ 0 < N ∧ f1 A3 0 = FR 0 ∧ ∀ t, t < 32 → (bt (f1 A6 0) t = true ↔ An u t 0)) := fun j hj => by
        have ej : j = 0 := by omega
        rw [ej]
        refine ⟨?_, c, ?_, fun t ht => ?_⟩
        · rw [hf1, zu_n _ _ _ (fun z => f6 z.symm), zu_n _ _ _ (fun z => f3 z.symm), zu_s]; exact e0
        · rw [hf1, zu_n _ _ _ (fun z => g6 z.symm), zu_s, hF0]
        · rw [hf1, zu_s, bt_bit (k := 0) e0 (by omega) ht, decide_eq_true_eq, An_0]
      have init : zLn N u A2 A3 A6 FR 0 1 1 (fun _ => 0) (f1, σ.2.1, σ.2.2) := ⟨⟨Nat.le_refl _, by omega, rfl⟩, b0, fun j j' h1 h2 _ => by omega, fun j h1 h2 => by omega, fun q q1 q2 => ⟨fun ⟨j, h1, h2⟩ => by
        have h2' : 0 = q := h2
        omega, fun h => by
        rcases h with ⟨j, h1, h2⟩ | ⟨h1, h2⟩
        · omega
        · omega⟩⟩
      obtain ⟨τ, l, w1, w2, w3⟩ := cForm2 (s := (f1, σ.2.1, σ.2.2)) (ℓ := σ.1 TL) (FR := FR) (tt := tt) D hR hN hT (fun c h1 h2 => by show (f1 I c).toInt = _; rw [s1I]; exact hu c h1 h2) hF (fun c h1 h2 => s11 c (by omega)) (by show (f1 sh 0).toInt = _; rw [s1s]; exact h0) 10000 0 0 1 1 (f1, σ.2.1, σ.2.2) (fun _ => 0) e0 (by omega) e1 (by omega) zFr.id init
      exact ⟨τ, l, w1, w2, w3⟩
    · refine ⟨(f1, σ.2.1, σ.2.2), fun _ => 0, zFr.id, ⟨fun j hj => by omega, fun p hp => by omega, fun p hp => by omega, fun j j' h1 h2 _ => by omega, fun j h1 h2 => by omega, fun q hq => by omega⟩, ?_⟩
      rw [eq, if_neg (by rw [f9s]; omega), F_X6_form_63]
      rw [if_neg (by rw [e0]; omega), zlt]
  obtain ⟨τ, l, w1, w2, w3⟩ := key
  have rτ : τ.2.2 = σ.2.2 := w1.rf
  have o : ∀ c j, c ≠ A2 → c ≠ A3 → c ≠ A6 → τ.1 c j = f1 c j := fun c j n2 n3 n6 => w1.2 c j (by
    rintro (z | z | z)
    · exact n2 z
    · exact n3 z
    · exact n6 z)
  obtain ⟨q1, q2⟩ := cAb (s := τ) D (by rw [rτ]; exact hR) hN hT (fun c h1 h2 => by rw [o I c i2 i3 i6, s1I]; exact hu c h1 h2) (by rw [o sh 0 (fun z => d2 z.symm) (fun z => d3 z.symm) (fun z => d5 z.symm), s1s]; exact h0) w2
  rw [w3]
  have k : ∀ c j, c ≠ A4 → (F_X6_countAbove sh co τ).1 c j = τ.1 c j := fun c j n => q1.2 c j n
  refine ⟨⟨q1.1.trans (w1.1.trans g1.1), fun c j n => ?_⟩, l, ?_, ⟨fun j hj => ?_, fun p hp => ?_, fun p hp t ht => ?_, w2.2.2.2.1, w2.2.2.2.2.1, w2.2.2.2.2.2⟩, q2, fun c h1 h2 => ?_⟩
  · rw [k c j (fun z => n (Or.inr (Or.inr (Or.inr (Or.inr (Or.inl z)))))), o c j (fun z => n (Or.inr (Or.inr (Or.inl z)))) (fun z => n (Or.inr (Or.inr (Or.inr (Or.inl z))))) (fun z => n (Or.inr (Or.inr (Or.inr (Or.inr (Or.inr z))))))]
    exact g1.2 c j n
  · rw [k sh 0 (fun z => d4 z.symm), o sh 0 (fun z => d2 z.symm) (fun z => d3 z.symm) (fun z => d5 z.symm), s1s]; exact h0
  · rw [k A2 j (fun z => f4 z.symm)]; exact w2.1 j hj
  · rw [k A3 p (fun z => g4 z.symm)]; exact w2.2.1 p hp
  · rw [k A6 p g7]; exact w2.2.2.1 p hp t ht
  · rw [k A1 c (fun z => e4 z.symm), o A1 c (fun z => e2 z.symm) (fun z => e3 z.symm) (fun z => e6 z.symm)]
    exact s11 c (by omega)
end CABOVE
end
-- 35x55.sh4
section
/-! THE REFERENCE'S SHAPE: how far, how many steps -/
theorem zTr.rec {N : Nat} {u : Nat → Nat} {α : Type} (h : zTr N u) (z : α) (g : Nat → α → α) : ∃ f : Nat → α, f 0 = z ∧ ∀ c, 1 ≤ c → c < N → f c = g c (f (u c)) := by
  obtain ⟨q, hq⟩ := h
  obtain ⟨F, hF⟩ : ∃ F : Nat → Nat → α, (∀ c, F 0 c = z) ∧ ∀ n c, F (n + 1) c = if c = 0 then z else g c (F n (u c)) := ⟨fun n => Nat.rec (fun _ => z) (fun _ f c => if c = 0 then z else g c (f (u c))) n, fun _ => rfl, fun _ _ => rfl⟩
  have st : ∀ n m c, q c < n → q c < m → c < N → F n c = F m c := by
    intro n
    induction n with
    | zero => intro m c h; exact absurd h (by omega)
    | succ n ih =>
      intro m c h1 h2 h3
      cases m with
      | zero => exact absurd h2 (by omega)
      | succ m =>
        rw [hF.2, hF.2]
        by_cases c0 : c = 0
        · rw [if_pos c0, if_pos c0]
        · obtain ⟨w1, w2⟩ := hq c (by omega) h3
          rw [if_neg c0, if_neg c0, ih m (u c) (by omega) (by omega) w1]
  refine ⟨fun c => F (q c + 1) c, (hF.2 (q 0) 0).trans (if_pos rfl), fun c h1 h2 => ?_⟩
  obtain ⟨w1, w2⟩ := hq c h1 h2
  show F (q c + 1) c = g c (F (q (u c) + 1) (u c))
  rw [hF.2, if_neg (by omega), st (q c) (q (u c) + 1) (u c) w2 (by omega) w1]
section MFAR
variable {N m0 a b c e w B : Nat} {FR SR : Nat → Int32} {s : zS}
theorem mFar1 (ab : a ≠ b) (ac : a ≠ c) (bc : b ≠ c) (wa : w ≠ a) (wb : w ≠ b) (wc : w ≠ c) (ea : e ≠ a) (eb : e ≠ b) (ec : e ≠ c) (ma : m0 ≠ a) (mb : m0 ≠ b) (mc : m0 ≠ c) (ga : (s.2.2 m0 54).getD 0 = a) (gb : (s.2.2 m0 52).getD 0 = b) (gc : (s.2.2 m0 53).getD 0 = c) (gw : (s.2.2 m0 49).getD 0 = w) (ge : (s.2.2 m0 23).getD 0 = e) (hB : (s.1 m0 18).toInt = B) (hB1 : B ≤ 1) (hr : zRow N (s.1 w)) (F0 : FR 0 = 0) (S0 : SR 0 = 0) (hF : ∀ c, 1 ≤ c → c < N → FR c = FR (uOf (s.1 w) c) + s.1 e (12 * B + c)) (hS : ∀ c, 1 ≤ c → c < N → SR c = SR (uOf (s.1 w) c) + (1 : Int32)) {i : Nat} (hi : i < N) (hN : N ≤ 12) {kA kB : Int32 → zS → zS} {q : Int → Nat} (hq : ∀ c : Nat, 1 ≤ c → c < N → q (s.1 w c).toInt < q c) : ∀ (n k : Nat) (τ : zS), q (pa (s.1 w) k (nI i)).toInt < n → zFr (zAw a b c) s τ → (∀ j, j < i → τ.1 b j = FR j ∧ τ.1 c j = SR j) → τ.1 b i + FR (up (uOf (s.1 w)) k i) = FR i → τ.1 c i + SR (up (uOf (s.1 w)) k i) = SR i → ∃ τ', zFr (zAw a b c) s τ' ∧ (∀ j, j < i + 1 → τ'.1 b j = FR j ∧ τ'.1 c j = SR j) ∧ F_X11_fillsWays_61 (nI i) m0 kA kB n (pa (s.1 w) k (nI i)) τ = kB (nI i + (1 : Int32)) τ' := by
  have i0 : (nI i).toInt = (i : Int) := nI_t (by omega)
  have ni : (nI i).toNatClampNeg = i := by rw [ztn, i0]; rfl
  have e12 : (12 : Int32).toInt = 12 := by decide
  intro n
  induction n with
  | zero => intro k τ h; exact absurd h (by omega)
  | succ n ih =>
    intro k τ hk g hj hb hc
    obtain ⟨z0, z1⟩ := pa_in (p := nI i) hr (by omega) (by omega) k
    have pu := pa_up hr hN hi k
    have r0 : τ.2.2 = s.2.2 := g.rf
    have te : ∀ j, τ.1 e j = s.1 e j := fun j => g.2 _ _ (by
      rintro (z | z | z)
      · exact ea z
      · exact eb z
      · exact ec z)
    have tm : τ.1 m0 18 = s.1 m0 18 := g.2 _ _ (by
      rintro (z | z | z)
      · exact ma z
      · exact mb z
      · exact mc z)
    rw [F_X11_fillsWays_61]
    by_cases cz : 0 < (pa (s.1 w) k (nI i)).toInt
    · rw [if_pos cz]
      simp only [zlt, r0, ga, gb, gc, gw, ge, tm, te, ni]
      have ep : pa (s.1 w) (k + 1) (nI i) = s.1 w (pa (s.1 w) k (nI i)).toNatClampNeg := by
        show stp _ (pa _ k _) = _
        unfold stp
        rw [if_pos cz]
      obtain ⟨d, hd⟩ : ∃ d, d = up (uOf (s.1 w)) k i := ⟨_, rfl⟩
      rw [← hd] at pu hb hc
      have d1 : 1 ≤ d := by omega
      have d2 : d < N := by omega
      have ud : up (uOf (s.1 w)) (k + 1) i = uOf (s.1 w) d := by
        show (if up (uOf (s.1 w)) k i = 0 then 0 else uOf (s.1 w) (up (uOf (s.1 w)) k i)) = _
        rw [← hd, if_neg (by omega)]
      have em : ((12 : Int32) * s.1 m0 18).toInt = 12 * B := by rw [zb_mul (by rw [e12, hB]; omega) (by rw [e12, hB]; omega), e12, hB]
      have ei : ((12 : Int32) * s.1 m0 18 + pa (s.1 w) k (nI i)).toNatClampNeg = 12 * B + d := by rw [ztn, zb_add (by rw [em, pu]; omega) (by rw [em, pu]; omega), em, pu]; omega
      rw [ei]
      obtain ⟨τ3, e3⟩ : ∃ τ3 : zS, τ3 = (zu (zu τ.1 b i (τ.1 b i + s.1 e (12 * B + d))) c i (zu τ.1 b i (τ.1 b i + s.1 e (12 * B + d)) c i + (1 : Int32)), τ.2.1, s.2.2) := ⟨_, rfl⟩
      have g3 : zFr (zAw a b c) s τ3 := by
        rw [e3, ← r0]
        exact (g.w (Or.inr (Or.inl rfl))).w (Or.inr (Or.inr rfl))
      have w3 : τ3.1 w = s.1 w := funext (fun j => g3.2 _ _ (fun z => z.elim wa (fun z => z.elim wb wc)))
      have b3 : ∀ j, τ3.1 b j = if j = i then τ.1 b i + s.1 e (12 * B + d) else τ.1 b j := fun j => by
        rw [e3]
        show zu (zu τ.1 b i _) c i _ b j = _
        rw [zu_n _ _ _ bc]
        by_cases cj : j = i
        · rw [if_pos cj, cj, zu_s]
        · rw [if_neg cj, zu_j _ _ _ _ _ (fun z => cj z.symm)]
      have c3 : ∀ j, τ3.1 c j = if j = i then τ.1 c i + (1 : Int32) else τ.1 c j := fun j => by
        rw [e3]
        show zu (zu τ.1 b i _) c i _ c j = _
        by_cases cj : j = i
        · rw [if_pos cj, cj, zu_s, zu_n _ _ _ (fun z => bc z.symm)]
        · rw [if_neg cj, zu_j _ _ _ _ _ (fun z => cj z.symm), zu_n _ _ _ (fun z => bc z.symm)]
      have E : ∀ (x : Int32) (τ4 : zS) (v : Int32), x = pa (s.1 w) (k + 1) (nI i) → τ4 = (zu τ3.1 a x.toNatClampNeg v, τ3.2.1, τ3.2.2) → ∃ τ', zFr (zAw a b c) s τ' ∧ (∀ j, j < i + 1 → τ'.1 b j = FR j ∧ τ'.1 c j = SR j) ∧ F_X11_fillsWays_61 (nI i) m0 kA kB n x τ4 = kB (nI i + (1 : Int32)) τ' := fun x τ4 v ex e4 => by
        rw [ex] at e4 ⊢
        have b4 : ∀ j, τ4.1 b j = τ3.1 b j := fun j => by
          rw [e4]
          show zu τ3.1 a _ _ b j = _
          rw [zu_n _ _ _ (fun z => ab z.symm)]
        have c4 : ∀ j, τ4.1 c j = τ3.1 c j := fun j => by
          rw [e4]
          show zu τ3.1 a _ _ c j = _
          rw [zu_n _ _ _ (fun z => ac z.symm)]
        refine ih (k + 1) τ4 ?_ (by rw [e4]; exact g3.w (Or.inl rfl)) (fun j h => ?_) ?_ ?_
        · have := hq (pa (s.1 w) k (nI i)).toNatClampNeg (by rw [ztn]; omega) (by rw [ztn]; omega)
          rw [show (((pa (s.1 w) k (nI i)).toNatClampNeg : Nat) : Int) = (pa (s.1 w) k (nI i)).toInt by rw [ztn]; omega, ← ep] at this
          omega
        · rw [b4, c4, b3, c3, if_neg (by omega), if_neg (by omega)]
          exact hj j h
        · rw [b4, b3, if_pos rfl, ud, Int32.add_assoc, Int32.add_comm (s.1 e (12 * B + d)), ← hF d d1 d2]
          exact hb
        · rw [c4, c3, if_pos rfl, ud, Int32.add_assoc, Int32.add_comm (1 : Int32), ← hS d d1 d2]
          exact hc
      have Z := E (τ3.1 w (pa (s.1 w) k (nI i)).toNatClampNeg) _ (τ3.1 a (τ3.1 w (pa (s.1 w) k (nI i)).toNatClampNeg).toNatClampNeg ||| ((1 : Int32) <<< (nI i &&& 31))) (by rw [w3, ep]) rfl
      rw [e3] at Z
      exact Z
    · rw [if_neg cz]
      simp only [zlt]
      have u0 : up (uOf (s.1 w)) k i = 0 := by omega
      refine ⟨τ, g, fun j h => ?_, rfl⟩
      by_cases cj : j = i
      · rw [u0, F0] at hb
        rw [u0, S0] at hc
        rw [cj]
        exact ⟨by rw [← hb, Int32.add_zero], by rw [← hc, Int32.add_zero]⟩
      · exact hj j (by omega)
theorem mFar2 (ab : a ≠ b) (ac : a ≠ c) (bc : b ≠ c) (wa : w ≠ a) (wb : w ≠ b) (wc : w ≠ c) (ea : e ≠ a) (eb : e ≠ b) (ec : e ≠ c) (ma : m0 ≠ a) (mb : m0 ≠ b) (mc : m0 ≠ c) (ga : (s.2.2 m0 54).getD 0 = a) (gb : (s.2.2 m0 52).getD 0 = b) (gc : (s.2.2 m0 53).getD 0 = c) (gw : (s.2.2 m0 49).getD 0 = w) (ge : (s.2.2 m0 23).getD 0 = e) (hB : (s.1 m0 18).toInt = B) (hB1 : B ≤ 1) (hr : zRow N (s.1 w)) (F0 : FR 0 = 0) (S0 : SR 0 = 0) (hF : ∀ c, 1 ≤ c → c < N → FR c = FR (uOf (s.1 w) c) + s.1 e (12 * B + c)) (hS : ∀ c, 1 ≤ c → c < N → SR c = SR (uOf (s.1 w) c) + (1 : Int32)) (hN : N ≤ 12) (hM : ∀ τ, zFr (zAw a b c) s τ → (F_X11_many m0 τ).toInt = N) {kA : Int32 → zS → zS} : ∀ (n : Nat) (x : Int32) (i : Nat) (τ : zS), x.toInt = i → i ≤ N → N - i < n → zFr (zAw a b c) s τ → (∀ j, j < i → τ.1 b j = FR j ∧ τ.1 c j = SR j) → ∀ j, j < N → (F_X11_fillsWays_25 m0 kA n x τ).1 b j = FR j ∧ (F_X11_fillsWays_25 m0 kA n x τ).1 c j = SR j := by
  obtain ⟨q, hq1, hq2⟩ := id hr
  intro n
  induction n with
  | zero => intro x i τ _ _ h; exact absurd h (by omega)
  | succ n ih =>
    intro x i τ hx hi hm g hj
    have ex : x = nI i := zNi hx (by omega)
    have r0 : τ.2.2 = s.2.2 := g.rf
    have M := hM τ g
    rw [F_X11_fillsWays_25]
    simp only [zlt, r0, ga, gb, gc]
    by_cases cx : i < N
    · rw [if_pos (by omega), ex]
      have i0 : (nI i).toInt = (i : Int) := nI_t (by omega)
      have ni : (nI i).toNatClampNeg = i := by rw [ztn, i0]; rfl
      obtain ⟨τ3, e3⟩ : ∃ τ3 : zS, τ3 = (zu (zu τ.1 b (nI i).toNatClampNeg (0 : Int32)) c (nI i).toNatClampNeg (0 : Int32), τ.2.1, s.2.2) := ⟨_, rfl⟩
      have g3 : zFr (zAw a b c) s τ3 := by
        rw [e3, ← r0]
        exact (g.w (Or.inr (Or.inl rfl))).w (Or.inr (Or.inr rfl))
      rw [ni] at e3
      have b3 : ∀ j, τ3.1 b j = if j = i then 0 else τ.1 b j := fun j => by
        rw [e3]
        show zu (zu τ.1 b i 0) c i 0 b j = _
        rw [zu_n _ _ _ bc]
        by_cases cj : j = i
        · rw [if_pos cj, cj, zu_s]
        · rw [if_neg cj, zu_j _ _ _ _ _ (fun z => cj z.symm)]
      have c3 : ∀ j, τ3.1 c j = if j = i then 0 else τ.1 c j := fun j => by
        rw [e3]
        show zu (zu τ.1 b i 0) c i 0 c j = _
        by_cases cj : j = i
        · rw [if_pos cj, cj, zu_s]
        · rw [if_neg cj, zu_j _ _ _ _ _ (fun z => cj z.symm), zu_n _ _ _ (fun z => bc z.symm)]
      have E : ∀ (τ4 : zS) (v : Int32), τ4 = (zu τ3.1 a (nI i).toNatClampNeg v, τ3.2.1, τ3.2.2) → ∀ j, j < N → (F_X11_fillsWays_61 (nI i) m0 kA (F_X11_fillsWays_25 m0 kA n) 10000 (nI i) τ4).1 b j = FR j ∧ (F_X11_fillsWays_61 (nI i) m0 kA (F_X11_fillsWays_25 m0 kA n) 10000 (nI i) τ4).1 c j = SR j := fun τ4 v e4 => by
        have g4 : zFr (zAw a b c) s τ4 := by rw [e4]; exact g3.w (Or.inl rfl)
        have b4 : ∀ j, τ4.1 b j = τ3.1 b j := fun j => by
          rw [e4]
          show zu τ3.1 a _ _ b j = _
          rw [zu_n _ _ _ (fun z => ab z.symm)]
        have c4 : ∀ j, τ4.1 c j = τ3.1 c j := fun j => by
          rw [e4]
          show zu τ3.1 a _ _ c j = _
          rw [zu_n _ _ _ (fun z => ac z.symm)]
        obtain ⟨τ5, k1, k2, k3⟩ := mFar1 ab ac bc wa wb wc ea eb ec ma mb mc ga gb gc gw ge hB hB1 hr F0 S0 hF hS cx hN (kA := kA) (kB := F_X11_fillsWays_25 m0 kA n) (q := q) (fun c c1 c2 => (hq1 c c1 c2).2.2) 10000 0 τ4 (by have := hq2 (pa (s.1 w) 0 (nI i)).toInt; omega) g4 (fun j h => by
          rw [b4, c4, b3, c3, if_neg (by omega), if_neg (by omega)]
          exact hj j h) (by
          rw [b4, b3, if_pos rfl]
          show (0 : Int32) + FR i = FR i
          rw [Int32.zero_add]) (by
          rw [c4, c3, if_pos rfl]
          show (0 : Int32) + SR i = SR i
          rw [Int32.zero_add])
        have k3' : F_X11_fillsWays_61 (nI i) m0 kA (F_X11_fillsWays_25 m0 kA n) 10000 (nI i) τ4 = F_X11_fillsWays_25 m0 kA n (nI i + (1 : Int32)) τ5 := k3
        rw [k3']
        exact ih _ (i + 1) τ5 (zp1 i0 (by omega)) (by omega) (by omega) k1 k2
      have Z := E _ (τ3.1 a (nI i).toNatClampNeg ||| ((1 : Int32) <<< (nI i &&& 31))) rfl
      rw [e3] at Z
      rw [ni] at Z ⊢
      exact Z
    · rw [if_neg (by omega)]
      obtain rfl : i = N := by omega
      exact hj
theorem mFar3 (ab : a ≠ b) (ac : a ≠ c) (bc : b ≠ c) (wa : w ≠ a) (wb : w ≠ b) (wc : w ≠ c) (ea : e ≠ a) (eb : e ≠ b) (ec : e ≠ c) (ma : m0 ≠ a) (mb : m0 ≠ b) (mc : m0 ≠ c) (ga : (s.2.2 m0 54).getD 0 = a) (gb : (s.2.2 m0 52).getD 0 = b) (gc : (s.2.2 m0 53).getD 0 = c) (gw : (s.2.2 m0 49).getD 0 = w) (ge : (s.2.2 m0 23).getD 0 = e) (hB : (s.1 m0 18).toInt = B) (hB1 : B ≤ 1) (hr : zRow N (s.1 w)) (F0 : FR 0 = 0) (S0 : SR 0 = 0) (hF : ∀ c, 1 ≤ c → c < N → FR c = FR (uOf (s.1 w) c) + s.1 e (12 * B + c)) (hS : ∀ c, 1 ≤ c → c < N → SR c = SR (uOf (s.1 w) c) + (1 : Int32)) (hN : N ≤ 12) (hM : ∀ τ, zFr (zAw a b c) s τ → (F_X11_many m0 τ).toInt = N) : ∀ (n : Nat) (x : Int32) (i : Nat) (τ : zS), x.toInt = i → i ≤ N → N - i < n → zFr (zAw a b c) s τ → ∀ j, j < N → (F_X11_fillsWays_2 m0 n x τ).1 b j = FR j ∧ (F_X11_fillsWays_2 m0 n x τ).1 c j = SR j := by
  intro n
  induction n with
  | zero => intro x i τ _ _ h; exact absurd h (by omega)
  | succ n ih =>
    intro x i τ hx hi hm g
    have r0 : τ.2.2 = s.2.2 := g.rf
    have M := hM τ g
    rw [F_X11_fillsWays_2]
    simp only [zlt, r0, ga]
    by_cases cx : i < N
    · rw [if_pos (by omega)]
      exact ih (x + (1 : Int32)) (i + 1) _ (zp1 hx (by omega)) (by omega) (by omega) (by rw [← r0]; exact g.w (Or.inl rfl))
    · rw [if_neg (by omega)]
      exact mFar2 ab ac bc wa wb wc ea eb ec ma mb mc ga gb gc gw ge hB hB1 hr F0 S0 hF hS hN hM 10000 0 0 τ (by decide) (by omega) (by omega) g (fun j h => absurd h (by omega))
end MFAR
section MFAR2
variable {L : List Nat} {kd : Nat → Nat} {m0 N B : Nat} {FR SR : Nat → Int32} {σ : zS} {κ : Int}
/-- the reference's shape behind copies: bits of who comes by, how far, how many steps; all that bears on it as it was -/
def zShM (N : Nat) (u : Nat → Nat) (FR SR : Nat → Int32) (m0 : Nat) (σ t : zS) : Prop := t.2 = σ.2 ∧ (∀ p j, p < N → j < 32 → (bt (t.1 (mR σ m0 54) p) j = true ↔ (j < N ∧ An u p j))) ∧ (∀ p, p < N → t.1 (mR σ m0 52) p = FR p ∧ t.1 (mR σ m0 53) p = SR p) ∧ (∀ j, j < 50 → t.1 (mR σ m0 49) j = σ.1 (mR σ m0 48) j) ∧ zFr (zFm [50, 51, 47] [49, 54, 52, 53, 45, 46, 55] m0 σ.2.2) σ t
set_option maxHeartbeats 1000000 in
theorem mShp (hJ : zJ κ L kd σ) (hm : zT L kd m0 11) (hM : zM m0 σ = N) (hN : N ≤ 12) (hr : zRow N (σ.1 (mR σ m0 48))) (hB : (σ.1 m0 18).toInt = B) (hB1 : B ≤ 1) (F0 : FR 0 = 0) (S0 : SR 0 = 0) (hF : ∀ c, 1 ≤ c → c < N → FR c = FR (uOf (σ.1 (mR σ m0 48)) c) + σ.1 (mR σ m0 23) (12 * B + c)) (hS : ∀ c, 1 ≤ c → c < N → SR c = SR (uOf (σ.1 (mR σ m0 48)) c) + (1 : Int32)) : zShM N (uOf (σ.1 (mR σ m0 48))) FR SR m0 σ (F_X11_copies m0 σ) := by
  obtain ⟨C1, C2, C3⟩ := zCopies2 hJ hm
  obtain ⟨s, hs⟩ : ∃ s, s = zCp m0 σ σ := ⟨_, rfl⟩
  have hc : F_X11_copies m0 σ = F_X11_fillsFlows m0 0 (F_X11_fillsWays m0 s) := by rw [zCopies hJ hm rfl, hs]
  have rm : mR σ m0 49 ≠ m0 := mR_m hJ hm (s := 49) (k := 149) (by rfl) (by decide)
  have s2 : s.2 = σ.2 := by rw [hs]; rfl
  have rs : s.2.2 = σ.2.2 := by rw [s2]
  have row : ∀ j, j < 50 → s.1 (mR σ m0 49) j = σ.1 (mR σ m0 48) j := fun j hj => by
    rw [hs]
    show zu (zu (zcf σ.1 (mR σ m0 49) (mR σ m0 48) 0 0 0 50) m0 50 _) m0 51 0 (mR σ m0 49) j = _
    rw [zu_n _ _ _ rm, zu_n _ _ _ rm, zcf_i ⟨by omega, by omega⟩]
    exact congrArg _ (by omega)
  have base : zFr (zFm [50, 51] [49] m0 σ.2.2) σ (zcf σ.1 (mR σ m0 49) (mR σ m0 48) 0 0 0 50, σ.2.1, σ.2.2) := ⟨rfl, fun c j n => congrFun (zcf_n (fun z => n (Or.inr ⟨49, by decide, z⟩))) j⟩
  have gs : zFr (zFm [50, 51] [49] m0 σ.2.2) σ s := by
    rw [hs]
    exact (base.w (j := 50) (zFm.f (by rfl))).w (j := 51) (zFm.f (by rfl))
  have hMs : (F_X11_many m0 s).toInt = N := by rw [mMany_g hJ hm gs (by rfl) (by rfl) (by rfl), hM]
  have s18 : s.1 m0 18 = σ.1 m0 18 := zFm.fld hJ hm gs (by rfl) (by rfl)
  have s23 : s.1 (mR σ m0 23) = σ.1 (mR σ m0 23) := zFm.row hJ hm gs (s := 23) (by rfl) (by rfl) (by rfl)
  obtain ⟨t, ht⟩ : ∃ t, t = F_X11_fillsWays m0 s := ⟨_, rfl⟩
  have gt : zFr (zFm [] [54, 52, 53] m0 s.2.2) s t := by rw [ht]; exact fr_X11_fillsWays zFr.id (zFm.s rfl) (zFm.s rfl) (zFm.s rfl)
  have rt : t.2.2 = σ.2.2 := by rw [gt.rf, rs]
  have g2 : zFr (zFm [47] [45, 46, 55] m0 σ.2.2) t (F_X11_fillsFlows m0 0 t) := fr_X11_fillsFlows zFr.id (by rw [rt]; exact zFm.s rfl) (zFm.f rfl) (by rw [rt]; exact zFm.s rfl) (by rw [rt]; exact zFm.s rfl)
  have fl : ∀ x, (x = 54 ∨ x = 52 ∨ x = 53) → ∀ j, (F_X11_copies m0 σ).1 (mR σ m0 x) j = t.1 (mR σ m0 x) j := fun x hx j => by
    rw [hc, ← ht]
    have hz : zf 0 11 x = some (100 + x) := by rcases hx with rfl | rfl | rfl <;> rfl
    refine g2.2 _ _ ?_
    rintro (⟨e, -⟩ | ⟨y, hy, e⟩)
    · exact mR_m hJ hm hz (by omega) e
    · have h2 : zf 0 11 y = some (100 + y) ∧ y ≠ x := by
        simp only [List.mem_cons, List.not_mem_nil, or_false] at hy
        rcases hy with rfl | rfl | rfl <;> exact ⟨by rfl, by omega⟩
      exact mR_ne hJ hm hz h2.1 (by omega) e
  have e2 : t = F_X11_fillsWays_2 m0 10000 0 s := by
    rw [ht]
    unfold F_X11_fillsWays
    simp only [zlt]
  have ne : ∀ {x y : Nat}, zf 0 11 x = some (100 + x) → zf 0 11 y = some (100 + y) → x ≠ y → mR σ m0 x ≠ mR σ m0 y := fun h1 h2 h3 => mR_ne hJ hm h1 h2 (by omega)
  have nm : ∀ {x : Nat}, zf 0 11 x = some (100 + x) → m0 ≠ mR σ m0 x := fun {x} h1 z => by
    have h3 := zf_100 h1
    exact mR_m hJ hm h1 h3 z.symm
  have g : ∀ x, (s.2.2 m0 x).getD 0 = mR σ m0 x := fun x => by rw [rs]
  have many : ∀ τ, zFr (zAw (mR σ m0 54) (mR σ m0 52) (mR σ m0 53)) s τ → (F_X11_many m0 τ).toInt = N := fun τ h => by
    rw [← hMs]
    unfold F_X11_many
    simp only [zlt]
    rw [h.rf, g 21]
    rw [h.2 m0 18 (fun z => z.elim (nm (by rfl)) (fun z => z.elim (nm (by rfl)) (nm (by rfl))))]
    rw [h.2 (mR σ m0 21) _ (fun z => z.elim (ne (by rfl) (by rfl) (by decide)) (fun z => z.elim (ne (by rfl) (by rfl) (by decide)) (ne (by rfl) (by rfl) (by decide))))]
  have hrs : zRow N (s.1 (mR σ m0 49)) := hr.cg (fun c _ c2 => row c (by omega))
  have ue : ∀ c, 1 ≤ c → c < N → uOf (s.1 (mR σ m0 49)) c = uOf (σ.1 (mR σ m0 48)) c := uOf_cg (fun c _ c2 => row c (by omega))
  obtain ⟨-, Q⟩ := mWay3 (s := s) (m0 := m0) (ne (x := 54) (y := 52) (by rfl) (by rfl) (by decide)) (ne (x := 54) (y := 53) (by rfl) (by rfl) (by decide)) (ne (x := 49) (y := 54) (by rfl) (by rfl) (by decide)) (ne (x := 49) (y := 52) (by rfl) (by rfl) (by decide)) (ne (x := 49) (y := 53) (by rfl) (by rfl) (by decide)) (g 54) (g 52) (g 53) (g 49) hrs hN many 10000 0 0 s (by decide) (by omega) (by omega) zFr.id (fun t ht => absurd ht (by omega))
  have W := mFar3 (s := s) (m0 := m0) (B := B) (FR := FR) (SR := SR) (ne (x := 54) (y := 52) (by rfl) (by rfl) (by decide)) (ne (x := 54) (y := 53) (by rfl) (by rfl) (by decide)) (ne (x := 52) (y := 53) (by rfl) (by rfl) (by decide)) (ne (x := 49) (y := 54) (by rfl) (by rfl) (by decide)) (ne (x := 49) (y := 52) (by rfl) (by rfl) (by decide)) (ne (x := 49) (y := 53) (by rfl) (by rfl) (by decide)) (ne (x := 23) (y := 54) (by rfl) (by rfl) (by decide)) (ne (x := 23) (y := 52) (by rfl) (by rfl) (by decide)) (ne (x := 23) (y := 53) (by rfl) (by rfl) (by decide)) (nm (x := 54) (by rfl)) (nm (x := 52) (by rfl)) (nm (x := 53) (by rfl)) (g 54) (g 52) (g 53) (g 49) (g 23) (by rw [s18]; exact hB) hB1 hrs F0 S0 (fun c c1 c2 => by rw [ue c c1 c2, s23]; exact hF c c1 c2) (fun c c1 c2 => by rw [ue c c1 c2]; exact hS c c1 c2) hN many 10000 0 0 s (by decide) (by omega) (by omega) zFr.id
  rw [← e2] at Q W
  refine ⟨C1, fun p j hp hj => ?_, fun p hp => ?_, C2, C3⟩
  · rw [fl 54 (by omega), Q p j hp hj]
    constructor
    · rintro (⟨h1, h2⟩ | ⟨-, h⟩)
      · exact ⟨h1, (An_cg hr.tr ue j h1 p).mp ((pa_An hrs hN h1).mp h2)⟩
      · exact h.elim
    · rintro ⟨h1, h2⟩
      exact Or.inl ⟨h1, (pa_An hrs hN h1).mpr ((An_cg hr.tr ue j h1 p).mpr h2)⟩
  · rw [fl 52 (by omega), fl 53 (by omega)]
    exact W p hp
end MFAR2
end
-- 35x56.sh5
section
/-! BOTH LOOK -/
/-- the lengths told are alike -/
def zLen (x0 m0 : Nat) (σ1 σ2 : zS) : Prop := ∀ p : Nat, 1 ≤ p → (p : Int) < zM m0 σ2 → σ1.1 ((σ1.2.2 ((σ1.2.2 x0 10).getD 0) 3).getD 0) p = σ2.1 (mR σ2 m0 23) (12 * (σ2.1 m0 18).toInt.toNat + p) ∧ 1 ≤ (σ2.1 (mR σ2 m0 23) (12 * (σ2.1 m0 18).toInt.toNat + p)).toInt ∧ (σ2.1 (mR σ2 m0 23) (12 * (σ2.1 m0 18).toInt.toNat + p)).toInt ≤ 99
/-- what a look of the class writes -/
def zKs (kd : Nat → Nat) : Nat → Nat → Prop := fun c _ => kd c = 6 ∨ kd c = 20 ∨ kd c = 21 ∨ kd c = 30 ∨ kd c = 31 ∨ kd c = 33 ∨ kd c = 34 ∨ kd c = 35 ∨ kd c = 36 ∨ kd c = 38
section LOOKC
variable {κ : Int} {L : List Nat} {kd : Nat → Nat} {x0 : Nat} {V : zWh} {ps pc sl rv sh cd td N A1 A2 A3 A4 A6 : Nat} {u l : Nat → Nat} {ℓ FR : Nat → Int32} {σ s t : zS}
theorem zShp.cg (h : zShp N u ℓ FR sh A1 A2 A3 A4 A6 l s) (e0 : t.1 sh 0 = s.1 sh 0) (e1 : t.1 A1 = s.1 A1) (e2 : t.1 A2 = s.1 A2) (e3 : t.1 A3 = s.1 A3) (e4 : t.1 A4 = s.1 A4) (e6 : t.1 A6 = s.1 A6) : zShp N u ℓ FR sh A1 A2 A3 A4 A6 l t := by
  unfold zShp zLnE
  rw [e0, e1, e2, e3, e4, e6]
  exact h
theorem cLook (hL : zLay L kd x0 σ.2.2 V ps pc sl) (hV : zRv L kd x0 rv sh cd σ.2.2) (hI : zI κ 0 L kd σ) (d1 : σ.2.2 x0 10 = some td) (td9 : zT L kd td 9) (hN : N ≤ 12) (h0 : (σ.1 td 0).toInt = N) (hT : zTr N u) (hu : ∀ c, 1 ≤ c → c < N → (σ.1 (V.2.1 0) c).toInt = u c) (F0 : FR 0 = 0) (hF : ∀ c, 1 ≤ c → c < N → FR c = FR (u c) + σ.1 ((σ.2.2 td 3).getD 0) c) : (∀ a j, ¬ (a = rv ∧ (j = 5 ∨ j = 6)) → (F_X10_look x0 σ).2.2 a j = σ.2.2 a j) ∧ (∀ c j, ¬ zKs kd c j → (F_X10_look x0 σ).1 c j = σ.1 c j) ∧ ∃ l, zShp N u (σ.1 ((σ.2.2 td 3).getD 0)) FR sh ((σ.2.2 sh 1).getD 0) ((σ.2.2 sh 2).getD 0) ((σ.2.2 sh 3).getD 0) ((σ.2.2 sh 4).getD 0) ((σ.2.2 sh 6).getD 0) l (F_X10_look x0 σ) := by
  obtain ⟨⟨a1, a2, a3, a4⟩, ⟨t0, t1, t2, t3⟩, b, c, d, e, f⟩ := id hV
  obtain ⟨TL, l1, l2⟩ := zi_ref (j := 3) (k2 := 46) hI td9 (by rfl)
  have gT : (σ.2.2 td 3).getD 0 = TL := by rw [l1]; rfl
  rw [gT] at hF ⊢
  obtain ⟨⟨tA, tI, tW, tM⟩, -⟩ := hL.2.2.2.1 0 (by decide)
  have k1 := d 1 (by omega) (by omega)
  have k2 := d 2 (by omega) (by omega)
  have k3 := d 3 (by omega) (by omega)
  have k4 := d 4 (by omega) (by omega)
  have k6 := d 6 (by omega) (by omega)
  generalize hA1 : (σ.2.2 sh 1).getD 0 = A1 at k1 ⊢
  generalize hA2 : (σ.2.2 sh 2).getD 0 = A2 at k2 ⊢
  generalize hA3 : (σ.2.2 sh 3).getD 0 = A3 at k3 ⊢
  generalize hA4 : (σ.2.2 sh 4).getD 0 = A4 at k4 ⊢
  generalize hA6 : (σ.2.2 sh 6).getD 0 = A6 at k6 ⊢
  obtain ⟨s, hs⟩ : ∃ s : zS, s = (σ.1, σ.2.1, zu (zu σ.2.2 rv 5 (some td)) rv 6 (some (V.1 0))) := ⟨_, rfl⟩
  have sr : ∀ a, a ≠ rv → s.2.2 a = σ.2.2 a := fun a ha => by
    rw [hs]
    show zu (zu σ.2.2 rv 5 _) rv 6 _ a = _
    rw [zu_n _ _ _ ha, zu_n _ _ _ ha]
  have srv : ∀ j, j ≠ 5 → j ≠ 6 → s.2.2 rv j = σ.2.2 rv j := fun j h5 h6 => by
    rw [hs]
    show zu (zu σ.2.2 rv 5 _) rv 6 _ rv j = _
    rw [zu_j _ _ _ _ _ (fun z => h6 z.symm), zu_j _ _ _ _ _ (fun z => h5 z.symm)]
  have g0 : (zu (zu σ.2.2 rv 5 (some td)) rv 6 (some (V.1 0)) rv 0).getD 0 = sh := by
    rw [zu_j _ _ _ _ _ (by decide), zu_j _ _ _ _ _ (by decide), a3]
    rfl
  have g10 : (σ.2.2 x0 10).getD 0 = td := by rw [d1]; rfl
  have eq : F_X10_look x0 σ = F_X5_fall rv 0 (F_X6_form sh td (V.1 0) s) := by
    rw [hs]
    unfold F_X10_look F_X5_look F_X5_form
    simp only [zlt, xrv hV, g10, xnw hL, g0]
  have nsh : sh ≠ rv := zNk t2 t1 (by decide)
  have nA : V.1 0 ≠ rv := zNk tA t1 (by decide)
  have ntd : td ≠ rv := zNk td9 t1 (by decide)
  have ss : ∀ c j, s.1 c j = σ.1 c j := fun c j => by rw [hs]
  obtain ⟨fr, l, hP⟩ := cForm (tt := td) (co := V.1 0) (sh := sh) (I := V.2.1 0) (σ := s) (FR := FR) (TL := TL) (N := N) (u := u) (A1 := A1) (A2 := A2) (A3 := A3) (A4 := A4) (A6 := A6) ⟨⟨zNk k1 t2 (by decide), zNk k2 t2 (by decide), zNk k3 t2 (by decide), zNk k4 t2 (by decide), zNk k6 t2 (by decide), zNk tI t2 (by decide)⟩, ⟨zNk k2 k1 (by decide), zNk k3 k1 (by decide), zNk k4 k1 (by decide), zNk k6 k1 (by decide)⟩, ⟨zNk k3 k2 (by decide), zNk k4 k2 (by decide), zNk k6 k2 (by decide)⟩, ⟨zNk k4 k3 (by decide), zNk k6 k3 (by decide)⟩, zNk k6 k4 (by decide), ⟨zNk tI k2 (by decide), zNk tI k3 (by decide), zNk tI k4 (by decide), zNk tI k6 (by decide)⟩⟩ ⟨by rw [sr sh nsh]; exact hA1, by rw [sr sh nsh]; exact hA2, by rw [sr sh nsh]; exact hA3, by rw [sr sh nsh]; exact hA4, by rw [sr sh nsh]; exact hA6, by rw [sr _ nA]; exact (hL.gA (k := 0) (by decide)).1⟩ (by rw [sr td ntd]; exact gT) ⟨zNk l2 t2 (by decide), zNk l2 k1 (by decide)⟩ (zNk tI k1 (by decide)) hN hT (fun c h1 h2 => by rw [ss]; exact hu c h1 h2) (by rw [ss]; exact h0) F0 (fun c h1 h2 => by rw [ss]; exact hF c h1 h2)
  have hP' : zShp N u (σ.1 TL) FR sh A1 A2 A3 A4 A6 l (F_X6_form sh td (V.1 0) s) := by
    have e : s.1 TL = σ.1 TL := funext (fun j => ss TL j)
    rw [← e]
    exact hP
  obtain ⟨w, hw⟩ : ∃ w, w = F_X6_form sh td (V.1 0) s := ⟨_, rfl⟩
  rw [← hw] at fr hP' eq
  have rw' : w.2.2 = s.2.2 := fr.rf
  have w1 : (w.2.2 rv 1).getD 0 = cd := by rw [rw', srv 1 (by decide) (by decide), a4]; rfl
  have ncd : cd ≠ rv := zNk t3 t1 (by decide)
  have fl : zFr (fun c _ => kd c = 20 ∨ kd c = 21 ∨ kd c = 30 ∨ kd c = 31) w (F_X5_fall rv 0 w) := fr_X5_fall zFr.id (fun _ => by rw [w1, rw', sr cd ncd]; exact Or.inl (c 0 (Or.inl rfl)).2) (fun _ => by rw [w1, rw', sr cd ncd]; exact Or.inr (Or.inl (c 1 (Or.inr rfl)).2)) (fun _ => by rw [rw', srv 2 (by decide) (by decide)]; exact Or.inr (Or.inr (Or.inl (b 2 (by omega)).2))) (fun _ => by rw [rw', srv 3 (by decide) (by decide)]; exact Or.inr (Or.inr (Or.inr (b 3 (by omega)).2)))
  have keep : ∀ c kc, zT L kd c kc → kc ≠ 20 → kc ≠ 21 → kc ≠ 30 → kc ≠ 31 → (F_X5_fall rv 0 w).1 c = w.1 c := fun c kc hc n1 n2 n3 n4 => funext (fun j => fl.2 c j (show ¬ (kd c = 20 ∨ kd c = 21 ∨ kd c = 30 ∨ kd c = 31) from by
    rw [hc.2]
    omega))
  rw [eq]
  refine ⟨fun a j n => ?_, fun c j n => ?_, l, hP'.cg (by rw [keep sh 6 t2 (by decide) (by decide) (by decide) (by decide)]) (keep A1 _ k1 (by decide) (by decide) (by decide) (by decide)) (keep A2 _ k2 (by decide) (by decide) (by decide) (by decide)) (keep A3 _ k3 (by decide) (by decide) (by decide) (by decide)) (keep A4 _ k4 (by decide) (by decide) (by decide) (by decide)) (keep A6 _ k6 (by decide) (by decide) (by decide) (by decide))⟩
  · rw [fl.rf, rw']
    by_cases ca : a = rv
    · rw [ca]
      exact srv j (fun z => n ⟨ca, Or.inl z⟩) (fun z => n ⟨ca, Or.inr z⟩)
    · rw [sr a ca]
  · rw [fl.2 c j (fun z => n (by unfold zKs; omega)), fr.2 c j (by
      rintro (⟨z, -⟩ | z | z | z | z | z)
      · exact n (by unfold zKs; rw [z, t2.2]; omega)
      · exact n (by unfold zKs; rw [z, k1.2]; omega)
      · exact n (by unfold zKs; rw [z, k2.2]; omega)
      · exact n (by unfold zKs; rw [z, k3.2]; omega)
      · exact n (by unfold zKs; rw [z, k4.2]; omega)
      · exact n (by unfold zKs; rw [z, k6.2]; omega)), ss]
end LOOKC
section LOOKB
variable {κ : Int} {L1 : List Nat} {kd1 : Nat → Nat} {L2 : List Nat} {kd2 : Nat → Nat} {σ1 σ2 : zS} {m0 x0 : Nat} {Q : Nat → zCo → (Nat → Int32) → Prop} {V : zWh} {ps pc sl rv sh cd : Nat}
/-- both have looked: one tree, one measure -/
def zLk (N : Nat) (u : Nat → Nat) (FR SR ℓ : Nat → Int32) (kd1 : Nat → Nat) (x0 m0 rv sh : Nat) (l : Nat → Nat) (σ1 σ2 s t : zS) : Prop :=
  (N ≤ 12 ∧ zM m0 σ2 = N ∧ (σ1.1 ((σ1.2.2 x0 10).getD 0) 0).toInt = N ∧ zTr N u) ∧ (FR 0 = 0 ∧ SR 0 = 0 ∧ (∀ c, 1 ≤ c → c < N → FR c = FR (u c) + ℓ c) ∧ (∀ c, 1 ≤ c → c < N → SR c = SR (u c) + (1 : Int32)) ∧ ∀ c, 1 ≤ c → c < N → 1 ≤ (ℓ c).toInt ∧ (ℓ c).toInt ≤ 99) ∧ (∀ c, 1 ≤ c → c < N → σ2.1 (mR σ2 m0 23) (12 * (σ2.1 m0 18).toInt.toNat + c) = ℓ c ∧ (σ2.1 (mR σ2 m0 48) c).toInt = u c) ∧ ((∀ a j, ¬ (a = rv ∧ (j = 5 ∨ j = 6)) → s.2.2 a j = σ1.2.2 a j) ∧ (∀ c j, ¬ zKs kd1 c j → s.1 c j = σ1.1 c j) ∧ zShp N u ℓ FR sh ((σ1.2.2 sh 1).getD 0) ((σ1.2.2 sh 2).getD 0) ((σ1.2.2 sh 3).getD 0) ((σ1.2.2 sh 4).getD 0) ((σ1.2.2 sh 6).getD 0) l s) ∧ zShM N u FR SR m0 σ2 t
theorem zRL.lk (hG : zGd Q) (h : zRL Q L1 kd1 x0 m0 V ps pc sl rv sh cd σ1 σ2) (hl : zLen x0 m0 σ1 σ2) (hx : zT L1 kd1 x0 10) (hI : zI κ 0 L1 kd1 σ1) (hJ : zJ κ L2 kd2 σ2) (hm : zT L2 kd2 m0 11) (hg : gN m0 σ2) : ∃ (N : Nat) (u : Nat → Nat) (FR SR ℓ : Nat → Int32) (l : Nat → Nat), zLk N u FR SR ℓ kd1 x0 m0 rv sh l σ1 σ2 (F_X10_look x0 σ1) (F_X11_copies m0 σ2) := by
  obtain ⟨hL, hV, N, n, uu, ⟨a1, a2, a3, -⟩, hq, -⟩ := id h
  obtain ⟨r2, r1, er⟩ := h.rows hG hg a2 a3
  obtain ⟨td, d1, d2⟩ := zi_ref (j := 10) (k2 := 9) hI hx (by rfl)
  have gd : (σ1.2.2 x0 10).getD 0 = td := by rw [d1]; rfl
  obtain ⟨u, hu⟩ : ∃ u, u = uOf (σ2.1 (mR σ2 m0 48)) := ⟨_, rfl⟩
  have hT : zTr N u := by rw [hu]; exact r2.tr
  have r18 : 0 ≤ (σ2.1 m0 18).toInt ∧ (σ2.1 m0 18).toInt ≤ 1 := zj_get (j := 18) hJ hm (lo := 0) (hi := 1) (by rfl)
  obtain ⟨B, hB⟩ : ∃ B, B = (σ2.1 m0 18).toInt.toNat := ⟨_, rfl⟩
  obtain ⟨ℓ, hℓ⟩ : ∃ ℓ : Nat → Int32, ℓ = σ1.1 ((σ1.2.2 td 3).getD 0) := ⟨_, rfl⟩
  have hl' : ∀ c, 1 ≤ c → c < N → ℓ c = σ2.1 (mR σ2 m0 23) (12 * B + c) ∧ 1 ≤ (σ2.1 (mR σ2 m0 23) (12 * B + c)).toInt ∧ (σ2.1 (mR σ2 m0 23) (12 * B + c)).toInt ≤ 99 := fun c c1 c2 => by
    have := hl c c1 (by rw [a2]; omega)
    rw [gd, ← hB, ← hℓ] at this
    exact this
  obtain ⟨FR, F0, hF⟩ := hT.rec (0 : Int32) (fun c z => z + ℓ c)
  obtain ⟨SR, S0, hS⟩ := hT.rec (0 : Int32) (fun _ z => z + (1 : Int32))
  have u2 : ∀ c, 1 ≤ c → c < N → (σ2.1 (mR σ2 m0 48) c).toInt = u c := fun c c1 c2 => by rw [hu]; exact r2.u c1 c2
  rw [gd] at a1
  obtain ⟨C1, C2, l, C3⟩ := cLook hL hV hI d1 d2 a3 a1 hT (fun c c1 c2 => by rw [er c c1 c2]; exact u2 c c1 c2) F0 (fun c c1 c2 => by rw [← hℓ]; exact hF c c1 c2)
  rw [← hℓ] at C3
  have M := mShp (N := N) (B := B) (FR := FR) (SR := SR) hJ hm a2 a3 r2 (by omega) (by omega) F0 S0 (fun c c1 c2 => by rw [← hu, ← (hl' c c1 c2).1]; exact hF c c1 c2) (fun c c1 c2 => by rw [← hu]; exact hS c c1 c2)
  rw [← hu] at M
  refine ⟨N, u, FR, SR, ℓ, l, ⟨a3, a2, by rw [gd]; exact a1, hT⟩, ⟨F0, S0, hF, hS, fun c c1 c2 => ?_⟩, fun c c1 c2 => ⟨?_, u2 c c1 c2⟩, ⟨C1, C2, C3⟩, M⟩
  · obtain ⟨w1, w2, w3⟩ := hl' c c1 c2
    rw [w1]
    exact ⟨w2, w3⟩
  · rw [← hB]
    exact (hl' c c1 c2).1.symm
end LOOKB
end
-- 35x57.sh6
section
/-! SOURCES, TOURS: on both sides -/
def Src (N : Nat) (u : Nat → Nat) (p : Nat) : Prop := 1 ≤ p ∧ p < N ∧ ∀ j, j < N → An u p j → j = p
theorem cnt_one {N p : Nat} {u : Nat → Nat} (hp : p < N) : cnt (fun j => An u p j) N = 1 ↔ ∀ j, j < N → An u p j → j = p := by
  have e : cnt (fun j => An u p j) N = cnt (fun j => j = p ∨ (An u p j ∧ j ≠ p)) N := cnt_cg N (fun j _ => by
    constructor
    · intro h
      by_cases c : j = p
      · exact Or.inl c
      · exact Or.inr ⟨h, c⟩
    · rintro (h | h)
      · rw [h]; exact An_rf
      · exact h.1)
  rw [e, cnt_or N (fun j _ ⟨h1, h2⟩ => h2.2 h1), cnt_1, if_pos hp]
  constructor
  · intro h j hj ha
    apply Classical.byContradiction
    intro c
    have := cnt_p (P := fun j => An u p j ∧ j ≠ p) N hj ⟨ha, c⟩
    omega
  · intro h
    rw [cnt_0 N (fun j hj ⟨h1, h2⟩ => h2 (h j hj h1))]
noncomputable def tmx (FR : Nat → Int32) (P : Nat → Prop) : Nat → Int32
  | 0 => 0
  | i + 1 => @ite Int32 (1 ≤ i ∧ P i) (Classical.propDecidable _) (if (tmx FR P i).toInt ≤ (FR i).toInt then FR i else tmx FR P i) (tmx FR P i)
noncomputable def tsm (ℓ : Nat → Int32) (P : Nat → Prop) : Nat → Int32
  | 0 => 0
  | i + 1 => @ite Int32 (1 ≤ i ∧ P i) (Classical.propDecidable _) (tsm ℓ P i + ℓ i) (tsm ℓ P i)
section FOLDS
variable {FR ℓ : Nat → Int32} {P Q : Nat → Prop} {i : Nat}
theorem tmx_s (h : 1 ≤ i) (hp : P i) : tmx FR P (i + 1) = if (tmx FR P i).toInt ≤ (FR i).toInt then FR i else tmx FR P i := by rw [tmx, if_pos ⟨h, hp⟩]
theorem tmx_n (hp : ¬ (1 ≤ i ∧ P i)) : tmx FR P (i + 1) = tmx FR P i := by rw [tmx, if_neg hp]
theorem tsm_s (h : 1 ≤ i) (hp : P i) : tsm ℓ P (i + 1) = tsm ℓ P i + ℓ i := by rw [tsm, if_pos ⟨h, hp⟩]
theorem tsm_n (hp : ¬ (1 ≤ i ∧ P i)) : tsm ℓ P (i + 1) = tsm ℓ P i := by rw [tsm, if_neg hp]
theorem tmx_1 : tmx FR P 1 = 0 := by rw [tmx_n (by omega)]; rfl
theorem tsm_1 : tsm ℓ P 1 = 0 := by rw [tsm_n (by omega)]; rfl
theorem mx_e {a b : Int32} : (if a.toInt < b.toInt then b else a) = if a.toInt ≤ b.toInt then b else a := by
  by_cases c : a.toInt < b.toInt
  · rw [if_pos c, if_pos (by omega)]
  · rw [if_neg c]
    by_cases d : a.toInt ≤ b.toInt
    · rw [if_pos d]
      exact Int32.toInt_inj.mp (by omega)
    · rw [if_neg d]
end FOLDS
section SRCC
variable {N M sh A1 A2 A3 A4 A6 : Nat} {u l : Nat → Nat} {ℓ FR : Nat → Int32} {s : zS}
theorem zShp.src (hP : zShp N u ℓ FR sh A1 A2 A3 A4 A6 l s) {p : Nat} (h1 : 1 ≤ p) (h2 : p < N) : (s.1 A4 p).toInt = 0 ↔ Src N u p := by
  have a := hP.2.2.1 p h2
  have c := cnt_one (u := u) h2
  constructor
  · intro z
    exact ⟨h1, h2, c.mp (by omega)⟩
  · rintro ⟨-, -, z⟩
    have := c.mpr z
    omega
theorem cIsS (hP : zShp N u ℓ FR sh A1 A2 A3 A4 A6 l s) (g4 : (s.2.2 sh 4).getD 0 = A4) {x : Int32} : (F_X6_isSource sh x s).2 = s ∧ ((F_X6_isSource sh x s).1.toInt = 0 ↔ ¬ (0 ≤ x.toInt ∧ Src N u x.toInt.toNat)) := by
  have e0 : (0 : Int32).toInt = 0 := by decide
  have e1 : (1 : Int32).toInt = 1 := by decide
  have hN := hP.1
  unfold F_X6_isSource
  simp only [zlt, g4]
  by_cases c : 0 < x.toInt
  · rw [if_pos c]
    by_cases c2 : x.toInt < (s.1 sh 0).toInt
    · rw [if_pos c2]
      have nx : x.toNatClampNeg = x.toInt.toNat := ztn x
      have q := hP.src (p := x.toInt.toNat) (by omega) (by omega)
      rw [nx]
      by_cases c3 : (s.1 A4 x.toInt.toNat).toInt = 0
      · rw [if_pos c3]
        exact ⟨rfl, fun z => absurd (z.symm.trans e1) (by decide), fun z => absurd ⟨by omega, q.mp c3⟩ z⟩
      · rw [if_neg c3]
        exact ⟨rfl, fun _ z => c3 (q.mpr z.2), fun _ => e0⟩
    · rw [if_neg c2]
      exact ⟨rfl, fun _ z => by have := z.2.2.1; omega, fun _ => e0⟩
  · rw [if_neg c]
    exact ⟨rfl, fun _ z => by have := z.2.1; omega, fun _ => e0⟩
theorem cSrc (hP : zShp N u ℓ FR sh A1 A2 A3 A4 A6 l s) (g4 : (s.2.2 sh 4).getD 0 = A4) (hN : N ≤ 12) : ∀ (n : Nat) (x : Int32) (i : Nat) (y : Int32), x.toInt = i → 1 ≤ i → i ≤ 12 → 12 - i < n → (∀ j, j < 32 → (bt y j = true ↔ (Src N u j ∧ j < i))) → ∃ SB, F_X6_sources_4 sh n x y s = (SB, s) ∧ ∀ j, j < 32 → (bt SB j = true ↔ Src N u j) := by
  have h0 := hP.1
  intro n
  induction n with
  | zero => intro x i y _ _ _ h; exact absurd h (by omega)
  | succ n ih =>
    intro x i y hx h1 hi hm hb
    have nx : x.toNatClampNeg = i := by rw [ztn, hx]; rfl
    rw [F_X6_sources_4]
    simp only [zlt, g4, nx]
    by_cases c : i < N
    · rw [if_pos (by omega)]
      have q := hP.src h1 c
      by_cases c2 : (s.1 A4 i).toInt = 0
      · rw [if_pos c2]
        refine ih (x + (1 : Int32)) (i + 1) _ (zp1 hx (by omega)) (by omega) (by omega) (by omega) (fun j hj => ?_)
        rw [b_or, bt_bit hx (by omega) hj, Bool.or_eq_true, hb j hj, decide_eq_true_eq]
        constructor
        · rintro (⟨w1, w2⟩ | w)
          · exact ⟨w1, by omega⟩
          · rw [w]; exact ⟨q.mp c2, by omega⟩
        · rintro ⟨w1, w2⟩
          by_cases e : j = i
          · exact Or.inr e
          · exact Or.inl ⟨w1, by omega⟩
      · rw [if_neg c2]
        refine ih (x + (1 : Int32)) (i + 1) y (zp1 hx (by omega)) (by omega) (by omega) (by omega) (fun j hj => ?_)
        rw [hb j hj]
        constructor
        · rintro ⟨w1, w2⟩
          exact ⟨w1, by omega⟩
        · rintro ⟨w1, w2⟩
          refine ⟨w1, ?_⟩
          by_cases e : j = i
          · rw [e] at w1
            exact absurd (q.mpr w1) c2
          · omega
    · rw [if_neg (by omega)]
      refine ⟨y, rfl, fun j hj => ?_⟩
      rw [hb j hj]
      exact ⟨fun w => w.1, fun w => ⟨w, by have := w.2.1; omega⟩⟩
theorem cSources (hP : zShp N u ℓ FR sh A1 A2 A3 A4 A6 l s) (g4 : (s.2.2 sh 4).getD 0 = A4) (hN : N ≤ 12) : ∃ SB, F_X6_sources sh s = (SB, s) ∧ ∀ j, j < 32 → (bt SB j = true ↔ Src N u j) := by
  obtain ⟨SB, h1, h2⟩ := cSrc hP g4 hN 10000 1 1 0 (by decide) (by omega) (by omega) (by omega) (fun j hj => by
    rw [b_0]
    exact ⟨fun z => absurd z (by decide), fun z => by have := z.1.1; omega⟩)
  refine ⟨SB, ?_, h2⟩
  unfold F_X6_sources
  simp only [zlt]
  exact h1
theorem cTour2 (hP : zShp N u ℓ FR sh A1 A2 A3 A4 A6 l s) (g1 : (s.2.2 sh 1).getD 0 = A1) (hN : N ≤ 12) (hM : (M = N ∧ 1 ≤ N) ∨ (M = 1 ∧ N = 0)) {m seen set : Int32} {P : Nat → Prop} (hs : ∀ j, j < N → (bt seen j = true ↔ P j)) {k : Int32 → Int32 → Int32 → zS → Int32 × zS} : ∀ (n : Nat) (x : Int32) (i : Nat) (y : Int32), x.toInt = i → 1 ≤ i → i ≤ M → M - i < n → y = tsm ℓ P i → F_X6_tourOf_59 m seen sh set k n x y s = ((2 : Int32) * tsm ℓ P M - m, s) := by
  have h0 := hP.1
  intro n
  induction n with
  | zero => intro x i y _ _ _ h; exact absurd h (by omega)
  | succ n ih =>
    intro x i y hx h1 hi hm hy
    have nx : x.toNatClampNeg = i := by rw [ztn, hx]; rfl
    rw [F_X6_tourOf_59]
    simp only [zlt, g1, nx]
    by_cases c : i < N
    · rw [if_pos (by omega)]
      have hh := cHas (x := seen) hx (by omega)
      by_cases c2 : bt seen i = true
      · rw [hh, if_pos c2, if_neg (by decide)]
        exact ih (x + (1 : Int32)) (i + 1) _ (zp1 hx (by omega)) (by omega) (by omega) (by omega) (by rw [tsm_s h1 ((hs i c).mp c2), hy, hP.2.2.2 i h1 c])
      · rw [hh, if_neg c2, if_pos rfl]
        exact ih (x + (1 : Int32)) (i + 1) y (zp1 hx (by omega)) (by omega) (by omega) (by omega) (by rw [tsm_n (fun z => c2 ((hs i c).mpr z.2)), hy])
    · rw [if_neg (by omega)]
      obtain rfl : i = M := by omega
      rw [hy]
theorem cTour1 (hP : zShp N u ℓ FR sh A1 A2 A3 A4 A6 l s) (g1 : (s.2.2 sh 1).getD 0 = A1) (g3 : (s.2.2 sh 3).getD 0 = A3) (g6 : (s.2.2 sh 6).getD 0 = A6) (hN : N ≤ 12) (hM : (M = N ∧ 1 ≤ N) ∨ (M = 1 ∧ N = 0)) {set : Int32} : ∀ (n : Nat) (x : Int32) (i : Nat) (y z : Int32), x.toInt = i → 1 ≤ i → i ≤ M → M - i < n → y = tmx FR (fun q => bt set q = true) i → (∀ t, t < 32 → (bt z t = true ↔ ∃ q, 1 ≤ q ∧ q < i ∧ bt set q = true ∧ An u t q)) → F_X6_tourOf_7 sh set n x y z s = ((2 : Int32) * tsm ℓ (fun t => ∃ q, 1 ≤ q ∧ q < N ∧ bt set q = true ∧ An u t q) M - tmx FR (fun q => bt set q = true) M, s) := by
  have h0 := hP.1
  intro n
  induction n with
  | zero => intro x i y z _ _ _ h; exact absurd h (by omega)
  | succ n ih =>
    intro x i y z hx h1 hi hm hy hz
    have nx : x.toNatClampNeg = i := by rw [ztn, hx]; rfl
    rw [F_X6_tourOf_7]
    simp only [zlt, g3, g6, nx]
    by_cases c : i < N
    · rw [if_pos (by omega)]
      have hh := cHas (x := set) hx (by omega)
      by_cases c2 : bt set i = true
      · rw [hh, if_pos c2, if_neg (by decide)]
        refine ih (x + (1 : Int32)) (i + 1) _ _ (zp1 hx (by omega)) (by omega) (by omega) (by omega) (by rw [tmx_s (P := fun q => bt set q = true) h1 c2, hy, hP.2.1.2.1 i c]) (fun t ht => ?_)
        rw [b_or, Bool.or_eq_true, hz t ht, hP.2.1.2.2.1 i c t ht]
        constructor
        · rintro (⟨q, w1, w2, w3⟩ | w)
          · exact ⟨q, w1, by omega, w3⟩
          · exact ⟨i, h1, by omega, c2, w⟩
        · rintro ⟨q, w1, w2, w3, w4⟩
          by_cases e : q = i
          · rw [e] at w4
            exact Or.inr w4
          · exact Or.inl ⟨q, w1, by omega, w3, w4⟩
      · rw [hh, if_neg c2, if_pos rfl]
        refine ih (x + (1 : Int32)) (i + 1) y z (zp1 hx (by omega)) (by omega) (by omega) (by omega) (by rw [tmx_n (P := fun q => bt set q = true) (fun z => c2 z.2), hy]) (fun t ht => ?_)
        rw [hz t ht]
        constructor
        · rintro ⟨q, w1, w2, w3⟩
          exact ⟨q, w1, by omega, w3⟩
        · rintro ⟨q, w1, w2, w3, w4⟩
          by_cases e : q = i
          · rw [e] at w3
            exact absurd w3 c2
          · exact ⟨q, w1, by omega, w3, w4⟩
    · rw [if_neg (by omega)]
      have hM' : i = M := by omega
      rw [hy, hM']
      refine cTour2 hP g1 hN hM (fun j hj => ?_) 10000 1 1 0 (by decide) (by omega) (by omega) (by omega) tsm_1.symm
      rw [hz j (by omega)]
      constructor
      · rintro ⟨q, w1, w2, w3⟩
        exact ⟨q, w1, by omega, w3⟩
      · rintro ⟨q, w1, w2, w3⟩
        exact ⟨q, w1, by omega, w3⟩
theorem cTour (hP : zShp N u ℓ FR sh A1 A2 A3 A4 A6 l s) (g1 : (s.2.2 sh 1).getD 0 = A1) (g3 : (s.2.2 sh 3).getD 0 = A3) (g6 : (s.2.2 sh 6).getD 0 = A6) (hN : N ≤ 12) (hM : (M = N ∧ 1 ≤ N) ∨ (M = 1 ∧ N = 0)) (set : Int32) : F_X6_tourOf sh set s = ((2 : Int32) * tsm ℓ (fun t => ∃ q, 1 ≤ q ∧ q < N ∧ bt set q = true ∧ An u t q) M - tmx FR (fun q => bt set q = true) M, s) := by
  unfold F_X6_tourOf
  simp only [zlt]
  exact cTour1 hP g1 g3 g6 hN hM 10000 1 1 0 0 (by decide) (by omega) (by omega) (by omega) tmx_1.symm (fun t ht => by
    rw [b_0]
    constructor
    · intro z; cases z
    · rintro ⟨q, w1, w2, -⟩
      omega)
end SRCC
section SRCM
variable {L : List Nat} {kd : Nat → Nat} {m0 N M : Nat} {u : Nat → Nat} {FR SR ℓ : Nat → Int32} {σ t : zS} {κ : Int}
theorem zShM.r (h : zShM N u FR SR m0 σ t) (x : Nat) : (t.2.2 m0 x).getD 0 = mR σ m0 x := by rw [h.1]
theorem zShM.many (h : zShM N u FR SR m0 σ t) (hJ : zJ κ L kd σ) (hm : zT L kd m0 11) (hM : zM m0 σ = N) : (F_X11_many m0 t).toInt = N := by rw [mMany_g hJ hm h.2.2.2.2 (by rfl) (by rfl) (by rfl), hM]
theorem zShM.f18 (h : zShM N u FR SR m0 σ t) (hJ : zJ κ L kd σ) (hm : zT L kd m0 11) : t.1 m0 18 = σ.1 m0 18 := zFm.fld hJ hm h.2.2.2.2 (by rfl) (by rfl)
theorem zShM.row (h : zShM N u FR SR m0 σ t) (hJ : zJ κ L kd σ) (hm : zT L kd m0 11) {x : Nat} (hx : zf 0 11 x = some (100 + x)) (hn : [49, 54, 52, 53, 45, 46, 55].contains x = false) : t.1 (mR σ m0 x) = σ.1 (mR σ m0 x) := zFm.row hJ hm h.2.2.2.2 hx (by rfl) hn
theorem mIsS (h : zShM N u FR SR m0 σ t) (hJ : zJ κ L kd σ) (hm : zT L kd m0 11) (hM : zM m0 σ = N) (hN : N ≤ 12) {x : Int32} : (F_X11_isSource m0 x t).toInt = 0 ↔ ¬ (0 ≤ x.toInt ∧ Src N u x.toInt.toNat) := by
  have e0 : (0 : Int32).toInt = 0 := by decide
  have e1 : (1 : Int32).toInt = 1 := by decide
  have kN := zN1 (x := F_X11_many m0 t) (h.many hJ hm hM) hN
  unfold F_X11_isSource
  simp only [zlt, mBeside, mIn, e1, kN, h.r 54]
  by_cases c : 1 ≤ x.toInt ∧ x.toInt ≤ (N : Int) - 1
  · rw [if_neg (fun z => z c)]
    obtain ⟨p, hp⟩ : ∃ p : Nat, x.toInt = p := ⟨x.toInt.toNat, by omega⟩
    have nx : x.toNatClampNeg = p := by rw [ztn, hp]; rfl
    have ex : x = nI p := zNi hp (by omega)
    have key : (t.1 (mR σ m0 54) p).toInt = ((1 : Int32) <<< (x &&& 31)).toInt ↔ Src N u p := by
      rw [Int32.toInt_inj, ex]
      constructor
      · intro z
        refine ⟨by omega, by omega, fun j hj ha => ?_⟩
        have q := (h.2.1 p j (by omega) (by omega)).mpr ⟨hj, ha⟩
        rw [z, bt_1 (by omega) (by omega), decide_eq_true_eq] at q
        exact q
      · rintro ⟨z1, z2, z3⟩
        refine b_ext (fun j hj => ?_)
        rw [bt_1 (by omega) hj]
        by_cases e : j = p
        · rw [decide_eq_true e]
          exact (h.2.1 p j z2 hj).mpr ⟨by omega, by rw [e]; exact An_rf⟩
        · rw [decide_eq_false e]
          cases hc : bt (t.1 (mR σ m0 54) p) j with
          | false => rfl
          | true =>
            obtain ⟨w1, w2⟩ := (h.2.1 p j z2 hj).mp hc
            exact absurd (z3 j w1 w2) e
    rw [nx, show x.toInt.toNat = p by omega]
    by_cases c2 : (t.1 (mR σ m0 54) p).toInt = ((1 : Int32) <<< (x &&& 31)).toInt
    · rw [if_pos c2]
      exact ⟨fun z => absurd (z.symm.trans e1) (by decide), fun z => absurd ⟨by omega, key.mp c2⟩ z⟩
    · rw [if_neg c2]
      exact ⟨fun _ z => c2 (key.mpr z.2), fun _ => e0⟩
  · rw [if_pos c]
    exact ⟨fun _ z => by have a := z.2.1; have b := z.2.2.1; omega, fun _ => e0⟩
theorem mSrc (h : zShM N u FR SR m0 σ t) (hJ : zJ κ L kd σ) (hm : zT L kd m0 11) (hM : zM m0 σ = N) (hN : N ≤ 12) : ∀ (n : Nat) (x : Int32) (i : Nat) (y : Int32), x.toInt = i → 1 ≤ i → i ≤ 12 → 12 - i < n → (∀ j, j < 32 → (bt y j = true ↔ (Src N u j ∧ j < i))) → ∀ j, j < 32 → (bt (F_X11_sourceBits_4 m0 t n x y) j = true ↔ Src N u j) := by
  have h0 := h.many hJ hm hM
  intro n
  induction n with
  | zero => intro x i y _ _ _ h; exact absurd h (by omega)
  | succ n ih =>
    intro x i y hx h1 hi hm' hb
    rw [F_X11_sourceBits_4]
    simp only [zlt]
    by_cases c : i < N
    · rw [if_pos (by omega)]
      have q := mIsS h hJ hm hM hN (x := x)
      rw [hx, show ((i : Int)).toNat = i by omega] at q
      by_cases c2 : (F_X11_isSource m0 x t).toInt = 0
      · rw [if_pos c2]
        refine ih (x + (1 : Int32)) (i + 1) y (zp1 hx (by omega)) (by omega) (by omega) (by omega) (fun j hj => ?_)
        rw [hb j hj]
        constructor
        · rintro ⟨w1, w2⟩
          exact ⟨w1, by omega⟩
        · rintro ⟨w1, w2⟩
          refine ⟨w1, ?_⟩
          by_cases e : j = i
          · rw [e] at w1
            exact absurd ⟨by omega, w1⟩ (q.mp c2)
          · omega
      · rw [if_neg c2]
        have hs : Src N u i := by
          apply Classical.byContradiction
          intro z
          exact c2 (q.mpr (fun w => z w.2))
        refine ih (x + (1 : Int32)) (i + 1) _ (zp1 hx (by omega)) (by omega) (by omega) (by omega) (fun j hj => ?_)
        rw [b_or, zNi hx (by omega), bt_1 (by omega) hj, Bool.or_eq_true, hb j hj, decide_eq_true_eq]
        constructor
        · rintro (⟨w1, w2⟩ | w)
          · exact ⟨w1, by omega⟩
          · rw [w]; exact ⟨hs, by omega⟩
        · rintro ⟨w1, w2⟩
          by_cases e : j = i
          · exact Or.inr e
          · exact Or.inl ⟨w1, by omega⟩
    · rw [if_neg (by omega)]
      intro j hj
      rw [hb j hj]
      exact ⟨fun w => w.1, fun w => ⟨w, by have := w.2.1; omega⟩⟩
theorem mSources (h : zShM N u FR SR m0 σ t) (hJ : zJ κ L kd σ) (hm : zT L kd m0 11) (hM : zM m0 σ = N) (hN : N ≤ 12) : ∀ j, j < 32 → (bt (F_X11_sourceBits m0 t) j = true ↔ Src N u j) := by
  unfold F_X11_sourceBits
  simp only [zlt]
  exact mSrc h hJ hm hM hN 10000 1 1 0 (by decide) (by omega) (by omega) (by omega) (fun j hj => by
    rw [b_0]
    exact ⟨fun z => absurd z (by decide), fun z => by have := z.1.1; omega⟩)
theorem mTour1 (h : zShM N u FR SR m0 σ t) (hJ : zJ κ L kd σ) (hm : zT L kd m0 11) (hM : zM m0 σ = N) (hN : N ≤ 12) (hl : ∀ c, 1 ≤ c → c < N → σ.1 (mR σ m0 23) (12 * (σ.1 m0 18).toInt.toNat + c) = ℓ c) (hM2 : (M = N ∧ 1 ≤ N) ∨ (M = 1 ∧ N = 0)) {set : Int32} (hset : ∀ j, j < 32 → bt set j = true → 1 ≤ j ∧ j < N) : ∀ (n : Nat) (x : Int32) (i : Nat) (y z : Int32), x.toInt = i → 1 ≤ i → i ≤ M → M - i < n → y = tmx FR (fun q => bt set q = true) i → z = tsm ℓ (fun t => ∃ q, 1 ≤ q ∧ q < N ∧ bt set q = true ∧ An u t q) i → F_X11_tourOf_7 m0 set t n x y z = (2 : Int32) * tsm ℓ (fun t => ∃ q, 1 ≤ q ∧ q < N ∧ bt set q = true ∧ An u t q) M - tmx FR (fun q => bt set q = true) M := by
  have h0 := h.many hJ hm hM
  have r18 : 0 ≤ (σ.1 m0 18).toInt ∧ (σ.1 m0 18).toInt ≤ 1 := zj_get (j := 18) hJ hm (lo := 0) (hi := 1) (by rfl)
  have e12 : (12 : Int32).toInt = 12 := by decide
  have e0 : (0 : Int32).toInt = 0 := by decide
  have e1 : (1 : Int32).toInt = 1 := by decide
  have f23 := h.row hJ hm (x := 23) (by rfl) (by rfl)
  have f18 := h.f18 hJ hm
  intro n
  induction n with
  | zero => intro x i y z _ _ _ h; exact absurd h (by omega)
  | succ n ih =>
    intro x i y z hx h1 hi hm' hy hz
    have nx : x.toNatClampNeg = i := by rw [ztn, hx]; rfl
    rw [F_X11_tourOf_7]
    simp only [zlt, h.r 54, h.r 52, h.r 23, nx]
    by_cases c : i < N
    · rw [if_pos (by omega)]
      have em : ((12 : Int32) * t.1 m0 18).toInt = 12 * (σ.1 m0 18).toInt := by rw [f18, zb_mul (by rw [e12]; omega) (by rw [e12]; omega), e12]
      have ei : ((12 : Int32) * t.1 m0 18 + x).toNatClampNeg = 12 * (σ.1 m0 18).toInt.toNat + i := by rw [ztn, zb_add (by rw [em, hx]; omega) (by rw [em, hx]; omega), em, hx]; omega
      have eℓ : t.1 (mR σ m0 23) ((12 : Int32) * t.1 m0 18 + x).toNatClampNeg = ℓ i := by rw [ei, f23]; exact hl i h1 c
      have ef : t.1 (mR σ m0 52) i = FR i := (h.2.2.1 i c).1
      have cut := (bt_cut (x := set) hx (by omega)).2
      have s1 : (x + (1 : Int32)).toInt = (i + 1 : Nat) := zp1 hx (by omega)
      have s2 : 1 ≤ i + 1 := by omega
      have s3 : i + 1 ≤ M := by omega
      have s4 : M - (i + 1) < n := by omega
      have an : (t.1 (mR σ m0 54) i &&& set).toInt = 0 ↔ ¬ ∃ q, 1 ≤ q ∧ q < N ∧ bt set q = true ∧ An u i q := by
        constructor
        · rintro w ⟨q, w1, w2, w3, w4⟩
          have w0 : t.1 (mR σ m0 54) i &&& set = 0 := Int32.toInt_inj.mp (w.trans e0.symm)
          have b1 := b_and (t.1 (mR σ m0 54) i) set q
          rw [w0, b_0, (h.2.1 i q c (by omega)).mpr ⟨w2, w4⟩, w3] at b1
          cases b1
        · intro w
          have w0 : t.1 (mR σ m0 54) i &&& set = 0 := b_ext (fun j hj => by
            rw [b_and, b_0]
            cases b1 : bt (t.1 (mR σ m0 54) i) j with
            | false => rfl
            | true =>
              cases b2 : bt set j with
              | false => rfl
              | true =>
                obtain ⟨v1, v2⟩ := (h.2.1 i j c hj).mp b1
                obtain ⟨v3, v4⟩ := hset j hj b2
                exact absurd ⟨j, v3, v4, b2, v2⟩ w)
          rw [w0]; exact e0
      rw [eℓ, ef]
      have stepN : ∀ z', z' = tsm ℓ (fun t => ∃ q, 1 ≤ q ∧ q < N ∧ bt set q = true ∧ An u t q) (i + 1) → ¬ bt set i = true → F_X11_tourOf_7 m0 set t n (x + (1 : Int32)) y z' = (2 : Int32) * tsm ℓ (fun t => ∃ q, 1 ≤ q ∧ q < N ∧ bt set q = true ∧ An u t q) M - tmx FR (fun q => bt set q = true) M := fun z' hz' cs => ih (x + (1 : Int32)) (i + 1) y z' s1 s2 s3 s4 (by rw [tmx_n (P := fun q => bt set q = true) (fun w => cs w.2), hy]) hz'
      have stepS : ∀ z' y', z' = tsm ℓ (fun t => ∃ q, 1 ≤ q ∧ q < N ∧ bt set q = true ∧ An u t q) (i + 1) → bt set i = true → y' = (if y.toInt ≤ (FR i).toInt then FR i else y) → F_X11_tourOf_7 m0 set t n (x + (1 : Int32)) y' z' = (2 : Int32) * tsm ℓ (fun t => ∃ q, 1 ≤ q ∧ q < N ∧ bt set q = true ∧ An u t q) M - tmx FR (fun q => bt set q = true) M := fun z' y' hz' cs hy' => ih (x + (1 : Int32)) (i + 1) y' z' s1 s2 s3 s4 (by rw [tmx_s (P := fun q => bt set q = true) h1 cs, hy', hy]) hz'
      by_cases ca : ∃ q, 1 ≤ q ∧ q < N ∧ bt set q = true ∧ An u i q
      · rw [if_neg (fun w => an.mp w ca)]
        have hz' : z + ℓ i = tsm ℓ (fun t => ∃ q, 1 ≤ q ∧ q < N ∧ bt set q = true ∧ An u t q) (i + 1) := by rw [tsm_s (P := fun t => ∃ q, 1 ≤ q ∧ q < N ∧ bt set q = true ∧ An u t q) h1 ca, hz]
        by_cases cs : bt set i = true
        · rw [if_pos (by rw [e1]; exact cut.mpr cs)]
          by_cases cf : y.toInt < (FR i).toInt
          · rw [if_pos cf]
            exact stepS _ _ hz' cs (by rw [← mx_e, if_pos cf])
          · rw [if_neg cf]
            exact stepS _ _ hz' cs (by rw [← mx_e, if_neg cf])
        · rw [if_neg (by rw [e1]; exact fun w => cs (cut.mp w))]
          exact stepN _ hz' cs
      · rw [if_pos (an.mpr ca)]
        have hz' : z = tsm ℓ (fun t => ∃ q, 1 ≤ q ∧ q < N ∧ bt set q = true ∧ An u t q) (i + 1) := by rw [tsm_n (P := fun t => ∃ q, 1 ≤ q ∧ q < N ∧ bt set q = true ∧ An u t q) (fun w => ca w.2), hz]
        by_cases cs : bt set i = true
        · exact absurd ⟨i, h1, c, cs, An_rf⟩ ca
        · rw [if_neg (by rw [e1]; exact fun w => cs (cut.mp w))]
          exact stepN _ hz' cs
    · rw [if_neg (by omega)]
      have hM' : i = M := by omega
      rw [hy, hz, hM']
theorem mTour (h : zShM N u FR SR m0 σ t) (hJ : zJ κ L kd σ) (hm : zT L kd m0 11) (hM : zM m0 σ = N) (hN : N ≤ 12) (hl : ∀ c, 1 ≤ c → c < N → σ.1 (mR σ m0 23) (12 * (σ.1 m0 18).toInt.toNat + c) = ℓ c) (hM2 : (M = N ∧ 1 ≤ N) ∨ (M = 1 ∧ N = 0)) (set : Int32) (hset : ∀ j, j < 32 → bt set j = true → 1 ≤ j ∧ j < N) : F_X11_tourOf m0 set t = (2 : Int32) * tsm ℓ (fun t => ∃ q, 1 ≤ q ∧ q < N ∧ bt set q = true ∧ An u t q) M - tmx FR (fun q => bt set q = true) M := by
  unfold F_X11_tourOf
  simp only [zlt]
  exact mTour1 h hJ hm hM hN hl hM2 hset 10000 1 1 0 0 (by decide) (by omega) (by omega) (by omega) tmx_1.symm tsm_1.symm
end SRCM
end
-- 35x58.sh7
section
/-! TOUR, PARTED -/
theorem bt_nat (k : Nat) {i : Nat} (hi : i < 32) : bt (Int32.ofNat k) i = k.testBit i := by
  show (BitVec.ofNat 32 k).getLsbD i = _
  rw [BitVec.getLsbD_ofNat]
  simp [hi]
/-- twelve bits are a number below 4096 -/
theorem i12 {x : Int32} (h : ∀ j, 12 ≤ j → j < 32 → bt x j = false) : ∃ n : Nat, n < 4096 ∧ x.toInt = n ∧ x = Int32.ofNat n ∧ ∀ j, j < 32 → n.testBit j = bt x j := by
  have hl : x.toBitVec.toNat < 2 ^ 12 := Nat.lt_pow_two_of_testBit _ (fun i hi => by
    rw [BitVec.testBit_toNat]
    by_cases c : i < 32
    · exact h i hi c
    · exact BitVec.getLsbD_of_ge _ _ (by omega))
  have e : x.toInt = x.toBitVec.toNat := by
    show x.toBitVec.toInt = _
    exact BitVec.toInt_eq_toNat_of_lt (by omega)
  refine ⟨x.toBitVec.toNat, hl, e, ?_, fun j _ => BitVec.testBit_toNat _⟩
  exact Int32.toInt_inj.mp (e.trans (Int32.toInt_ofNat_of_lt (by omega)).symm)
theorem b_m1 : ∀ i, i < 32 → bt (-1) i = true := by decide +kernel
def mnI (a b : Int32) : Int32 := if a.toInt ≤ b.toInt then a else b
def mxI (a b : Int32) : Int32 := if a.toInt ≤ b.toInt then b else a
noncomputable def pmn (T : Int32 → Int32) (all : Int32) : Nat → Int32
  | 0 => T all
  | k + 1 => @ite Int32 ((Int32.ofNat k &&& all) = Int32.ofNat k) (Classical.propDecidable _) (mnI (pmn T all k) (mxI (T (Int32.ofNat k)) (T (all &&& (Int32.ofNat k ^^^ (-1 : Int32)))))) (pmn T all k)
section PARTED
variable {T : Int32 → Int32} {all : Int32} {k a : Nat}
theorem pmn_s (h : (Int32.ofNat k &&& all) = Int32.ofNat k) : pmn T all (k + 1) = mnI (pmn T all k) (mxI (T (Int32.ofNat k)) (T (all &&& (Int32.ofNat k ^^^ (-1 : Int32))))) := by rw [pmn, if_pos h]
theorem pmn_n (h : ¬ (Int32.ofNat k &&& all) = Int32.ofNat k) : pmn T all (k + 1) = pmn T all k := by rw [pmn, if_neg h]
theorem mnI_le {x y : Int32} : (mnI x y).toInt ≤ x.toInt := by
  unfold mnI
  split
  · exact Int.le_refl _
  · omega
theorem pmn_le : ∀ k, (pmn T all k).toInt ≤ (T all).toInt := by
  intro k
  induction k with
  | zero => exact Int.le_refl _
  | succ k ih =>
    by_cases h : (Int32.ofNat k &&& all) = Int32.ofNat k
    · rw [pmn_s h]
      exact Int.le_trans mnI_le ih
    · rw [pmn_n h]; exact ih
theorem mn_mx {b v w : Int32} : (if v.toInt < w.toInt then (if w.toInt < b.toInt then w else b) else (if v.toInt < b.toInt then v else b)) = mnI b (mxI v w) := by
  have m : mxI v w = if v.toInt < w.toInt then w else v := by unfold mxI; exact mx_e.symm
  rw [m]
  unfold mnI
  by_cases c : v.toInt < w.toInt
  · rw [if_pos c, if_pos c]
    by_cases d : w.toInt < b.toInt
    · rw [if_pos d, if_neg (by omega)]
    · rw [if_neg d, if_pos (by omega)]
  · rw [if_neg c, if_neg c]
    by_cases d : v.toInt < b.toInt
    · rw [if_pos d, if_neg (by omega)]
    · rw [if_neg d, if_pos (by omega)]
/-- within: told two ways -/
theorem sub_e {x : Int32} : (x &&& (all ^^^ (-1 : Int32))).toInt = 0 ↔ (x &&& all) = x := by
  have e0 : (0 : Int32).toInt = 0 := by decide
  constructor
  · intro h
    have h0 : x &&& (all ^^^ (-1 : Int32)) = 0 := Int32.toInt_inj.mp (h.trans e0.symm)
    refine b_ext (fun j hj => ?_)
    have q := b_and x (all ^^^ (-1 : Int32)) j
    rw [h0, b_0, b_xor, b_m1 j hj] at q
    rw [b_and]
    cases h1 : bt x j with
    | false => rfl
    | true =>
      rw [h1] at q
      cases h2 : bt all j with
      | false => rw [h2] at q; cases q
      | true => rfl
  · intro h
    have h0 : x &&& (all ^^^ (-1 : Int32)) = 0 := b_ext (fun j hj => by
      have q := b_and x all j
      rw [h] at q
      rw [b_and, b_0, b_xor, b_m1 j hj]
      cases h1 : bt x j with
      | false => rfl
      | true =>
        rw [h1] at q
        cases h2 : bt all j with
        | false => rw [h2] at q; cases q
        | true => rfl)
    rw [h0]; exact e0
/-- all itself brings nothing new, nor what stands behind it -/
theorem pmn_end (ha : all = Int32.ofNat a) (he : a % 2 = 0) (h0 : bt all 0 = false) : pmn T all (a + 2) = pmn T all a := by
  have odd : ¬ (Int32.ofNat (a + 1) &&& all) = Int32.ofNat (a + 1) := fun h => by
    have q := b_and (Int32.ofNat (a + 1)) all 0
    rw [h, h0, bt_nat _ (by decide), Nat.testBit_zero] at q
    have : (a + 1) % 2 = 1 := by omega
    simp [this] at q
  rw [pmn_n odd]
  have self : (Int32.ofNat a &&& all) = Int32.ofNat a := by
    rw [← ha]
    exact b_ext (fun j _ => by rw [b_and, Bool.and_self])
  rw [pmn_s self, ← ha]
  have l := pmn_le (T := T) (all := all) a
  have m : (T all).toInt ≤ (mxI (T all) (T (all &&& (all ^^^ (-1 : Int32))))).toInt := by
    unfold mxI
    split
    · assumption
    · exact Int.le_refl _
  unfold mnI
  rw [if_pos (by omega)]
end PARTED
section TOURB
variable {κ : Int} {L1 : List Nat} {kd1 : Nat → Nat} {L2 : List Nat} {kd2 : Nat → Nat} {σ1 σ2 τ1 τ2 : zS} {m0 x0 : Nat} {Q : Nat → zCo → (Nat → Int32) → Prop} {V : zWh} {ps pc sl rv sh cd : Nat} {v1 v2 p q r : Int32}
/-- what both looks give, at hand -/
theorem zRL.lk2 (hG : zGd Q) (h : zRL Q L1 kd1 x0 m0 V ps pc sl rv sh cd σ1 σ2) (hl : zLen x0 m0 σ1 σ2) (hx : zT L1 kd1 x0 10) (hI : zI κ 0 L1 kd1 σ1) (hJ : zJ κ L2 kd2 σ2) (hm : zT L2 kd2 m0 11) (hg : gN m0 σ2) : ∃ (N M : Nat) (u : Nat → Nat) (FR SR ℓ : Nat → Int32) (l : Nat → Nat) (A1 A2 A3 A4 A6 : Nat) (s t : zS), s = F_X10_look x0 σ1 ∧ t = F_X11_copies m0 σ2 ∧ zLk N u FR SR ℓ kd1 x0 m0 rv sh l σ1 σ2 s t ∧ ((s.2.2 x0 3).getD 0 = sh ∧ (s.2.2 sh 1).getD 0 = A1 ∧ (s.2.2 sh 2).getD 0 = A2 ∧ (s.2.2 sh 3).getD 0 = A3 ∧ (s.2.2 sh 4).getD 0 = A4 ∧ (s.2.2 sh 6).getD 0 = A6) ∧ zShp N u ℓ FR sh A1 A2 A3 A4 A6 l s ∧ ((M = N ∧ 1 ≤ N) ∨ (M = 1 ∧ N = 0)) := by
  obtain ⟨N, u, FR, SR, ℓ, l, K⟩ := h.lk hG hl hx hI hJ hm hg
  obtain ⟨-, -, -, ⟨C1, -, C3⟩, -⟩ := id K
  have hV := h.2.1
  have nx : x0 ≠ rv := zNk hx hV.2.1.2.1 (by decide)
  have ns : sh ≠ rv := zNk hV.2.1.2.2.1 hV.2.1.2.1 (by decide)
  have e : ∀ j, (F_X10_look x0 σ1).2.2 sh j = σ1.2.2 sh j := fun j => C1 sh j (fun z => ns z.1)
  refine ⟨N, if N = 0 then 1 else N, u, FR, SR, ℓ, l, _, _, _, _, _, _, _, rfl, rfl, K, ⟨by rw [C1 x0 3 (fun z => nx z.1), hV.1.2.1]; rfl, by rw [e], by rw [e], by rw [e], by rw [e], by rw [e]⟩, C3, ?_⟩
  by_cases c : N = 0
  · rw [if_pos c]; exact Or.inr ⟨rfl, c⟩
  · rw [if_neg c]; exact Or.inl ⟨rfl, by omega⟩
theorem zRL.tour (hG : zGd Q) (h : zRL Q L1 kd1 x0 m0 V ps pc sl rv sh cd σ1 σ2) (hl : zLen x0 m0 σ1 σ2) (hx : zT L1 kd1 x0 10) (hI : zI κ 0 L1 kd1 σ1) (hJ : zJ κ L2 kd2 σ2) (hm : zT L2 kd2 m0 11) (hg : gN m0 σ2) (f1 : (v1, τ1) = F_X10_tour x0 σ1) (f2 : (v2, τ2) = F_X11_tour m0 σ2) : v1.toInt = v2.toInt := by
  obtain ⟨N, M, u, FR, SR, ℓ, l, A1, A2, A3, A4, A6, s, t, hs, ht, ⟨⟨n1, n2, n3, n4⟩, -, hb, -, hM⟩, ⟨g0, g1, g2, g3, g4, g6⟩, hP, hMN⟩ := h.lk2 hG hl hx hI hJ hm hg
  obtain ⟨SB, c1, c2⟩ := cSources hP g4 n1
  have m1 := mSources hM hJ hm n2 n1
  have eS : F_X11_sourceBits m0 t = SB := b_ext (fun j hj => by
    have a := m1 j hj
    have b := c2 j hj
    cases h1 : bt (F_X11_sourceBits m0 t) j with
    | false =>
      cases h2 : bt SB j with
      | false => rfl
      | true => rw [b.mp h2 |> a.mpr] at h1; cases h1
    | true => exact (b.mpr (a.mp h1)).symm)
  have T1 := cTour hP g1 g3 g6 n1 hMN SB
  have T2 := mTour hM hJ hm n2 n1 (fun c c1 c2 => (hb c c1 c2).1) hMN SB (fun j hj hz => by
    have := (c2 j hj).mp hz
    exact ⟨this.1, this.2.1⟩)
  unfold F_X10_tour at f1
  unfold F_X11_tour at f2
  simp only [zlt, zlt2] at f1 f2
  rw [← hs, g0, c1, T1] at f1
  rw [← ht, eS, T2] at f2
  rw [(zPr2 f1).1, (zPr2 f2).1]
end TOURB
section PARTB
variable {N M sh A1 A2 A3 A4 A6 x0 m0 : Nat} {u l : Nat → Nat} {ℓ FR SR : Nat → Int32} {s t σ : zS} {L : List Nat} {kd : Nat → Nat} {κ : Int} {all : Int32} {a : Nat} {T : Int32 → Int32}
theorem cPart (hT : ∀ set, F_X6_tourOf sh set s = (T set, s)) (g0 : (s.2.2 x0 3).getD 0 = sh) (ha : all.toInt = a) (ha2 : a < 4096) : ∀ (n : Nat) (x : Int32) (i : Nat) (y : Int32), x = Int32.ofNat i → i ≤ a → a - i < n → y = pmn T all i → F_X10_parted_23 all x0 n x y s = (pmn T all a, s) := by
  intro n
  induction n with
  | zero => intro x i y _ _ h; exact absurd h (by omega)
  | succ n ih =>
    intro x i y hx hi hm hy
    have xi : x.toInt = i := by rw [hx]; exact Int32.toInt_ofNat_of_lt (by omega)
    have e1 : (1 : Int32).toInt = 1 := by decide
    have w1 : (x + (1 : Int32)).toInt = (i : Int) + 1 := by rw [zb_add (by rw [xi, e1]; omega) (by rw [xi, e1]; omega), xi, e1]
    have w2 : (Int32.ofNat (i + 1)).toInt = ((i + 1 : Nat) : Int) := Int32.toInt_ofNat_of_lt (by omega)
    have x1 : x + (1 : Int32) = Int32.ofNat (i + 1) := Int32.toInt_inj.mp (by omega)
    rw [F_X10_parted_23]
    simp only [zlt, zlt2, g0, hT]
    by_cases c : i < a
    · rw [if_pos (by omega)]
      by_cases c2 : (x &&& all).toInt = x.toInt
      · rw [if_pos c2]
        have c3 : (Int32.ofNat i &&& all) = Int32.ofNat i := by rw [← hx]; exact Int32.toInt_inj.mp c2
        refine ih _ (i + 1) _ x1 (by omega) (by omega) ?_
        rw [pmn_s c3, ← hx, ← hy]
        rfl
      · rw [if_neg c2]
        have c3 : ¬ (Int32.ofNat i &&& all) = Int32.ofNat i := fun z => c2 (by rw [← hx] at z; rw [z])
        exact ih _ (i + 1) y x1 (by omega) (by omega) (by rw [pmn_n c3]; exact hy)
    · rw [if_neg (by omega)]
      obtain rfl : i = a := by omega
      rw [hy]
theorem mPart (hT : ∀ set, (set &&& all) = set → F_X11_tourOf m0 set t = T set) (ha : all.toInt = a) (ha2 : a < 4096) (he : a % 2 = 0) (h0 : bt all 0 = false) : ∀ (n : Nat) (x : Int32) (i : Nat) (y : Int32), x = Int32.ofNat i → i % 2 = 0 → i ≤ a + 2 → a + 2 - i < n → y = pmn T all i → F_X11_parted_17 all m0 n x y t = (pmn T all (a + 2), t) := by
  have e2 : (2 : Int32).toInt = 2 := by decide
  intro n
  induction n with
  | zero => intro x i y _ _ _ h; exact absurd h (by omega)
  | succ n ih =>
    intro x i y hx h2 hi hm hy
    have xi : x.toInt = i := by rw [hx]; exact Int32.toInt_ofNat_of_lt (by omega)
    rw [F_X11_parted_17]
    simp only [zlt]
    by_cases c : a < i
    · rw [if_pos (by omega)]
      have : i = a + 2 := by omega
      rw [hy, this]
    · rw [if_neg (by omega)]
      have w1 : (x + (2 : Int32)).toInt = (i : Int) + 2 := by rw [zb_add (by rw [xi, e2]; omega) (by rw [xi, e2]; omega), xi, e2]
      have w2 : (Int32.ofNat (i + 2)).toInt = ((i + 2 : Nat) : Int) := Int32.toInt_ofNat_of_lt (by omega)
      have x2 : x + (2 : Int32) = Int32.ofNat (i + 2) := Int32.toInt_inj.mp (by omega)
      have odd : ¬ (Int32.ofNat (i + 1) &&& all) = Int32.ofNat (i + 1) := fun h => by
        have q := b_and (Int32.ofNat (i + 1)) all 0
        rw [h, h0, bt_nat _ (by decide), Nat.testBit_zero] at q
        have : (i + 1) % 2 = 1 := by omega
        simp [this] at q
      by_cases c2 : (x &&& (all ^^^ (-1 : Int32))).toInt = 0
      · rw [if_pos c2]
        have c3 : (x &&& all) = x := sub_e.mp c2
        have w : (all &&& (x ^^^ (-1 : Int32))) &&& all = all &&& (x ^^^ (-1 : Int32)) := b_ext (fun j _ => by
          rw [b_and, b_and]
          cases bt all j <;> simp)
        rw [hT x c3, hT _ w]
        have fin : ∀ y', y' = mnI y (mxI (T x) (T (all &&& (x ^^^ (-1 : Int32))))) → F_X11_parted_17 all m0 n (x + (2 : Int32)) y' t = (pmn T all (a + 2), t) := fun y' hy' => ih _ (i + 2) y' x2 (by omega) (by omega) (by omega) (by
          rw [pmn_n odd, pmn_s (by rw [← hx]; exact c3), ← hx, ← hy]
          exact hy')
        have key := mn_mx (b := y) (v := T x) (w := T (all &&& (x ^^^ (-1 : Int32))))
        by_cases d1 : (T x).toInt < (T (all &&& (x ^^^ (-1 : Int32)))).toInt
        · rw [if_pos d1] at key ⊢
          by_cases d2 : (T (all &&& (x ^^^ (-1 : Int32)))).toInt < y.toInt
          · rw [if_pos d2] at key ⊢
            exact fin _ key
          · rw [if_neg d2] at key ⊢
            exact fin _ key
        · rw [if_neg d1] at key ⊢
          by_cases d2 : (T x).toInt < y.toInt
          · rw [if_pos d2] at key ⊢
            exact fin _ key
          · rw [if_neg d2] at key ⊢
            exact fin _ key
      · rw [if_neg c2]
        exact ih _ (i + 2) y x2 (by omega) (by omega) (by omega) (by rw [pmn_n odd, pmn_n (fun z => c2 (sub_e.mpr (by rw [hx]; exact z)))]; exact hy)
end PARTB
section PARTC
variable {κ : Int} {L1 : List Nat} {kd1 : Nat → Nat} {L2 : List Nat} {kd2 : Nat → Nat} {σ1 σ2 τ1 τ2 : zS} {m0 x0 : Nat} {Q : Nat → zCo → (Nat → Int32) → Prop} {V : zWh} {ps pc sl rv sh cd : Nat} {v1 v2 p q r : Int32}
theorem zRL.parted (hG : zGd Q) (h : zRL Q L1 kd1 x0 m0 V ps pc sl rv sh cd σ1 σ2) (hl : zLen x0 m0 σ1 σ2) (hx : zT L1 kd1 x0 10) (hI : zI κ 0 L1 kd1 σ1) (hJ : zJ κ L2 kd2 σ2) (hm : zT L2 kd2 m0 11) (hg : gN m0 σ2) (f1 : (v1, τ1) = F_X10_parted x0 σ1) (f2 : (v2, τ2) = F_X11_parted m0 σ2) : v1.toInt = v2.toInt := by
  obtain ⟨N, M, u, FR, SR, ℓ, l, A1, A2, A3, A4, A6, s, t, hs, ht, ⟨⟨n1, n2, n3, n4⟩, -, hb, -, hM⟩, ⟨g0, g1, g2, g3, g4, g6⟩, hP, hMN⟩ := h.lk2 hG hl hx hI hJ hm hg
  obtain ⟨SB, c1, c2⟩ := cSources hP g4 n1
  have m1 := mSources hM hJ hm n2 n1
  have eS : F_X11_sourceBits m0 t = SB := b_ext (fun j hj => by
    have a := m1 j hj
    have b := c2 j hj
    cases h1 : bt (F_X11_sourceBits m0 t) j with
    | false =>
      cases h2 : bt SB j with
      | false => rfl
      | true => rw [b.mp h2 |> a.mpr] at h1; cases h1
    | true => exact (b.mpr (a.mp h1)).symm)
  have in12 : ∀ j, 12 ≤ j → j < 32 → bt SB j = false := fun j j1 j2 => by
    cases hc : bt SB j with
    | false => rfl
    | true => have := ((c2 j j2).mp hc).2.1; omega
  have z0 : bt SB 0 = false := by
    cases hc : bt SB 0 with
    | false => rfl
    | true => have := ((c2 0 (by decide)).mp hc).1; omega
  obtain ⟨a, a1, a2, a3, a4⟩ := i12 in12
  have ev : a % 2 = 0 := by
    have q := a4 0 (by decide)
    rw [z0, Nat.testBit_zero] at q
    have := of_decide_eq_false q
    omega
  obtain ⟨T, hT⟩ : ∃ T : Int32 → Int32, T = fun set => (2 : Int32) * tsm ℓ (fun t => ∃ q, 1 ≤ q ∧ q < N ∧ bt set q = true ∧ An u t q) M - tmx FR (fun q => bt set q = true) M := ⟨_, rfl⟩
  have T1 : ∀ set, F_X6_tourOf sh set s = (T set, s) := fun set => by rw [hT]; exact cTour hP g1 g3 g6 n1 hMN set
  have T2 : ∀ set, (set &&& SB) = set → F_X11_tourOf m0 set t = T set := fun set hw => by
    rw [hT]
    exact mTour hM hJ hm n2 n1 (fun c c1 c2 => (hb c c1 c2).1) hMN set (fun j hj hz => by
      have q := b_and set SB j
      rw [hw, hz] at q
      have w : bt SB j = true := by
        cases hc : bt SB j with
        | true => rfl
        | false => rw [hc] at q; cases q
      have := (c2 j hj).mp w
      exact ⟨this.1, this.2.1⟩)
  have self : (SB &&& SB) = SB := b_ext (fun j _ => by rw [b_and, Bool.and_self])
  have P1 := cPart (x0 := x0) (a := a) T1 g0 a2 a1 4294967299 0 0 (T SB) rfl (by omega) (by omega) rfl
  have P2 := mPart (m0 := m0) (a := a) T2 a2 a1 ev z0 10000 0 0 (T SB) rfl rfl (by omega) (by omega) rfl
  rw [pmn_end a3 ev z0] at P2
  unfold F_X10_parted at f1
  unfold F_X11_parted at f2
  simp only [zlt, zlt2] at f1 f2
  rw [← hs, g0, c1] at f1
  simp only at f1
  rw [g0, T1] at f1
  simp only at f1
  rw [P1] at f1
  rw [← ht, eS, T2 SB self, P2] at f2
  rw [(zPr2 f1).1, (zPr2 f2).1]
end PARTC
end
-- 35x59.sh8
section
/-! THE LENGTHS TOLD ARE ALIKE, through all -/
/-- the lengths lie within what may be told -/
def zGb (s : zA) (g : zGa) : Prop := s.1 = 0 → s.2.2.2.1 = 0 → ∀ p : Nat, 1 ≤ p → (p : Int) ≤ s.2.2.2.2.2.2.1 → 1 ≤ (g p).2.1 ∧ (g p).2.1 ≤ 99
section GB
variable {T : zTn} {s : zA} {g : zGa}
theorem aNumb_in {lo hi : Int} (hs : s.1 = 0) (hz : (aNumb T lo hi s).1 = 0) (h : (aNumb T lo hi s).2.2.2.1 = 0) : lo ≤ T.2.2.1 s.2.2.1 ∧ T.2.2.1 s.2.2.1 ≤ hi := by
  have k := aNumb_k hz
  apply Classical.byContradiction
  intro n
  unfold aNumb at h
  rw [aTake_l, if_pos ⟨hs, k, n⟩] at h
  exact aLate_l h (by decide) hs
theorem gB_tell (hs : s.1 = 0) (hg : zGb s g) : zGb (aTell T s) (aG T s g) := by
  intro q l p hp1 hp2
  by_cases ht : T.1 s.2.2.1 = 1
  · have Ea : aTell T s = aTake T 24 (aPlace T s) := by
      unfold aTell
      rw [if_neg (by omega), if_pos ht]
    rw [Ea] at q l hp2
    have qp : (aPlace T s).1 = 0 := (aTake_i q).1
    have lp : (aPlace T s).2.2.2.1 = 0 := by rw [aTake_l] at l; exact l
    have q2 : (aPlace2 T (aPlace1 T s)).1 = 0 := by
      have qp' := qp
      unfold aPlace at qp'
      split at qp'
      · next c => exact c.1
      · exact qp'
    obtain ⟨s1z, -, i2⟩ := aPlace2_i q2
    have c11 : s.2.2.2.2.2.2.1 < 11 := by
      apply Classical.byContradiction
      intro n
      have s1z' := s1z
      unfold aPlace1 at s1z'
      rw [if_pos (by omega)] at s1z'
      have := (aTake_i s1z').1
      unfold aFail at this
      rw [if_neg (zne hs)] at this
      exact absurd this (by decide : ¬ (2 : Int) = 0)
    have es1 : aPlace1 T s = aTake T 1 s := by
      unfold aPlace1
      rw [if_neg (by omega)]
    obtain ⟨-, -, t3, t4⟩ := aTake_i (es1 ▸ s1z)
    have cnt' : (aPlace2 T (aPlace1 T s)).2.2.2.2.2.2.1 = s.2.2.2.2.2.2.1 := by
      rw [show (aPlace2 T (aPlace1 T s)).2.2.2.2.2.2.1 = (aPlace1 T s).2.2.2.2.2.2.1 from congrArg (fun z => z.2.1) i2, es1]
      exact congrArg (fun z => z.2.2.2.1) t4
    have ep : aPlace T s = aSetP (aPlace2 T (aPlace1 T s)) (T.2.1 (aPlace1 T s).2.2.1) := by
      unfold aPlace
      rw [if_pos ⟨q2, by omega⟩]
    have l2 : (aPlace2 T (aPlace1 T s)).2.2.2.1 = 0 := by rw [ep] at lp; exact lp
    have ec : (aTake T 24 (aPlace T s)).2.2.2.2.2.2.1 = (aPlace T s).2.2.2.2.2.2.1 := congrArg (fun z => z.2.2.2.1) (aTake_i q).2.2.2
    have hp3 : (p : Int) ≤ s.2.2.2.2.2.2.1 + 1 := by rw [ec, ep] at hp2; rw [← cnt']; exact hp2
    have eg : aG T s g = fun p : Nat => if (p : Int) = s.2.2.2.2.2.2.1 + 1 then aVals T (aPlace1 T s) else g p := by
      unfold aG
      rw [if_pos ⟨ht, qp⟩]
    obtain ⟨z4, -, -⟩ := aNumb_i (lo := 0) (hi := 99) q2
    obtain ⟨z3, -, -⟩ := aNumb_i z4
    obtain ⟨z2, -, -⟩ := aNumb_i z3
    obtain ⟨z1, k22, -⟩ := aKnown_i z2
    have l4 := aNumb_l (lo := 0) (hi := 99) z4 l2
    have l3 := aNumb_l z3 l4
    have l1 := aNumb_l z2 l3
    obtain ⟨l0, -⟩ := aKnown_l z1 l1 k22
    have lN := aNew_l s1z l0
    have lS : s.2.2.2.1 = 0 := by rw [es1, aTake_l] at lN; exact lN
    have b := aNumb_in z2 z3 l3
    rw [eg]
    show 1 ≤ (if (p : Int) = s.2.2.2.2.2.2.1 + 1 then aVals T (aPlace1 T s) else g p).2.1 ∧ (if (p : Int) = s.2.2.2.2.2.2.1 + 1 then aVals T (aPlace1 T s) else g p).2.1 ≤ 99
    by_cases cp : (p : Int) = s.2.2.2.2.2.2.1 + 1
    · rw [if_pos cp]
      exact b
    · rw [if_neg cp]
      exact hg hs lS p hp1 (by omega)
  · have eg : aG T s g = g := by
      unfold aG
      rw [if_neg (fun z => ht z.1)]
    have k := aK_tell (T := T) (l := s.2.2.2.1) (c := s.2.2.2.2.2.2.1) ⟨id, rfl⟩ ht
    rw [eg]
    exact hg hs (k.1 l) p hp1 (by rw [← k.2]; exact hp2)
theorem gB_run : ∀ (l : Nat) (s : zA) (g : zGa), zGb s g → zGb (aRun T l s) (gRun T (aG T) l s g) := by
  intro l
  induction l with
  | zero => intro s g h; exact h
  | succ l ih =>
    intro s g h
    rw [aRun, gRun]
    by_cases c : s.1 = 0
    · rw [if_neg (zne c), if_neg (zne c)]
      by_cases c1 : T.1 s.2.2.1 = 33
      · rw [if_pos c1, if_pos c1]; exact h
      · rw [if_neg c1, if_neg c1]
        exact ih _ _ (gB_tell c h)
    · rw [if_pos c, if_pos c]; exact h
end GB
section TLR
variable {κ : Int} {L1 : List Nat} {kd1 : Nat → Nat} {L2 : List Nat} {kd2 : Nat → Nat} {σ1 σ2 τ1 τ2 : zS} {m0 x0 : Nat} {V : zWh} {ps pc sl rv sh cd td tt : Nat}
set_option maxHeartbeats 1000000 in
theorem zLen.read {v1 v2 : Int32} (hS : zSAM κ L1 kd1 L2 kd2 σ1 σ2) (hl : zLen x0 m0 σ1 σ2) (hL : zLay L1 kd1 x0 σ1.2.2 V ps pc sl) (hTt : zTt x0 σ1.2.2 td tt) (hI1 : zI κ 0 L1 kd1 σ1) (hI2 : zJ κ L2 kd2 σ2) (hx0 : zT L1 kd1 x0 10) (hm0 : zT L2 kd2 m0 11) (f1 : (v1, τ1) = F_X10_read x0 σ1) (f2 : (v2, τ2) = F_X11_read m0 σ2) : zLen x0 m0 τ1 τ2 := by
  obtain ⟨T, m, P, tk, kA, vA, qA, tt', N0, k, q, v, nm, nO, x, p1, p2, C0, D0, S0, y, K, ⟨hd, hd', hTm, hK⟩, ⟨v0, w0⟩, ⟨e, e2⟩, ⟨P1, s1, P2, s2⟩, er, ef, -, dF, tks⟩ := zRead1 hS hI1 hI2 hx0 hm0
  have ett : tt' = tt := Option.some.inj (s1.symm.trans hTt.2.1)
  subst ett
  obtain ⟨c1, c2, c3⟩ := cRead hL hI1 hx0 hTt P1 P2 s2 hd hK v0 e er ef f1
  obtain ⟨b, E, hb1, h18, hE, rE, E19, EF, EX, m1, m2⟩ := mRead hI2 hm0 hd' hTm hK w0 e2 dF tks f2 (fun _ => (0, 0, 0, 0))
  have d1 := hTt.1
  have td9 : zT L1 kd1 td 9 := by
    obtain ⟨z, z1, z2⟩ := zi_ref (j := 10) (k2 := 9) hI1 hx0 (by rfl)
    rw [d1] at z1
    rw [Option.some.inj z1]
    exact z2
  have xP : x0 ≠ P := zNk hx0 P2 (by decide)
  have tP : tt' ≠ P := zNk s2 P2 (by decide)
  have dP : td ≠ P := zNk td9 P2 (by decide)
  have kr := fun j j1 j2 j3 => zTt_k hI1 s2 j j1 j2 j3
  have r3 := kr 3 (by decide) (by decide) (by decide)
  have gd : (σ1.2.2 x0 10).getD 0 = td := by rw [d1]; rfl
  have t23 : zf 0 11 23 = some (100 + 23) := by rfl
  by_cases za : aAns (aRun T 500 aZ) = 0
  · obtain ⟨⟨z1, z2⟩, g1, -, -, -, -, -, -, g8, -, g10, -⟩ := c3 za
    obtain ⟨-, N2, l1, l2, -, l4, l5, -, -, -, -, l10⟩ := m2 za
    obtain ⟨X1, -, X3⟩ := EX z1 z2
    have r10 : (τ1.2.2 x0 10).getD 0 = tt' := by rw [g1, zu_s]; rfl
    have rt : τ1.2.2 tt' = σ1.2.2 tt' := by rw [g1, zu_n _ _ _ (zNk s2 hx0 (by decide)), zu_n _ _ _ (zNk s2 hx0 (by decide)), zu_n _ _ _ tP]
    have er2 : ∀ s, mR τ2 m0 s = mR σ2 m0 s := fun s => by rw [mR, l4]
    have nB : ∀ x, (x = 21 ∨ x = 23) → ∀ j, ¬ zBm σ2 m0 (mR σ2 m0 x) j := fun x hx j => by
      have hz : zf 0 11 x = some (100 + x) := by rcases hx with rfl | rfl <;> rfl
      rintro (⟨z, -⟩ | z | z | z)
      · exact mR_m hI2 hm0 hz (by omega) z
      · exact mR_ne hI2 hm0 hz (s' := 48) (k' := 148) (by rfl) (by omega) z
      · exact mR_ne hI2 hm0 hz (s' := 49) (k' := 149) (by rfl) (by omega) z
      · exact mR_ne hI2 hm0 hz (s' := 67) (k' := 167) (by rfl) (by omega) z
    obtain ⟨W, hW⟩ : ∃ W : Nat → Nat, W = fun j => (σ1.2.2 tt' j).getD 0 := ⟨_, rfl⟩
    have Wk : ∀ j, 2 ≤ j → j ≤ 5 → zT L1 kd1 (W j) (43 + j) := fun j j1 j2 => by
      have := kr j j1 (by omega) (by omega)
      rw [if_neg (by omega)] at this
      rw [hW]; exact this
    have rC0 : ∀ j, C0.2.2 tt' j = σ1.2.2 tt' j := fun j => by rw [er, zu_n _ _ _ tP]
    have hWz : zWz W P tt' C0.2.2 := ⟨fun j j1 j2 => ⟨by rw [rC0, hW], zNk (Wk j j1 j2) P2 (by omega)⟩, fun i j i1 i2 j1 j2 n => zNk (Wk i i1 i2) (Wk j j1 j2) (by omega)⟩
    have hXz : ∀ j, 2 ≤ j → j ≤ 5 → W j ≠ tt' ∧ W j ≠ (C0.2.2 tt' 6).getD 0 ∧ W j ≠ (C0.2.2 tt' 7).getD 0 ∧ W j ≠ (C0.2.2 tt' 9).getD 0 := fun j j1 j2 => by
      have q6 : zT L1 kd1 ((σ1.2.2 tt' 6).getD 0) 49 := kr 6 (by decide) (by decide) (by decide)
      have q7 : zT L1 kd1 ((σ1.2.2 tt' 7).getD 0) 50 := kr 7 (by decide) (by decide) (by decide)
      have q9 : zT L1 kd1 ((σ1.2.2 tt' 9).getD 0) 51 := kr 9 (by decide) (by decide) (by decide)
      rw [rC0, rC0, rC0]
      exact ⟨zNk (Wk j j1 j2) s2 (by omega), zNk (Wk j j1 j2) q6 (by omega), zNk (Wk j j1 j2) q7 (by omega), zNk (Wk j j1 j2) q9 (by omega)⟩
    obtain ⟨-, VG, -⟩ := vEndI (tt := tt') hd hK (fun τ s g => zVg W τ s g ∧ τ.2.2 = C0.2.2) (aG T) (fun τ s g hv hs hi => ⟨vTellG hd hK hv hs (by rw [hi.2]; exact hWz) (by rw [hi.2]; exact hXz) hi.1, by rw [show (F_X3_telling P τ).2.2 = τ.2.2 from rf_X3_telling (R := τ.2.2) rfl]; exact hi.2⟩) 500 C0 aZ (fun _ => (0, 0, 0, 0)) v0 ⟨fun _ _ p h1 h2 => by have h2' : (p : Int) ≤ 0 := h2; omega, rfl⟩
    have VG' := VG z1 z2
    have GB := gB_run (T := T) 500 aZ (fun _ => (0, 0, 0, 0)) (fun _ _ p h1 h2 => by have h2' : (p : Int) ≤ 0 := h2; omega) z1 z2
    have M2 : zM m0 τ2 = N2 := by
      unfold zM zp
      show (τ2.1 (mR τ2 m0 21) (τ2.1 m0 18).toInt.toNat).toInt = N2
      rw [er2, l5, l10 _ _ (nB 21 (by omega) _)]
      exact l2
    intro p h1 h2
    rw [M2] at h2
    have hp : (p : Int) ≤ (aRun T 500 aZ).2.2.2.2.2.2.1 := by
      rw [l2] at X1
      split at X1
      · omega
      · omega
    have q1 := (VG' p h1 hp).2.1
    have q2 := (X3 p h1 hp).2.1
    have q3 := GB p h1 hp
    rw [hW] at q1
    have eb : (τ2.1 m0 18).toInt.toNat = b := by rw [l5]; rfl
    rw [er2, eb, l10 _ _ (nB 23 (by omega) _), r10, rt, g10 3 (by decide) (by decide) (by decide)]
    refine ⟨Int32.toInt_inj.mp (q1.trans q2.symm), ?_⟩
    rw [q2]
    exact q3
  · obtain ⟨g1, g2⟩ := c2 za
    obtain ⟨l1, l2⟩ := m1 za
    have ro : ∀ c, c ≠ P → τ1.2.2 c = σ1.2.2 c := fun c h1 => by rw [g1, zu_n _ _ _ h1]
    obtain ⟨y3, y1, y2⟩ := zi_ref (j := 3) (k2 := 46) hI1 td9 (by rfl)
    have gy : (σ1.2.2 td 3).getD 0 = y3 := by rw [y1]; rfl
    have ny := hTt.2.2.2 3 (by decide) (by decide) (by decide)
    rw [gy] at ny
    have krn : ∀ j, 2 ≤ j → j ≤ 9 → j ≠ 8 → j ≠ 3 → kd1 ((σ1.2.2 tt' j).getD 0) ≠ 46 := fun j j1 j2 j3 j4 => by
      rw [(kr j j1 j2 j3).2]
      split <;> omega
    have fy : ∀ j, τ1.1 y3 j = σ1.1 y3 j := fun j => g2 y3 j (by
      rintro (⟨-, z⟩ | z | ⟨i, i1, i2, i3, z⟩)
      · rw [y2.2] at z; omega
      · exact zNk y2 s2 (by decide) z
      · by_cases e3 : i = 3
        · rw [e3] at z; exact ny z
        · exact krn i i1 i2 i3 e3 (by rw [← z]; exact y2.2)) (fun z => zNk y2 hx0 (by decide) z.1) (by rw [y2.2]; decide)
    have er2 : ∀ s, mR τ2 m0 s = mR σ2 m0 s := fun s => by rw [mR, l1]
    have l : ∀ c j, ¬ (c = m0 ∧ j = 17) → ¬ zAm (mR σ2 m0) m0 b x k q v c j → τ2.1 c j = σ2.1 c j := fun c j n1 n2 => (l2 c j n1).trans (EF c j n2)
    have e18 : τ2.1 m0 18 = σ2.1 m0 18 := l _ _ (fun z => by omega) (zAm.fld hI2 hm0 tks (by omega))
    have e21 : τ2.1 (mR σ2 m0 21) (σ2.1 m0 18).toInt.toNat = σ2.1 (mR σ2 m0 21) (σ2.1 m0 18).toInt.toNat := l _ _ (fun z => mR_m hI2 hm0 (s := 21) (k := 121) (by rfl) (by decide) z.1) (zAm.r21 hI2 hm0 tks (by omega))
    have M2 : zM m0 τ2 = zM m0 σ2 := by
      unfold zM zp
      rw [e18]
      show (τ2.1 (mR τ2 m0 21) _).toInt = (σ2.1 (mR σ2 m0 21) _).toInt
      rw [er2, e21]
    have mN : zM m0 σ2 ≤ 12 := (zM_in hI2 hm0).2
    have t23k : zT L2 kd2 (mR σ2 m0 23) 123 := mR_t hI2 hm0 (by rfl)
    have e23 : ∀ p : Nat, p < 12 → τ2.1 (mR σ2 m0 23) (12 * (σ2.1 m0 18).toInt.toNat + p) = σ2.1 (mR σ2 m0 23) (12 * (σ2.1 m0 18).toInt.toNat + p) := fun p hp => l _ _ (fun z => mR_m hI2 hm0 (s := 23) (k := 123) (by rfl) (by decide) z.1) (by
      have q23 : zQs 23 := by unfold zQs; omega
      have n : ∀ i, zQs i → i ≠ 23 → mR σ2 m0 23 ≠ mR σ2 m0 i := fun i hi h => mR_ne hI2 hm0 (zQs_k q23).1 (zQs_k hi).1 (by omega)
      rintro ((⟨z, -⟩ | ⟨-, z1, z2⟩ | ⟨z, -⟩ | ⟨i, z1, z2, z3, z⟩) | ⟨z, -⟩ | z | z | z | z)
      · exact zNk t23k hm0 (by decide) z
      · omega
      · exact n 21 (by unfold zQs; omega) (by decide) z
      · exact n i z1 (by omega) z
      · exact zNk t23k hm0 (by decide) z
      · exact zNk t23k tks.1 (by decide) z
      · exact zNk t23k tks.2.1 (by decide) z
      · exact zNk t23k tks.2.2.1 (by decide) z
      · exact zNk t23k tks.2.2.2 (by decide) z)
    intro p h1 h2
    rw [M2] at h2
    have A := hl p h1 h2
    rw [gd, gy] at A
    rw [er2, e18, e23 p (by omega), ro x0 xP, gd, ro td dP, gy, fy]
    exact A
theorem zLen.c {Wk Wr : List Nat} (h : zLen x0 m0 σ1 σ2) (hI : zI κ 0 L1 kd1 σ1) (hx : zT L1 kd1 x0 10) (g : zSm Wk Wr L1 kd1 σ1 τ1) (h1 : Wk.contains 46 = false) (h2 : (Wr.all (fun j => j == 5)) = true) : zLen x0 m0 τ1 σ2 := by
  have n : ∀ a ∈ L1, kd1 a ≠ 5 → τ1.2.2 a = σ1.2.2 a := fun a ha h5 => (g a ha).2 (fun q => h5 (by
    have := List.all_eq_true.mp h2 _ q
    simpa using this))
  obtain ⟨td, d1, d2⟩ := zi_ref (j := 10) (k2 := 9) hI hx (by rfl)
  obtain ⟨y, y1, y2⟩ := zi_ref (j := 3) (k2 := 46) hI d2 (by rfl)
  have gd : (σ1.2.2 x0 10).getD 0 = td := by rw [d1]; rfl
  have gy : (σ1.2.2 td 3).getD 0 = y := by rw [y1]; rfl
  have ey : τ1.1 y = σ1.1 y := ((g y y2.1).1 (by rw [y2.2]; exact fun q => by simp [q] at h1)).1
  intro p p1 p2
  have A := h p p1 p2
  rw [gd, gy] at A
  rw [n x0 hx.1 (by rw [hx.2]; decide), gd, n td d2.1 (by rw [d2.2]; decide), gy, ey]
  exact A
theorem zLen.m {Wf Wa : List Nat} (h : zLen x0 m0 σ1 σ2) (hJ : zJ κ L2 kd2 σ2) (hm : zT L2 kd2 m0 11) (g : zSame m0 Wf Wa L2 kd2 σ2 τ2) (h1 : Wf.contains 18 = false) (h2 : ([121, 123].all (fun j => !(Wa.contains j))) = true) : zLen x0 m0 σ1 τ2 := by
  have er : ∀ s, mR τ2 m0 s = mR σ2 m0 s := fun s => by rw [mR, g.2.2]
  have r : ∀ s, (s = 21 ∨ s = 23) → τ2.1 (mR σ2 m0 s) = σ2.1 (mR σ2 m0 s) := fun s hs => by
    have ht : zT L2 kd2 (mR σ2 m0 s) (100 + s) := by rcases hs with rfl | rfl <;> exact mR_t hJ hm (by rfl)
    refine (g.1 _ ht.1 (by rw [ht.2]; omega) (fun q => ?_)).1
    rw [ht.2] at q
    have z := List.all_eq_true.mp h2 (100 + s) (by rcases hs with rfl | rfl <;> decide)
    simp [q] at z
  have e18 : τ2.1 m0 18 = σ2.1 m0 18 := g.2.1 18 (fun q => by simp [q] at h1)
  have M2 : zM m0 τ2 = zM m0 σ2 := by
    unfold zM zp
    rw [e18]
    show (τ2.1 (mR τ2 m0 21) _).toInt = (σ2.1 (mR σ2 m0 21) _).toInt
    rw [er, r 21 (by omega)]
  intro p p1 p2
  rw [M2] at p2
  have A := h p p1 p2
  rw [er, e18, r 23 (by omega)]
  exact A
end TLR
end
-- 35x60.rn1
section
/-! THE RELATION OF THE ROWS OF SHAPE: as zRM, and the lengths told are alike -/
def zRN (κ : Int) (L1 : List Nat) (kd1 : Nat → Nat) (L2 : List Nat) (kd2 : Nat → Nat) (x0 m0 : Nat) (σ1 σ2 : zS) : Prop := zRM κ L1 kd1 L2 kd2 x0 m0 σ1 σ2 ∧ zLen x0 m0 σ1 σ2
section RN1
variable {κ k : Int} {L1 : List Nat} {kd1 : Nat → Nat} {L2 : List Nat} {kd2 : Nat → Nat} {σ1 σ2 τ1 τ2 : zS} {Wk Wr Wf Wa : List Nat} {m0 x0 : Nat} {v1 v2 p q r : Int32}
theorem zRN.le (h0 : k ≤ κ) (h : zRN κ L1 kd1 L2 kd2 x0 m0 σ1 σ2) : zRN k L1 kd1 L2 kd2 x0 m0 σ1 σ2 := ⟨h.1.le h0, h.2⟩
theorem zRN.c0 (h : zRN κ L1 kd1 L2 kd2 x0 m0 σ1 σ2) (hx : zT L1 kd1 x0 10) (hI : zI κ 0 L1 kd1 σ1) (g : zSm Wk [] L1 kd1 σ1 τ1) (h1 : ([1, 2, 4, 9, 10, 22, 23, 24, 39, 40, 46].all (fun j => !(Wk.contains j))) = true) : zRN κ L1 kd1 L2 kd2 x0 m0 τ1 σ2 := ⟨h.1.c0 hx hI g (aSub h1 (by rfl)), h.2.c hI hx g (nC h1 (by rfl)) (by rfl)⟩
theorem zRN.c (h : zRN κ L1 kd1 L2 kd2 x0 m0 σ1 σ2) (hx : zT L1 kd1 x0 10) (hI : zI κ 0 L1 kd1 σ1) (g : zSm Wk Wr L1 kd1 σ1 τ1) (hv : zRz σ1.2.2 τ1) (h1 : ([1, 2, 4, 9, 10, 22, 23, 24, 39, 40, 46].all (fun j => !(Wk.contains j))) = true) (h2 : (Wr.all (fun j => j == 5)) = true) : zRN κ L1 kd1 L2 kd2 x0 m0 τ1 σ2 := ⟨h.1.c hx hI g hv (aSub h1 (by rfl)) h2, h.2.c hI hx g (nC h1 (by rfl)) h2⟩
theorem zRN.t (h : zRN κ L1 kd1 L2 kd2 x0 m0 σ1 σ2) (hx : zT L1 kd1 x0 10) (hI : zI κ 0 L1 kd1 σ1) (g : zSm Wk Wr L1 kd1 σ1 τ1) (p : ∀ (V : zWh) (ps pc sl rv sh cd : Nat), zLay L1 kd1 x0 σ1.2.2 V ps pc sl → zRv L1 kd1 x0 rv sh cd σ1.2.2 → zPv L1 kd1 V rv σ1 τ1) (h1 : ([2, 4, 9, 10, 39, 40, 46].all (fun j => !(Wk.contains j))) = true) (h2 : (Wr.all (fun j => j == 5)) = true) : zRN κ L1 kd1 L2 kd2 x0 m0 τ1 σ2 := ⟨h.1.t hx hI g p (aSub h1 (by rfl)) h2, h.2.c hI hx g (nC h1 (by rfl)) h2⟩
theorem zRN.m (h : zRN κ L1 kd1 L2 kd2 x0 m0 σ1 σ2) (hJ : zJ k L2 kd2 σ2) (hm : zT L2 kd2 m0 11) (g : zSame m0 Wf Wa L2 kd2 σ2 τ2) (h1 : ([17, 18, 57, 62].all (fun j => !(Wf.contains j))) = true) (h2 : ([101, 109, 121, 123, 148, 158, 167, 168].all (fun j => !(Wa.contains j))) = true) : zRN κ L1 kd1 L2 kd2 x0 m0 σ1 τ2 := ⟨h.1.m hJ hm g h1 (aSub h2 (by rfl)), h.2.m hJ hm g (nC h1 (by rfl)) (aSub h2 (by rfl))⟩
theorem zRN.feed {p1 p2 p3 p4 p5 : Int32} (h : zRN κ L1 kd1 L2 kd2 x0 m0 σ1 σ2) (hI1 : zI κ 0 L1 kd1 σ1) (hI2 : zJ κ L2 kd2 σ2) (hx0 : zT L1 kd1 x0 10) (hm0 : zT L2 kd2 m0 11) (f1 : (v1, τ1) = F_X10_feed x0 p1 p2 p3 p4 p5 σ1) (f2 : (v2, τ2) = F_X11_feed m0 p1 p2 p3 p4 p5 σ2) (g1 : zSm [7, 39] [] L1 kd1 σ1 τ1) (g2 : zSame m0 [2] [101] L2 kd2 σ2 τ2) (hk : (k = κ ∧ 2000 < κ + 20) ∨ (k = κ + 20 ∧ κ + 20 ≤ 2000)) : zRN k L1 kd1 L2 kd2 x0 m0 τ1 τ2 := ⟨zRM.feed h.1 hI1 hI2 hx0 hm0 f1 f2 g1 g2 hk, (h.2.c hI1 hx0 g1 (by rfl) (by rfl)).m hI2 hm0 g2 (by rfl) (by rfl)⟩
theorem zRN.read (h : zRN κ L1 kd1 L2 kd2 x0 m0 σ1 σ2) (hI1 : zI κ 0 L1 kd1 σ1) (hI2 : zJ κ L2 kd2 σ2) (hx0 : zT L1 kd1 x0 10) (hm0 : zT L2 kd2 m0 11) (f1 : (v1, τ1) = F_X10_read x0 σ1) (f2 : (v2, τ2) = F_X11_read m0 σ2) (g1 : zSm Wk Wr L1 kd1 σ1 τ1) (g2 : zSame m0 Wf Wa L2 kd2 σ2 τ2) (h1 : Wk.contains 39 = false := by decide) (h2 : Wk.contains 40 = false := by decide) (h3 : Wr.contains 7 = false := by decide) (h4 : Wa.contains 101 = false := by decide) (h5 : Wa.contains 109 = false := by decide) : v1.toInt = v2.toInt ∧ zRN 0 L1 kd1 L2 kd2 x0 m0 τ1 τ2 := by
  obtain ⟨a, b⟩ := zRM.read h.1 hI1 hI2 hx0 hm0 f1 f2 g1 g2 h1 h2 h3 h4 h5
  obtain ⟨V, ps, pc, sl, rv, sh, cd, hR, td, tt, hT⟩ := h.1.2
  exact ⟨a, b, zLen.read h.1.1.1 h.2 hR.1 hT hI1 hI2 hx0 hm0 f1 f2⟩
theorem zRN.hold (h : zRN κ L1 kd1 L2 kd2 x0 m0 σ1 σ2) (hI : zI κ 0 L1 kd1 σ1) (hJ : zJ κ L2 kd2 σ2) (hx : zT L1 kd1 x0 10) (hm : zT L2 kd2 m0 11) (f1 : (v1, τ1) = F_X10_hold x0 p σ1) (f2 : (v2, τ2) = F_X11_hold m0 p σ2) (g1 : zSm Wk Wr L1 kd1 σ1 τ1) (g2 : zSame m0 Wf Wa L2 kd2 σ2 τ2) (h1 : ([39, 40].all (fun j => !(Wk.contains j))) = true := by decide) (h2 : (Wr.all (fun j => j == 5)) = true := by decide) (h3 : Wf.contains 17 = false := by decide) (h4 : ([101, 109].all (fun j => !(Wa.contains j))) = true := by decide) (h7 : Wr.contains 7 = false := by decide) (k1 : Wk.contains 46 = false := by decide) (k2 : Wf.contains 18 = false := by decide) (k3 : ([121, 123].all (fun j => !(Wa.contains j))) = true := by decide) : v1.toInt = v2.toInt ∧ zRN κ L1 kd1 L2 kd2 x0 m0 τ1 τ2 := by
  obtain ⟨a, b⟩ := zRM.hold h.1 hI hJ hx hm f1 f2 g1 g2 h1 h2 h3 h4 h7
  exact ⟨a, b, (h.2.c hI hx g1 k1 h2).m hJ hm g2 k2 k3⟩
theorem zRN.rule (h : zRN κ L1 kd1 L2 kd2 x0 m0 σ1 σ2) (hI : zI κ 0 L1 kd1 σ1) (hJ : zJ κ L2 kd2 σ2) (hx : zT L1 kd1 x0 10) (hm : zT L2 kd2 m0 11) (f1 : (v1, τ1) = F_X10_rule x0 p σ1) (f2 : (v2, τ2) = F_X11_rule m0 p σ2) (g1 : zSm Wk Wr L1 kd1 σ1 τ1) (g2 : zSame m0 Wf Wa L2 kd2 σ2 τ2) (h1 : ([10, 39, 40].all (fun j => !(Wk.contains j))) = true := by decide) (h2 : (Wr.all (fun j => j == 5)) = true := by decide) (h3 : Wf.contains 17 = false := by decide) (h4 : ([101, 109].all (fun j => !(Wa.contains j))) = true := by decide) (k1 : Wk.contains 46 = false := by decide) (k2 : Wf.contains 18 = false := by decide) (k3 : ([121, 123].all (fun j => !(Wa.contains j))) = true := by decide) : v1.toInt = v2.toInt ∧ zRN κ L1 kd1 L2 kd2 x0 m0 τ1 τ2 := by
  obtain ⟨a, b⟩ := zRM.rule h.1 hI hJ hx hm f1 f2 g1 g2 h1 h2 h3 h4
  exact ⟨a, b, (h.2.c hI hx g1 k1 h2).m hJ hm g2 k2 k3⟩
theorem zRN.dam (h : zRN κ L1 kd1 L2 kd2 x0 m0 σ1 σ2) (hI : zI κ 0 L1 kd1 σ1) (hJ : zJ κ L2 kd2 σ2) (hx : zT L1 kd1 x0 10) (hm : zT L2 kd2 m0 11) (f1 : (v1, τ1) = F_X10_dam x0 p q σ1) (f2 : (v2, τ2) = F_X11_dam m0 p q σ2) (g1 : zSm Wk Wr L1 kd1 σ1 τ1) (g2 : zSame m0 Wf Wa L2 kd2 σ2 τ2) (hq : q.toInt = 0 ∨ q.toInt = 1) (h1 : ([10, 39, 40].all (fun j => !(Wk.contains j))) = true := by decide) (h2 : (Wr.all (fun j => j == 5)) = true := by decide) (h3 : Wf.contains 17 = false := by decide) (h4 : ([101, 109].all (fun j => !(Wa.contains j))) = true := by decide) (k1 : Wk.contains 46 = false := by decide) (k2 : Wf.contains 18 = false := by decide) (k3 : ([121, 123].all (fun j => !(Wa.contains j))) = true := by decide) : v1.toInt = v2.toInt ∧ zRN κ L1 kd1 L2 kd2 x0 m0 τ1 τ2 := by
  obtain ⟨a, b⟩ := zRM.dam h.1 hI hJ hx hm f1 f2 g1 g2 hq h1 h2 h3 h4
  exact ⟨a, b, (h.2.c hI hx g1 k1 h2).m hJ hm g2 k2 k3⟩
theorem zRN.turn (h : zRN κ L1 kd1 L2 kd2 x0 m0 σ1 σ2) (hI : zI κ 0 L1 kd1 σ1) (hJ : zJ κ L2 kd2 σ2) (hx : zT L1 kd1 x0 10) (hm : zT L2 kd2 m0 11) (f1 : (v1, τ1) = F_X10_turn x0 p q σ1) (f2 : (v2, τ2) = F_X11_turn m0 p q σ2) (g1 : zSm Wk Wr L1 kd1 σ1 τ1) (g2 : zSame m0 Wf Wa L2 kd2 σ2 τ2) (hg : gN m0 σ2) (h1 : ([10, 39, 40].all (fun j => !(Wk.contains j))) = true := by decide) (h2 : (Wr.all (fun j => j == 5)) = true := by decide) (h3 : Wf.contains 17 = false := by decide) (h4 : ([101, 109].all (fun j => !(Wa.contains j))) = true := by decide) (k1 : Wk.contains 46 = false := by decide) (k2 : Wf.contains 18 = false := by decide) (k3 : ([121, 123].all (fun j => !(Wa.contains j))) = true := by decide) : v1.toInt = v2.toInt ∧ zRN κ L1 kd1 L2 kd2 x0 m0 τ1 τ2 := by
  obtain ⟨a, b⟩ := zRM.turn h.1 hI hJ hx hm f1 f2 g1 g2 hg h1 h2 h3 h4
  exact ⟨a, b, (h.2.c hI hx g1 k1 h2).m hJ hm g2 k2 k3⟩
theorem zRN.months (h : zRN κ L1 kd1 L2 kd2 x0 m0 σ1 σ2) (hI : zI κ 0 L1 kd1 σ1) (hJ : zJ κ L2 kd2 σ2) (hx : zT L1 kd1 x0 10) (hm : zT L2 kd2 m0 11) (f1 : (v1, τ1) = F_X10_months x0 p σ1) (f2 : (v2, τ2) = F_X11_months m0 p σ2) (g1 : zSm Wk Wr L1 kd1 σ1 τ1) (g2 : zSame m0 Wf Wa L2 kd2 σ2 τ2) (h1 : ([10, 39, 40].all (fun j => !(Wk.contains j))) = true := by decide) (h2 : (Wr.all (fun j => j == 5)) = true := by decide) (h3 : Wf.contains 17 = false := by decide) (h4 : ([101, 109].all (fun j => !(Wa.contains j))) = true := by decide) (k1 : Wk.contains 46 = false := by decide) (k2 : Wf.contains 18 = false := by decide) (k3 : ([121, 123].all (fun j => !(Wa.contains j))) = true := by decide) : v1.toInt = v2.toInt ∧ zRN κ L1 kd1 L2 kd2 x0 m0 τ1 τ2 := by
  obtain ⟨a, b⟩ := zRM.months h.1 hI hJ hx hm f1 f2 g1 g2 h1 h2 h3 h4
  exact ⟨a, b, (h.2.c hI hx g1 k1 h2).m hJ hm g2 k2 k3⟩
theorem zRN.undo (h : zRN κ L1 kd1 L2 kd2 x0 m0 σ1 σ2) (hI : zI κ 0 L1 kd1 σ1) (hJ : zJ κ L2 kd2 σ2) (hx : zT L1 kd1 x0 10) (hm : zT L2 kd2 m0 11) (f1 : (v1, τ1) = F_X10_undo x0 σ1) (f2 : (v2, τ2) = F_X11_undo m0 σ2) (g1 : zSm Wk Wr L1 kd1 σ1 τ1) (g2 : zSame m0 Wf Wa L2 kd2 σ2 τ2) (h1 : ([10, 39, 40].all (fun j => !(Wk.contains j))) = true := by decide) (h2 : (Wr.all (fun j => j == 5)) = true := by decide) (h3 : Wf.contains 17 = false := by decide) (h4 : ([101, 109].all (fun j => !(Wa.contains j))) = true := by decide) (k1 : Wk.contains 46 = false := by decide) (k2 : Wf.contains 18 = false := by decide) (k3 : ([121, 123].all (fun j => !(Wa.contains j))) = true := by decide) : v1.toInt = v2.toInt ∧ zRN κ L1 kd1 L2 kd2 x0 m0 τ1 τ2 := by
  obtain ⟨a, b⟩ := zRM.undo h.1 hI hJ hx hm f1 f2 g1 g2 h1 h2 h3 h4
  exact ⟨a, b, (h.2.c hI hx g1 k1 h2).m hJ hm g2 k2 k3⟩
theorem zRN.restore (h : zRN κ L1 kd1 L2 kd2 x0 m0 σ1 σ2) (hI : zI κ 0 L1 kd1 σ1) (hJ : zJ κ L2 kd2 σ2) (hx : zT L1 kd1 x0 10) (hm : zT L2 kd2 m0 11) (f1 : (v1, τ1) = F_X10_restore x0 p σ1) (f2 : (v2, τ2) = F_X11_restore m0 p σ2) (g1 : zSm Wk Wr L1 kd1 σ1 τ1) (g2 : zSame m0 Wf Wa L2 kd2 σ2 τ2) (h1 : ([10, 39, 40].all (fun j => !(Wk.contains j))) = true := by decide) (h2 : (Wr.all (fun j => j == 5)) = true := by decide) (h3 : Wf.contains 17 = false := by decide) (h4 : ([101, 109].all (fun j => !(Wa.contains j))) = true := by decide) (k1 : Wk.contains 46 = false := by decide) (k2 : Wf.contains 18 = false := by decide) (k3 : ([121, 123].all (fun j => !(Wa.contains j))) = true := by decide) : v1.toInt = v2.toInt ∧ zRN κ L1 kd1 L2 kd2 x0 m0 τ1 τ2 := by
  obtain ⟨a, b⟩ := zRM.restore h.1 hI hJ hx hm f1 f2 g1 g2 h1 h2 h3 h4
  exact ⟨a, b, (h.2.c hI hx g1 k1 h2).m hJ hm g2 k2 k3⟩
theorem zRN.forget (h : zRN κ L1 kd1 L2 kd2 x0 m0 σ1 σ2) (hI : zI κ 0 L1 kd1 σ1) (hJ : zJ κ L2 kd2 σ2) (hx : zT L1 kd1 x0 10) (hm : zT L2 kd2 m0 11) (f1 : (v1, τ1) = F_X10_forget x0 σ1) (f2 : (v2, τ2) = F_X11_forget m0 σ2) (g1 : zSm Wk [] L1 kd1 σ1 τ1) (g2 : zSame m0 Wf Wa L2 kd2 σ2 τ2) (h1 : ([1, 4, 9, 10, 22, 23, 24, 39, 40].all (fun j => !(Wk.contains j))) = true := by decide) (h3 : ([17, 18, 57].all (fun j => !(Wf.contains j))) = true := by decide) (h4 : ([101, 109, 121, 148, 158, 167, 168].all (fun j => !(Wa.contains j))) = true := by decide) (k1 : Wk.contains 46 = false := by decide) (k2 : Wf.contains 18 = false := by decide) (k3 : ([121, 123].all (fun j => !(Wa.contains j))) = true := by decide) : v1.toInt = v2.toInt ∧ zRN κ L1 kd1 L2 kd2 x0 m0 τ1 τ2 := by
  obtain ⟨a, b⟩ := zRM.forget h.1 hI hJ hx hm f1 f2 g1 g2 h1 h3 h4
  exact ⟨a, b, (h.2.c hI hx g1 k1 (by rfl)).m hJ hm g2 k2 k3⟩
theorem zRN.tell {a b c e : Int32} (h : zRN κ L1 kd1 L2 kd2 x0 m0 σ1 σ2) (hI : zI κ 0 L1 kd1 σ1) (hJ : zJ κ L2 kd2 σ2) (hx : zT L1 kd1 x0 10) (hm : zT L2 kd2 m0 11) (f1 : (v1, τ1) = F_X10_tell x0 a b c e σ1) (f2 : (v2, τ2) = F_X11_tell m0 a b c e σ2) (g1 : zSm Wk [] L1 kd1 σ1 τ1) (g2 : zSame m0 Wf Wa L2 kd2 σ2 τ2) (h1 : ([1, 4, 9, 10, 22, 23, 24, 39, 40].all (fun j => !(Wk.contains j))) = true := by decide) (h3 : ([17, 18, 57].all (fun j => !(Wf.contains j))) = true := by decide) (h4 : ([101, 109, 121, 148, 158, 167, 168].all (fun j => !(Wa.contains j))) = true := by decide) (k1 : Wk.contains 46 = false := by decide) (k2 : Wf.contains 18 = false := by decide) (k3 : ([121, 123].all (fun j => !(Wa.contains j))) = true := by decide) : v1.toInt = v2.toInt ∧ zRN κ L1 kd1 L2 kd2 x0 m0 τ1 τ2 := by
  obtain ⟨a, b⟩ := zRM.tell h.1 hI hJ hx hm f1 f2 g1 g2 h1 h3 h4
  exact ⟨a, b, (h.2.c hI hx g1 k1 (by rfl)).m hJ hm g2 k2 k3⟩
theorem zRN.start {b : Bool} {ks : List Nat} (hS : zSAM 0 L1 kd1 L2 kd2 σ1 σ2) (hk : zKb b ks L1 kd1 σ1) (hx : zT L1 kd1 x0 10) (hJ : zJ 0 L2 kd2 σ2) (hm : zT L2 kd2 m0 11) (h0 : zRf0 m0 σ2) : zRN 0 L1 kd1 L2 kd2 x0 m0 σ1 σ2 := ⟨zRM.start hS hk hx hJ hm h0, fun p p1 p2 => by
  have e := h0.2.2.2.2.1
  omega⟩
theorem zRN.tour (h : zRN κ L1 kd1 L2 kd2 x0 m0 σ1 σ2) (hI : zI κ 0 L1 kd1 σ1) (hJ : zJ κ L2 kd2 σ2) (hx : zT L1 kd1 x0 10) (hm : zT L2 kd2 m0 11) (hg : gN m0 σ2) (f1 : (v1, τ1) = F_X10_tour x0 σ1) (f2 : (v2, τ2) = F_X11_tour m0 σ2) : v1.toInt = v2.toInt := by
  obtain ⟨V, ps, pc, sl, rv, sh, cd, hR, -⟩ := h.1.2
  exact hR.tour zGd.q0 h.2 hx hI hJ hm hg f1 f2
theorem zRN.parted (h : zRN κ L1 kd1 L2 kd2 x0 m0 σ1 σ2) (hI : zI κ 0 L1 kd1 σ1) (hJ : zJ κ L2 kd2 σ2) (hx : zT L1 kd1 x0 10) (hm : zT L2 kd2 m0 11) (hg : gN m0 σ2) (f1 : (v1, τ1) = F_X10_parted x0 σ1) (f2 : (v2, τ2) = F_X11_parted m0 σ2) : v1.toInt = v2.toInt := by
  obtain ⟨V, ps, pc, sl, rv, sh, cd, hR, -⟩ := h.1.2
  exact hR.parted zGd.q0 h.2 hx hI hJ hm hg f1 f2
end RN1
end
-- 35x61.sh9
section
/-! MEET -/
/-- how many are on the way -/
noncomputable def dep (N : Nat) (u : Nat → Nat) (c : Nat) : Nat := cnt (fun t => An u t c) N
section DEP
variable {N : Nat} {u : Nat → Nat} {c : Nat} {FR ℓ : Nat → Int32}
theorem dep_0 (hN : 0 < N) : dep N u 0 = 1 := by
  unfold dep
  rw [cnt_cg (Q := fun t => t = 0) N (fun t _ => An_0), cnt_1, if_pos hN]
theorem dep_s (h : zTr N u) (h1 : 1 ≤ c) (h2 : c < N) : dep N u c = dep N u (u c) + 1 := by
  unfold dep
  have e : cnt (fun t => An u t c) N = cnt (fun t => t = c ∨ An u t (u c)) N := cnt_cg N (fun t _ => An_s (by omega))
  rw [e, cnt_or N (fun t _ ⟨z1, z2⟩ => h.acyc h1 h2 (by rw [z1] at z2; exact z2)), cnt_1, if_pos h2]
  omega
theorem An_z (h : zTr N u) : ∀ c, c < N → An u 0 c := h.ind _ An_rf (fun c h1 h2 ih => (An_s (by omega)).mpr (Or.inr ih))
theorem dep_b (h : zTr N u) : ∀ c, c < N → 1 ≤ dep N u c ∧ dep N u c ≤ N := fun c hc => ⟨cnt_p N (k := 0) (by omega) (An_z h c hc), cnt_le N⟩
theorem fr_b (h : zTr N u) (hN : N ≤ 12) (F0 : FR 0 = 0) (hF : ∀ c, 1 ≤ c → c < N → FR c = FR (u c) + ℓ c) (hl : ∀ c, 1 ≤ c → c < N → 1 ≤ (ℓ c).toInt ∧ (ℓ c).toInt ≤ 99) : ∀ c, c < N → 0 ≤ (FR c).toInt ∧ (FR c).toInt + 99 ≤ 99 * (dep N u c : Int) := by
  have e0 : (0 : Int32).toInt = 0 := by decide
  by_cases hz : 0 < N
  · refine h.ind _ (by rw [F0, e0, dep_0 hz]; omega) (fun c h1 h2 ih => ?_)
    have d := dep_s h h1 h2
    have b := (dep_b h c h2).2
    have l := hl c h1 h2
    rw [hF c h1 h2, zb_add (by omega) (by omega)]
    omega
  · intro c hc
    omega
theorem fr_s (h : zTr N u) (hN : N ≤ 12) (F0 : FR 0 = 0) (hF : ∀ c, 1 ≤ c → c < N → FR c = FR (u c) + ℓ c) (hl : ∀ c, 1 ≤ c → c < N → 1 ≤ (ℓ c).toInt ∧ (ℓ c).toInt ≤ 99) (h1 : 1 ≤ c) (h2 : c < N) : (FR (u c)).toInt < (FR c).toInt := by
  have a := fr_b h hN F0 hF hl (u c) (h.u_lt h1 h2)
  have d := (dep_b h (u c) (h.u_lt h1 h2)).2
  have l := hl c h1 h2
  rw [hF c h1 h2, zb_add (by omega) (by omega)]
  omega
theorem fr_m (h : zTr N u) (hN : N ≤ 12) (F0 : FR 0 = 0) (hF : ∀ c, 1 ≤ c → c < N → FR c = FR (u c) + ℓ c) (hl : ∀ c, 1 ≤ c → c < N → 1 ≤ (ℓ c).toInt ∧ (ℓ c).toInt ≤ 99) : ∀ c, c < N → ∀ t, An u t c → t = c ∨ (FR t).toInt < (FR c).toInt := by
  refine h.ind _ (fun t ht => Or.inl (An_0.mp ht)) (fun c h1 h2 ih t ht => ?_)
  have s := fr_s h hN F0 hF hl h1 h2
  rcases (An_s (by omega)).mp ht with e | e
  · exact Or.inl e
  · rcases ih t e with z | z
    · rw [z]; exact Or.inr s
    · exact Or.inr (by omega)
end DEP
section MEETC
variable {N sh A1 A2 A3 A4 A6 : Nat} {u l : Nat → Nat} {ℓ FR : Nat → Int32} {s : zS}
theorem cMeet1 (hP : zShp N u ℓ FR sh A1 A2 A3 A4 A6 l s) (g3 : (s.2.2 sh 3).getD 0 = A3) (hN : N ≤ 12) (hN0 : 0 < N) {P : Nat → Prop} {both p1 p2 : Int32} (hb : ∀ j, j < 32 → (bt both j = true ↔ P j)) : ∀ (n : Nat) (x : Int32) (i : Nat) (y : Int32) (w : Nat), x.toInt = i → 1 ≤ i → i ≤ 12 → 12 - i < n → y.toInt = w → w < N → (w = 0 ∨ P w) → (∀ c, 1 ≤ c → c < i → c < N → P c → (FR c).toInt ≤ (FR w).toInt) → ∃ (z : Int32) (w' : Nat), F_X6_meeting_20 both sh p1 p2 n x y s = (z, s) ∧ z.toInt = w' ∧ w' < N ∧ (w' = 0 ∨ P w') ∧ ∀ c, 1 ≤ c → c < N → P c → (FR c).toInt ≤ (FR w').toInt := by
  have h0 := hP.1
  intro n
  induction n with
  | zero => intro x i y w _ _ _ h; exact absurd h (by omega)
  | succ n ih =>
    intro x i y w hx h1 hi hm hy hw hP0 hmax
    have nx : x.toNatClampNeg = i := by rw [ztn, hx]; rfl
    have ny : y.toNatClampNeg = w := by rw [ztn, hy]; rfl
    rw [F_X6_meeting_20]
    simp only [zlt, g3, nx, ny]
    by_cases c : i < N
    · rw [if_pos (by omega)]
      have hh := cHas (x := both) hx (by omega)
      have x1 : (x + (1 : Int32)).toInt = (i + 1 : Nat) := zp1 hx (by omega)
      rw [hP.2.1.2.1 i c, hP.2.1.2.1 w hw]
      by_cases c2 : bt both i = true
      · rw [hh, if_pos c2, if_neg (by decide)]
        by_cases c3 : (FR w).toInt < (FR i).toInt
        · rw [if_pos c3]
          refine ih (x + (1 : Int32)) (i + 1) x i x1 (by omega) (by omega) (by omega) hx c (Or.inr ((hb i (by omega)).mp c2)) (fun d d1 d2 d3 d4 => ?_)
          by_cases e : d = i
          · rw [e]; exact Int.le_refl _
          · have := hmax d d1 (by omega) d3 d4
            omega
        · rw [if_neg c3]
          refine ih (x + (1 : Int32)) (i + 1) y w x1 (by omega) (by omega) (by omega) hy hw hP0 (fun d d1 d2 d3 d4 => ?_)
          by_cases e : d = i
          · rw [e]; omega
          · exact hmax d d1 (by omega) d3 d4
      · rw [hh, if_neg c2, if_pos rfl]
        refine ih (x + (1 : Int32)) (i + 1) y w x1 (by omega) (by omega) (by omega) hy hw hP0 (fun d d1 d2 d3 d4 => ?_)
        by_cases e : d = i
        · rw [e] at d4
          exact absurd ((hb i (by omega)).mpr d4) c2
        · exact hmax d d1 (by omega) d3 d4
    · rw [if_neg (by omega)]
      exact ⟨y, w, rfl, hy, hw, hP0, fun d d1 d2 d3 => hmax d d1 (by omega) d2 d3⟩
end MEETC
section MEETM
variable {L : List Nat} {kd : Nat → Nat} {m0 N : Nat} {u : Nat → Nat} {FR SR : Nat → Int32} {σ t : zS} {κ : Int}
theorem mMeet1 (h : zShM N u FR SR m0 σ t) (hT : zTr N u) (hN : N ≤ 12) (hu : ∀ c, 1 ≤ c → c < N → (σ.1 (mR σ m0 48) c).toInt = u c) {p q r : Int32} {a b : Nat} (hp : p.toInt = a) (hq : q.toInt = b) (ha : a < N) (hb : b < N) : ∀ (n : Nat) (x : Int32) (d : Nat), x.toInt = d → d < N → dep N u d < n → An u d a → (∀ c, An u c a → An u c b → An u c d) → ∃ (x' : Int32) (c0 : Nat), x'.toInt = c0 ∧ c0 < N ∧ An u c0 a ∧ An u c0 b ∧ (∀ c, An u c a → An u c b → An u c c0) ∧ F_X11_meet_34 m0 p q r n x t = (if r.toInt = 0 then x' else FR a + FR b - (2 : Int32) * FR c0, t) := by
  intro n
  induction n with
  | zero => intro x d _ _ h; exact absurd h (by omega)
  | succ n ih =>
    intro x d hx hd hm ha' hc
    have nx : x.toNatClampNeg = d := by rw [ztn, hx]; rfl
    have np : p.toNatClampNeg = a := by rw [ztn, hp]; rfl
    have nq : q.toNatClampNeg = b := by rw [ztn, hq]; rfl
    have cut := (bt_cut (x := t.1 (mR σ m0 54) d) hq (by omega)).1
    have bb := h.2.1 d b hd (by omega)
    rw [F_X11_meet_34]
    simp only [zlt, h.r 54, h.r 49, h.r 52, nx, np, nq]
    by_cases c : An u d b
    · have w : ¬ ((t.1 (mR σ m0 54) d >>> (q &&& 31)) &&& (1 : Int32)).toInt = 0 := fun z => cut.mp z (bb.mpr ⟨hb, c⟩)
      rw [if_neg w]
      refine ⟨x, d, hx, hd, ha', c, hc, ?_⟩
      rw [(h.2.2.1 a ha).1, (h.2.2.1 b hb).1, (h.2.2.1 d hd).1]
      by_cases cr : r.toInt = 0
      · rw [if_pos cr, if_pos cr]
      · rw [if_neg cr, if_neg cr]
    · have w : ((t.1 (mR σ m0 54) d >>> (q &&& 31)) &&& (1 : Int32)).toInt = 0 := cut.mpr (fun z => c (bb.mp z).2)
      rw [if_pos w]
      have d0 : d ≠ 0 := fun z => c (by rw [z]; exact An_z hT b hb)
      have d1 : 1 ≤ d := by omega
      have e := h.2.2.2.1 d (by omega)
      rw [e]
      have ds := dep_s hT d1 hd
      refine ih _ (u d) (hu d d1 hd) (hT.u_lt d1 hd) (by omega) (An_tr ((An_s d0).mpr (Or.inr An_rf)) ha') (fun c' w1 w2 => ?_)
      rcases (An_s d0).mp (hc c' w1 w2) with z | z
      · rw [z] at w2
        exact absurd w2 c
      · exact z
end MEETM
section MEETB
variable {κ : Int} {L1 : List Nat} {kd1 : Nat → Nat} {L2 : List Nat} {kd2 : Nat → Nat} {σ1 σ2 τ1 τ2 : zS} {m0 x0 : Nat} {Q : Nat → zCo → (Nat → Int32) → Prop} {V : zWh} {ps pc sl rv sh cd : Nat} {v1 v2 p q r : Int32}
theorem zRL.meet (hG : zGd Q) (h : zRL Q L1 kd1 x0 m0 V ps pc sl rv sh cd σ1 σ2) (hl : zLen x0 m0 σ1 σ2) (hx : zT L1 kd1 x0 10) (hI : zI κ 0 L1 kd1 σ1) (hJ : zJ κ L2 kd2 σ2) (hm : zT L2 kd2 m0 11) (hg : gN m0 σ2) (f1 : (v1, τ1) = F_X10_meet x0 p q r σ1) (f2 : (v2, τ2) = F_X11_meet m0 p q r σ2) : v1.toInt = v2.toInt := by
  obtain ⟨N, M, u, FR, SR, ℓ, l, A1, A2, A3, A4, A6, s, t, hs, ht, ⟨⟨n1, n2, n3, n4⟩, ⟨F0, -, hF, -, hℓ⟩, hb, -, hM⟩, ⟨g0, g1, g2, g3, g4, g6⟩, hP, hMN⟩ := h.lk2 hG hl hx hI hJ hm hg
  have e0 : (0 : Int32).toInt = 0 := by decide
  have e1 : (1 : Int32).toInt = 1 := by decide
  have k1 := zN1 n3 n1
  have k2 := zN1 (x := F_X11_many m0 σ2) (mMany.trans n2) n1
  unfold F_X10_meet at f1
  unfold F_X11_meet at f2
  simp only [zlt, zlt2, cPlace, mPlc, cWithin, mIn, e0, e1, k1, k2] at f1 f2
  by_cases cp : 0 ≤ p.toInt ∧ p.toInt ≤ (N : Int) - 1
  · rw [if_neg (fun z => z cp)] at f1 f2
    by_cases cq : 0 ≤ q.toInt ∧ q.toInt ≤ (N : Int) - 1
    · rw [if_neg (fun z => z cq)] at f1 f2
      by_cases cr : 0 ≤ r.toInt ∧ r.toInt ≤ 1
      · rw [if_neg (fun z => z cr)] at f1 f2
        obtain ⟨a, ha⟩ : ∃ a : Nat, p.toInt = a := ⟨p.toInt.toNat, by omega⟩
        obtain ⟨b, hb'⟩ : ∃ b : Nat, q.toInt = b := ⟨q.toInt.toNat, by omega⟩
        have np : p.toNatClampNeg = a := by rw [ztn, ha]; rfl
        have nq : q.toNatClampNeg = b := by rw [ztn, hb']; rfl
        have a1 : a < N := by omega
        have b1 : b < N := by omega
        have bits : ∀ j, j < 32 → (bt (s.1 A6 a &&& s.1 A6 b) j = true ↔ (An u j a ∧ An u j b)) := fun j hj => by
          rw [b_and, Bool.and_eq_true, hP.2.1.2.2.1 a a1 j hj, hP.2.1.2.2.1 b b1 j hj]
        obtain ⟨z, w', q1, q2, q3, q4, q5⟩ := cMeet1 hP g3 n1 (by omega) (p1 := p) (p2 := q) bits 10000 1 1 0 0 e1 (by omega) (by omega) (by omega) e0 (by omega) (Or.inl rfl) (fun c c1 c2 => by omega)
        have eM : F_X6_meeting sh p q s = (z, s) := by
          unfold F_X6_meeting
          simp only [zlt, g6, np, nq]
          exact q1
        obtain ⟨x', c0, r1, r2, r3, r4, r5, r6⟩ := mMeet1 hM n4 n1 (fun c c1 c2 => (hb c c1 c2).2) ha hb' a1 b1 (r := r) 10000 p a ha a1 (by have := (dep_b n4 a a1).2; omega) An_rf (fun c h1 h2 => h1)
        have same : w' = c0 := by
          have cw : An u w' a ∧ An u w' b := by
            rcases q4 with e | e
            · rw [e]; exact ⟨An_z n4 a a1, An_z n4 b b1⟩
            · exact e
          rcases fr_m n4 n1 F0 hF hℓ c0 r2 w' (r5 w' cw.1 cw.2) with e | e
          · exact e
          · by_cases c00 : c0 = 0
            · rw [c00] at r5 ⊢
              exact An_0.mp (r5 w' cw.1 cw.2)
            · have := q5 c0 (by omega) r2 ⟨r3, r4⟩
              omega
        have nz : z.toNatClampNeg = c0 := by rw [ztn, q2, same]; rfl
        rw [← hs, g0, eM] at f1
        simp only [g0, g3, np, nq, nz] at f1
        rw [hP.2.1.2.1 a a1, hP.2.1.2.1 b b1, hP.2.1.2.1 c0 r2] at f1
        rw [← ht, r6] at f2
        by_cases c0' : r.toInt = 0
        · rw [if_pos c0'] at f1 f2
          rw [(zPr2 f1).1, (zPr2 f2).1, q2, r1, same]
        · rw [if_neg c0'] at f1 f2
          rw [(zPr2 f1).1, (zPr2 f2).1]
      · rw [if_pos cr] at f1 f2
        rw [(zPr2 f1).1, (zPr2 f2).1]
    · rw [if_pos cq] at f1 f2
      rw [(zPr2 f1).1, (zPr2 f2).1]
  · rw [if_pos cp] at f1 f2
    rw [(zPr2 f1).1, (zPr2 f2).1]
end MEETB
end
-- 35x62.sh10
section
/-! ORDER -/
def og (u : Nat → Nat) (f : Nat → Int32) (p : Nat) : Nat → Int32 × Int32
  | 0 => (0, 0)
  | j + 1 => if 1 ≤ j ∧ u j = p then (if (f j).toInt < (og u f p j).2.toInt then og u f p j else if (f j).toInt = (og u f p j).2.toInt then ((og u f p j).1 + (1 : Int32), f j) else (1, f j)) else og u f p j
def ordV (u : Nat → Nat) (f : Nat → Int32) (N p : Nat) : Int32 := if (og u f p N).1.toInt = 1 then (og u f p N).2 else (og u f p N).2 + (1 : Int32)
section OG
variable {N p j : Nat} {u : Nat → Nat} {f g : Nat → Int32}
theorem og_n (h : ¬ (1 ≤ j ∧ u j = p)) : og u f p (j + 1) = og u f p j := by rw [og, if_neg h]
theorem og_lt (h : 1 ≤ j ∧ u j = p) (h2 : (f j).toInt < (og u f p j).2.toInt) : og u f p (j + 1) = og u f p j := by rw [og, if_pos h, if_pos h2]
theorem og_eq (h : 1 ≤ j ∧ u j = p) (h2 : (f j).toInt = (og u f p j).2.toInt) : og u f p (j + 1) = ((og u f p j).1 + (1 : Int32), f j) := by rw [og, if_pos h, if_neg (by omega), if_pos h2]
theorem og_gt (h : 1 ≤ j ∧ u j = p) (h2 : (og u f p j).2.toInt < (f j).toInt) : og u f p (j + 1) = (1, f j) := by rw [og, if_pos h, if_neg (by omega), if_neg (by omega)]
theorem og_cg : ∀ n, (∀ c, 1 ≤ c → c < n → u c = p → f c = g c) → og u f p n = og u g p n := by
  intro n
  induction n with
  | zero => intro _; rfl
  | succ n ih =>
    intro h
    rw [og, og, ih (fun c c1 c2 c3 => h c c1 (by omega) c3)]
    by_cases c : 1 ≤ n ∧ u n = p
    · rw [if_pos c, if_pos c, h n c.1 (by omega) c.2]
    · rw [if_neg c, if_neg c]
theorem ordV_cg (h : ∀ c, 1 ≤ c → c < N → u c = p → f c = g c) : ordV u f N p = ordV u g N p := by
  unfold ordV
  rw [og_cg N h]
/-- none, or so many that have the greatest -/
theorem og_f : ∀ n, n ≤ 12 → (∀ c, 1 ≤ c → c < n → u c = p → 1 ≤ (f c).toInt ∧ (f c).toInt ≤ 12) → (og u f p n = (0, 0) ∧ ∀ c, 1 ≤ c → c < n → u c ≠ p) ∨ (1 ≤ (og u f p n).1.toInt ∧ (og u f p n).1.toInt ≤ n ∧ ∃ c, 1 ≤ c ∧ c < n ∧ u c = p ∧ (og u f p n).2 = f c) := by
  have e1 : (1 : Int32).toInt = 1 := by decide
  have e0 : (0 : Int32).toInt = 0 := by decide
  intro n
  induction n with
  | zero => intro _ _; exact Or.inl ⟨rfl, fun c _ c2 => absurd c2 (by omega)⟩
  | succ n ih =>
    intro hn h
    have I := ih (by omega) (fun c c1 c2 c3 => h c c1 (by omega) c3)
    by_cases c : 1 ≤ n ∧ u n = p
    · have b := h n c.1 (by omega) c.2
      right
      by_cases d1 : (f n).toInt < (og u f p n).2.toInt
      · rw [og_lt c d1]
        rcases I with ⟨i1, -⟩ | ⟨i1, i2, k, k1, k2, k3, k4⟩
        · rw [i1] at d1
          have d1' : (f n).toInt < (0 : Int32).toInt := d1
          omega
        · exact ⟨i1, by omega, k, k1, by omega, k3, k4⟩
      · by_cases d2 : (f n).toInt = (og u f p n).2.toInt
        · rw [og_eq c d2]
          rcases I with ⟨i1, -⟩ | ⟨i1, i2, -⟩
          · rw [i1] at d2
            have d2' : (f n).toInt = (0 : Int32).toInt := d2
            omega
          · have e : ((og u f p n).1 + (1 : Int32)).toInt = (og u f p n).1.toInt + 1 := by rw [zb_add (by rw [e1]; omega) (by rw [e1]; omega), e1]
            exact ⟨by show 1 ≤ ((og u f p n).1 + (1 : Int32)).toInt; omega, by show ((og u f p n).1 + (1 : Int32)).toInt ≤ _; omega, n, c.1, by omega, c.2, rfl⟩
        · rw [og_gt c (by omega)]
          exact ⟨by show 1 ≤ (1 : Int32).toInt; omega, by show (1 : Int32).toInt ≤ _; omega, n, c.1, by omega, c.2, rfl⟩
    · rw [og_n c]
      rcases I with ⟨i1, i2⟩ | ⟨i1, i2, k, k1, k2, k3, k4⟩
      · refine Or.inl ⟨i1, fun k k1 k2 => ?_⟩
        by_cases e : k = n
        · rw [e]
          exact fun z => c ⟨by omega, z⟩
        · exact i2 k k1 (by omega)
      · exact Or.inr ⟨i1, by omega, k, k1, by omega, k3, k4⟩
theorem cnt_mono {P Q : Nat → Prop} : ∀ n, (∀ j, j < n → P j → Q j) → cnt P n ≤ cnt Q n := by
  intro n
  induction n with
  | zero => intro _; exact Nat.le_refl _
  | succ n ih =>
    intro h
    rw [cnt, cnt]
    have := ih (fun j hj => h j (by omega))
    by_cases c : P n
    · rw [if_pos c, if_pos (h n (by omega) c)]
      omega
    · rw [if_neg c]
      omega
theorem size_s (hT : zTr N u) {c : Nat} (h1 : 1 ≤ c) (h2 : c < N) : cnt (fun j => An u c j) N + 1 ≤ cnt (fun j => An u (u c) j) N := by
  have ul := hT.u_lt h1 h2
  have e : cnt (fun j => j = u c ∨ An u c j) N = cnt (fun j => j = u c) N + cnt (fun j => An u c j) N := cnt_or N (fun j _ ⟨z1, z2⟩ => hT.acyc h1 h2 (by rw [z1] at z2; exact z2))
  have m : cnt (fun j => j = u c ∨ An u c j) N ≤ cnt (fun j => An u (u c) j) N := cnt_mono N (fun j _ h => by
    rcases h with h | h
    · rw [h]; exact An_rf
    · exact An_tr ((An_s (by omega)).mpr (Or.inr An_rf)) h)
  rw [cnt_1, if_pos ul] at e
  omega
/-- the value, and what it lies within -/
theorem ordV_b (hT : zTr N u) (hN : N ≤ 12) (hp : p < N) (h : ∀ c, 1 ≤ c → c < N → u c = p → 1 ≤ (f c).toInt ∧ (f c).toInt ≤ cnt (fun j => An u c j) N) : (1 ≤ (ordV u f N p).toInt ∧ (ordV u f N p).toInt ≤ cnt (fun j => An u p j) N) ∧ ordV u f N p = (if (og u f p N).2.toInt = 0 then 1 else if 1 < (og u f p N).1.toInt then (og u f p N).2 + (1 : Int32) else (og u f p N).2) := by
  have e1 : (1 : Int32).toInt = 1 := by decide
  have e0 : (0 : Int32).toInt = 0 := by decide
  have sp : 0 < cnt (fun j => An u p j) N := cnt_p N (k := p) hp An_rf
  rcases og_f (u := u) (f := f) (p := p) N hN (fun c c1 c2 c3 => ⟨(h c c1 c2 c3).1, by have := (h c c1 c2 c3).2; have := cnt_le (P := fun j => An u c j) N; omega⟩) with ⟨i1, -⟩ | ⟨i1, i2, k, k1, k2, k3, k4⟩
  · have v : ordV u f N p = 1 := by
      unfold ordV
      rw [i1, if_neg (by show ¬ (0 : Int32).toInt = 1; omega)]
      show (0 : Int32) + 1 = 1
      decide
    rw [v, i1, e1]
    refine ⟨⟨by omega, by omega⟩, ?_⟩
    rw [if_pos (show (0 : Int32).toInt = 0 from e0)]
  · obtain ⟨b1, b2⟩ := h k k1 k2 k3
    have sk := size_s hT k1 k2
    rw [k3] at sk
    have le := cnt_le (P := fun j => An u p j) N
    have gs : ((og u f p N).2 + (1 : Int32)).toInt = (og u f p N).2.toInt + 1 := by rw [zb_add (by rw [k4, e1]; omega) (by rw [k4, e1]; omega), e1]
    unfold ordV
    rw [if_neg (show ¬ (og u f p N).2.toInt = 0 by rw [k4]; omega)]
    by_cases c : (og u f p N).1.toInt = 1
    · rw [if_pos c, if_neg (by omega), k4]
      exact ⟨⟨by omega, by omega⟩, rfl⟩
    · rw [if_neg c, if_pos (by omega), gs, k4]
      exact ⟨⟨by omega, by omega⟩, rfl⟩
end OG
section ORDC
variable {N sh co A1 A2 A3 A4 A5 A6 I : Nat} {u l : Nat → Nat} {FR : Nat → Int32} {s : zS}
theorem cOrd1 (g2 : (s.2.2 sh 2).getD 0 = A2) (g5 : (s.2.2 sh 5).getD 0 = A5) (gI : (s.2.2 co 0).getD 0 = I) (n5 : A5 ≠ sh ∧ A5 ≠ A2 ∧ A5 ≠ I) (h0 : (s.1 sh 0).toInt = N) (hN : N ≤ 12) (hu : ∀ c, 1 ≤ c → c < N → (s.1 I c).toInt = u c) {i : Nat} {x4 p2 : Int32} (hi : x4.toInt = i) (hl : (s.1 A2 i).toInt = l i) {k : Int32 → zS → Int32 × zS} {τ : zS} (g : zFr (fun c _ => c = A5) s τ) (hNi : i < N) : ∀ (n : Nat) (x : Int32) (j : Nat) (y z : Int32), x.toInt = j → 1 ≤ j → j ≤ 12 → 12 - j < n → (j ≤ N ∨ N = 0) → (y, z) = og u (τ.1 A5) (l i) j → F_X6_orderOf_20 x4 sh co p2 k n x y z τ = k (x4 + (-1 : Int32)) (zu τ.1 A5 (l i) (ordV u (τ.1 A5) N (l i)), τ.2.1, s.2.2) := by
  have e1 : (1 : Int32).toInt = 1 := by decide
  have r0 : τ.2.2 = s.2.2 := g.rf
  have t0 : τ.1 sh 0 = s.1 sh 0 := g.2 _ _ (fun z => n5.1 z.symm)
  have t2 : ∀ c, τ.1 A2 c = s.1 A2 c := fun c => g.2 _ _ (fun z => n5.2.1 z.symm)
  have tI : ∀ c, τ.1 I c = s.1 I c := fun c => g.2 _ _ (fun z => n5.2.2 z.symm)
  have ni : x4.toNatClampNeg = i := by rw [ztn, hi]; rfl
  have nl : (s.1 A2 i).toNatClampNeg = l i := by rw [ztn, hl]; rfl
  intro n
  induction n with
  | zero => intro x j y z _ _ _ h; exact absurd h (by omega)
  | succ n ih =>
    intro x j y z hx h1 hj hm hjN hyz
    have nx : x.toNatClampNeg = j := by rw [ztn, hx]; rfl
    obtain ⟨hy, hz⟩ : y = (og u (τ.1 A5) (l i) j).1 ∧ z = (og u (τ.1 A5) (l i) j).2 := ⟨congrArg Prod.fst hyz, congrArg Prod.snd hyz⟩
    rw [F_X6_orderOf_20]
    simp only [zlt, r0, g2, g5, gI, t0, t2, tI, nx, ni, nl, e1]
    by_cases c : j < N
    · rw [if_pos (by omega)]
      have x1 : (x + (1 : Int32)).toInt = (j + 1 : Nat) := zp1 hx (by omega)
      have uj := hu j h1 c
      by_cases cu : u j = l i
      · rw [if_pos (by omega)]
        by_cases d1 : (τ.1 A5 j).toInt < z.toInt
        · rw [if_pos d1]
          exact ih _ (j + 1) y z x1 (by omega) (by omega) (by omega) (by omega) (by rw [og_lt ⟨h1, cu⟩ (by rw [← hz]; exact d1)]; exact hyz)
        · rw [if_neg d1]
          by_cases d2 : (τ.1 A5 j).toInt = z.toInt
          · rw [if_pos d2]
            exact ih _ (j + 1) (y + (1 : Int32)) (τ.1 A5 j) x1 (by omega) (by omega) (by omega) (by omega) (by rw [og_eq ⟨h1, cu⟩ (by rw [← hz]; exact d2), hy])
          · rw [if_neg d2]
            exact ih _ (j + 1) _ _ x1 (by omega) (by omega) (by omega) (by omega) (by rw [og_gt ⟨h1, cu⟩ (by rw [← hz]; omega)])
      · rw [if_neg (by omega)]
        exact ih _ (j + 1) y z x1 (by omega) (by omega) (by omega) (by omega) (by rw [og_n (fun w => cu w.2)]; exact hyz)
    · rw [if_neg (by omega)]
      have ej : j = N := by omega
      rw [ej] at hy hz
      unfold ordV
      rw [← hy, ← hz]
      by_cases d : y.toInt = 1
      · rw [if_pos d, if_pos d]
      · rw [if_neg d, if_neg d]
theorem cOrd2 (hT : zTr N u) (g2 : (s.2.2 sh 2).getD 0 = A2) (g5 : (s.2.2 sh 5).getD 0 = A5) (gI : (s.2.2 co 0).getD 0 = I) (n5 : A5 ≠ sh ∧ A5 ≠ A2 ∧ A5 ≠ I) (h0 : (s.1 sh 0).toInt = N) (hN : N ≤ 12) (hu : ∀ c, 1 ≤ c → c < N → (s.1 I c).toInt = u c) (E : zLnE N u A2 A3 A6 FR l s) {p2 : Int32} {p : Nat} (hp : p2.toInt = p) (hpN : p < N) : ∀ (n : Nat) (x : Int32) (i : Nat) (τ : zS), x.toInt = (i : Int) - 1 → i ≤ N → i < n → zFr (fun c _ => c = A5) s τ → (∀ k, i ≤ k → k < N → τ.1 A5 (l k) = ordV u (τ.1 A5) N (l k) ∧ 1 ≤ (τ.1 A5 (l k)).toInt ∧ (τ.1 A5 (l k)).toInt ≤ cnt (fun j => An u (l k) j) N) → ∃ τ', F_X6_orderOf_7 sh co p2 n x τ = (τ'.1 A5 p, τ') ∧ ∀ q, q < N → τ'.1 A5 q = ordV u (τ'.1 A5) N q ∧ 1 ≤ (τ'.1 A5 q).toInt ∧ (τ'.1 A5 q).toInt ≤ cnt (fun j => An u q j) N := by
  have em : (-1 : Int32).toInt = -1 := by decide
  have e1 : (1 : Int32).toInt = 1 := by decide
  obtain ⟨la, -, -, inj, ord, all⟩ := id E
  intro n
  induction n with
  | zero => intro x i τ _ _ h; exact absurd h (by omega)
  | succ n ih =>
    intro x i τ hx hi hm g h
    have r0 : τ.2.2 = s.2.2 := g.rf
    have np : p2.toNatClampNeg = p := by rw [ztn, hp]; rfl
    rw [F_X6_orderOf_7]
    simp only [zlt, r0, g5, np]
    by_cases c : i = 0
    · rw [if_pos (by omega)]
      refine ⟨τ, rfl, fun q hq => ?_⟩
      obtain ⟨k, k1, k2⟩ := all q hq
      rw [← k2]
      exact h k (by omega) k1
    · rw [if_neg (by omega)]
      have hi' : x.toInt = (i - 1 : Nat) := by omega
      have il : i - 1 < N := by omega
      rw [cOrd1 (l := l) g2 g5 gI n5 h0 hN hu hi' (la (i - 1) il).1 g il 10000 1 1 0 0 e1 (by omega) (by omega) (by omega) (by omega) rfl]
      -- those that run into one in line stand behind it
      have beh : ∀ k c, k < N → 1 ≤ c → c < N → u c = l k → ∃ k', k < k' ∧ k' < N ∧ l k' = c := fun k c k1 c1 c2 hc => by
        obtain ⟨k', w1, w2⟩ := all c c2
        by_cases z : k' = 0
        · have z0 := E.z (by omega)
          rw [z, z0] at w2
          omega
        · obtain ⟨-, j', v1, v2⟩ := ord k' (by omega) w1
          rw [w2, hc] at v2
          have := inj j' k (by omega) k1 v2
          exact ⟨k', by omega, w1, w2⟩
      have sl : ∀ c, c ≠ l (i - 1) → zu τ.1 A5 (l (i - 1)) (ordV u (τ.1 A5) N (l (i - 1))) A5 c = τ.1 A5 c := fun c hc => zu_j _ _ _ _ _ (fun z => hc z.symm)
      have nch : ∀ k, i - 1 ≤ k → k < N → ∀ c, 1 ≤ c → c < N → u c = l k → c ≠ l (i - 1) := fun k k1 k2 c c1 c2 hc e => by
        obtain ⟨k', w1, w2, w3⟩ := beh k c k2 c1 c2 hc
        have := inj k' (i - 1) w2 il (w3.trans e)
        omega
      refine ih (x + (-1 : Int32)) (i - 1) (zu τ.1 A5 (l (i - 1)) (ordV u (τ.1 A5) N (l (i - 1))), τ.2.1, s.2.2) (by rw [zb_add (by rw [em]; omega) (by rw [em]; omega), em]; omega) (by omega) (by omega) (by rw [← r0]; exact g.w rfl) (fun k k1 k2 => ?_)
      show zu τ.1 A5 (l (i - 1)) _ A5 (l k) = ordV u (zu τ.1 A5 (l (i - 1)) _ A5) N (l k) ∧ 1 ≤ (zu τ.1 A5 (l (i - 1)) _ A5 (l k)).toInt ∧ (zu τ.1 A5 (l (i - 1)) _ A5 (l k)).toInt ≤ _
      rw [ordV_cg (g := τ.1 A5) (fun c c1 c2 c3 => sl c (nch k k1 k2 c c1 c2 c3))]
      by_cases ek : k = i - 1
      · rw [ek, zu_s]
        have B := (ordV_b hT hN (la (i - 1) il).2 (f := τ.1 A5) (fun c c1 c2 c3 => by
          obtain ⟨k', w1, w2, w3⟩ := beh (i - 1) c il c1 c2 c3
          have := h k' (by omega) w2
          rw [w3] at this
          exact this.2)).1
        exact ⟨rfl, B⟩
      · have ne : l k ≠ l (i - 1) := fun z => ek (inj k (i - 1) k2 il z)
        rw [sl _ ne]
        exact h k (by omega) k2
end ORDC
section ORDM
variable {L : List Nat} {kd : Nat → Nat} {m0 N : Nat} {u : Nat → Nat} {FR SR : Nat → Int32} {σ t : zS} {κ : Int} {O : Nat → Int32}
theorem mOrdAt (hJ : zJ κ L kd σ) (hm : zT L kd m0 11) (h : zShM N u FR SR m0 σ t) (hM : zM m0 σ = N) (hN : N ≤ 12) (hu : ∀ c, 1 ≤ c → c < N → (σ.1 (mR σ m0 48) c).toInt = u c) {τ : zS} (g : zFr (fun c _ => c = mR σ m0 60) t τ) {x4 : Int32} {p : Nat} (hp : x4.toInt = p) : ∀ (n : Nat) (x : Int32) (j : Nat) (y z : Int32), x.toInt = j → 1 ≤ j → j ≤ 12 → 12 - j < n → (j ≤ N ∨ N = 0) → (y, z) = og u (τ.1 (mR σ m0 60)) p j → 0 < N → F_X11_orderAt_7 m0 x4 τ n x y z = (if (og u (τ.1 (mR σ m0 60)) p N).2.toInt = 0 then 1 else if 1 < (og u (τ.1 (mR σ m0 60)) p N).1.toInt then (og u (τ.1 (mR σ m0 60)) p N).2 + (1 : Int32) else (og u (τ.1 (mR σ m0 60)) p N).2) := by
  have e1 : (1 : Int32).toInt = 1 := by decide
  have r0 : τ.2.2 = t.2.2 := g.rf
  have rr : ∀ x, (τ.2.2 m0 x).getD 0 = mR σ m0 x := fun x => by rw [r0]; exact h.r x
  have ne : ∀ {x : Nat}, zf 0 11 x = some (100 + x) → x ≠ 60 → ∀ c, τ.1 (mR σ m0 x) c = t.1 (mR σ m0 x) c := fun {x} h1 h2 c => g.2 _ _ (mR_ne hJ hm h1 (s' := 60) (k' := 160) (by rfl) (by omega))
  have many : (F_X11_many m0 τ).toInt = N := by
    rw [← h.many hJ hm hM]
    unfold F_X11_many
    simp only [zlt]
    rw [r0, h.r 21, ne (x := 21) (by rfl) (by decide), g.2 m0 18 (fun z => mR_m hJ hm (s := 60) (k := 160) (by rfl) (by decide) z.symm)]
  intro n
  induction n with
  | zero => intro x j y z _ _ _ h; exact absurd h (by omega)
  | succ n ih =>
    intro x j y z hx h1 hj hm' hjN hyz hN0
    have nx : x.toNatClampNeg = j := by rw [ztn, hx]; rfl
    obtain ⟨hy, hz⟩ : y = (og u (τ.1 (mR σ m0 60)) p j).1 ∧ z = (og u (τ.1 (mR σ m0 60)) p j).2 := ⟨congrArg Prod.fst hyz, congrArg Prod.snd hyz⟩
    rw [F_X11_orderAt_7]
    simp only [zlt, rr, nx, e1]
    by_cases c : j < N
    · rw [if_pos (by omega)]
      have x1 : (x + (1 : Int32)).toInt = (j + 1 : Nat) := zp1 hx (by omega)
      have uj : (τ.1 (mR σ m0 49) j).toInt = u j := by rw [ne (x := 49) (by rfl) (by decide), h.2.2.2.1 j (by omega)]; exact hu j h1 c
      by_cases cu : u j = p
      · rw [if_pos (by omega)]
        by_cases d1 : (τ.1 (mR σ m0 60) j).toInt < z.toInt
        · rw [if_pos d1]
          exact ih _ (j + 1) y z x1 (by omega) (by omega) (by omega) (by omega) (by rw [og_lt ⟨h1, cu⟩ (by rw [← hz]; exact d1)]; exact hyz) hN0
        · rw [if_neg d1]
          by_cases d2 : z.toInt < (τ.1 (mR σ m0 60) j).toInt
          · rw [if_pos d2]
            exact ih _ (j + 1) _ _ x1 (by omega) (by omega) (by omega) (by omega) (by rw [og_gt ⟨h1, cu⟩ (by rw [← hz]; exact d2)]) hN0
          · rw [if_neg d2]
            exact ih _ (j + 1) _ _ x1 (by omega) (by omega) (by omega) (by omega) (by rw [og_eq ⟨h1, cu⟩ (by rw [← hz]; omega), hy]) hN0
      · rw [if_neg (by omega)]
        exact ih _ (j + 1) y z x1 (by omega) (by omega) (by omega) (by omega) (by rw [og_n (fun w => cu w.2)]; exact hyz) hN0
    · rw [if_neg (by omega)]
      have ej : j = N := by omega
      rw [ej] at hy hz
      rw [← hy, ← hz]
theorem mOrd1 (hJ : zJ κ L kd σ) (hm : zT L kd m0 11) (h : zShM N u FR SR m0 σ t) (hM : zM m0 σ = N) (hN : N ≤ 12) (hT : zTr N u) (hu : ∀ c, 1 ≤ c → c < N → (σ.1 (mR σ m0 48) c).toInt = u c) (hS : ∀ c, c < N → (SR c).toInt + 1 = dep N u c) (hO : ∀ q, q < N → O q = ordV u O N q ∧ 1 ≤ (O q).toInt ∧ (O q).toInt ≤ cnt (fun j => An u q j) N) {x7 p1 : Int32} {lv : Nat} (h7 : x7.toInt = lv) {k : Int32 → zS → Int32 × zS} : ∀ (n : Nat) (x : Int32) (j : Nat) (τ : zS), x.toInt = j → j ≤ N → N - j < n → zFr (fun c _ => c = mR σ m0 60) t τ → (∀ q, q < N → (lv + 1 < dep N u q ∨ (lv + 1 = dep N u q ∧ q < j)) → τ.1 (mR σ m0 60) q = O q) → ∃ τ', F_X11_order_23 x7 m0 p1 k n x τ = k (x7 + (-1 : Int32)) τ' ∧ zFr (fun c _ => c = mR σ m0 60) t τ' ∧ ∀ q, q < N → lv + 1 ≤ dep N u q → τ'.1 (mR σ m0 60) q = O q := by
  have e1 : (1 : Int32).toInt = 1 := by decide
  intro n
  induction n with
  | zero => intro x j τ _ _ h; exact absurd h (by omega)
  | succ n ih =>
    intro x j τ hx hj hmn g hq
    have r0 : τ.2.2 = t.2.2 := g.rf
    have rr : ∀ x, (τ.2.2 m0 x).getD 0 = mR σ m0 x := fun x => by rw [r0]; exact h.r x
    have ne : ∀ {x : Nat}, zf 0 11 x = some (100 + x) → x ≠ 60 → ∀ c, τ.1 (mR σ m0 x) c = t.1 (mR σ m0 x) c := fun {x} h1 h2 c => g.2 _ _ (mR_ne hJ hm h1 (s' := 60) (k' := 160) (by rfl) (by omega))
    have many : (F_X11_many m0 τ).toInt = N := by
      rw [← h.many hJ hm hM]
      unfold F_X11_many
      simp only [zlt]
      rw [r0, h.r 21, ne (x := 21) (by rfl) (by decide), g.2 m0 18 (fun z => mR_m hJ hm (s := 60) (k := 160) (by rfl) (by decide) z.symm)]
    have nx : x.toNatClampNeg = j := by rw [ztn, hx]; rfl
    rw [F_X11_order_23]
    simp only [zlt, rr, nx]
    by_cases c : j < N
    · rw [if_pos (by omega)]
      have x1 : (x + (1 : Int32)).toInt = (j + 1 : Nat) := zp1 hx (by omega)
      have st : (τ.1 (mR σ m0 53) j).toInt + 1 = dep N u j := by rw [ne (x := 53) (by rfl) (by decide), (h.2.2.1 j c).2]; exact hS j c
      by_cases cd : dep N u j = lv + 1
      · rw [if_pos (by omega)]
        have ch : ∀ c, 1 ≤ c → c < N → u c = j → τ.1 (mR σ m0 60) c = O c := fun c c1 c2 c3 => hq c c2 (Or.inl (by
          have := dep_s hT c1 c2
          rw [c3] at this
          omega))
        have v : F_X11_orderAt m0 x τ = O j := by
          unfold F_X11_orderAt
          simp only [zlt]
          rw [mOrdAt hJ hm h hM hN hu g hx 10000 1 1 0 0 e1 (by omega) (by omega) (by omega) (by omega) rfl (by omega), og_cg N ch, (hO j c).1]
          exact (ordV_b hT hN c (f := O) (fun c c1 c2 _ => (hO c c2).2)).2.symm
        rw [v]
        refine ih (x + (1 : Int32)) (j + 1) _ x1 (by omega) (by omega) (g.w rfl) (fun q q1 q2 => ?_)
        show zu τ.1 (mR σ m0 60) j (O j) (mR σ m0 60) q = O q
        by_cases e : q = j
        · rw [e, zu_s]
        · rw [zu_j _ _ _ _ _ (fun z => e z.symm)]
          exact hq q q1 (by omega)
      · rw [if_neg (by omega)]
        refine ih (x + (1 : Int32)) (j + 1) τ x1 (by omega) (by omega) g (fun q q1 q2 => hq q q1 ?_)
        rcases q2 with q2 | ⟨q2, q3⟩
        · exact Or.inl q2
        · by_cases e : q = j
          · rw [e] at q2; omega
          · exact Or.inr ⟨q2, by omega⟩
    · rw [if_neg (by omega)]
      exact ⟨τ, rfl, g, fun q q1 q2 => hq q q1 (by omega)⟩
theorem mOrd2 (hJ : zJ κ L kd σ) (hm : zT L kd m0 11) (h : zShM N u FR SR m0 σ t) (hM : zM m0 σ = N) (hN : N ≤ 12) (hT : zTr N u) (hu : ∀ c, 1 ≤ c → c < N → (σ.1 (mR σ m0 48) c).toInt = u c) (hS : ∀ c, c < N → (SR c).toInt + 1 = dep N u c) (hO : ∀ q, q < N → O q = ordV u O N q ∧ 1 ≤ (O q).toInt ∧ (O q).toInt ≤ cnt (fun j => An u q j) N) {p1 : Int32} {p : Nat} (hp : p1.toInt = p) (hpN : p < N) : ∀ (n : Nat) (x : Int32) (i : Nat) (τ : zS), x.toInt = (i : Int) - 1 → i ≤ 12 → i < n → zFr (fun c _ => c = mR σ m0 60) t τ → (∀ q, q < N → i + 1 ≤ dep N u q → τ.1 (mR σ m0 60) q = O q) → (F_X11_order_17 m0 p1 n x τ).1 = O p := by
  have em : (-1 : Int32).toInt = -1 := by decide
  have e0 : (0 : Int32).toInt = (0 : Nat) := by decide
  intro n
  induction n with
  | zero => intro x i τ _ _ h; exact absurd h (by omega)
  | succ n ih =>
    intro x i τ hx hi hmn g hq
    have np : p1.toNatClampNeg = p := by rw [ztn, hp]; rfl
    have rr : ∀ x, (τ.2.2 m0 x).getD 0 = mR σ m0 x := fun x => by rw [g.rf]; exact h.r x
    rw [F_X11_order_17]
    simp only [zlt, rr, np]
    by_cases c : i = 0
    · rw [if_pos (by omega)]
      exact hq p hpN (by have := (dep_b hT p hpN).1; omega)
    · rw [if_neg (by omega)]
      have h7 : x.toInt = (i - 1 : Nat) := by omega
      obtain ⟨τ', q1, q2, q3⟩ := mOrd1 hJ hm h hM hN hT hu hS hO (p1 := p1) h7 (k := F_X11_order_17 m0 p1 n) 10000 0 0 τ e0 (by omega) (by omega) g (fun q w1 w2 => hq q w1 (by omega))
      rw [q1]
      exact ih (x + (-1 : Int32)) (i - 1) τ' (by rw [zb_add (by rw [em]; omega) (by rw [em]; omega), em]; omega) (by omega) (by omega) q2 (fun q w1 w2 => q3 q w1 (by omega))
end ORDM
section ORDB
variable {κ : Int} {L1 : List Nat} {kd1 : Nat → Nat} {L2 : List Nat} {kd2 : Nat → Nat} {σ1 σ2 τ1 τ2 : zS} {m0 x0 : Nat} {Q : Nat → zCo → (Nat → Int32) → Prop} {V : zWh} {ps pc sl rv sh cd : Nat} {v1 v2 p q r : Int32}
theorem sr_d {N : Nat} {u : Nat → Nat} {SR : Nat → Int32} (hT : zTr N u) (hN : N ≤ 12) (S0 : SR 0 = 0) (hS : ∀ c, 1 ≤ c → c < N → SR c = SR (u c) + (1 : Int32)) : ∀ c, c < N → (SR c).toInt + 1 = dep N u c := by
  have e0 : (0 : Int32).toInt = 0 := by decide
  have e1 : (1 : Int32).toInt = 1 := by decide
  by_cases hz : 0 < N
  · refine hT.ind _ (by rw [S0, e0, dep_0 hz]; omega) (fun c h1 h2 ih => ?_)
    have d := dep_s hT h1 h2
    have b := (dep_b hT c h2).2
    rw [hS c h1 h2, zb_add (by rw [e1]; omega) (by rw [e1]; omega), e1]
    omega
  · intro c hc
    omega
theorem zRL.order (hG : zGd Q) (h : zRL Q L1 kd1 x0 m0 V ps pc sl rv sh cd σ1 σ2) (hl : zLen x0 m0 σ1 σ2) (hx : zT L1 kd1 x0 10) (hI : zI κ 0 L1 kd1 σ1) (hJ : zJ κ L2 kd2 σ2) (hm : zT L2 kd2 m0 11) (hg : gN m0 σ2) (f1 : (v1, τ1) = F_X10_order x0 p σ1) (f2 : (v2, τ2) = F_X11_order m0 p σ2) : v1.toInt = v2.toInt := by
  obtain ⟨N, M, u, FR, SR, ℓ, l, A1, A2, A3, A4, A6, s, t, hs, ht, ⟨⟨n1, n2, n3, n4⟩, ⟨F0, S0, hF, hS, hℓ⟩, hb, ⟨C1, C2, -⟩, hM⟩, ⟨g0, g1, g2, g3, g4, g6⟩, hP, hMN⟩ := h.lk2 hG hl hx hI hJ hm hg
  have hL := h.1
  have hV := h.2.1
  have e0 : (0 : Int32).toInt = 0 := by decide
  have e1 : (1 : Int32).toInt = 1 := by decide
  have k1 := zN1 n3 n1
  have k2 := zN1 (x := F_X11_many m0 σ2) (mMany.trans n2) n1
  obtain ⟨⟨tA, tI, tW, tM⟩, -⟩ := hL.2.2.2.1 0 (by decide)
  have ns : sh ≠ rv := zNk hV.2.1.2.2.1 hV.2.1.2.1 (by decide)
  have nx : x0 ≠ rv := zNk hx hV.2.1.2.1 (by decide)
  have nA : V.1 0 ≠ rv := zNk tA hV.2.1.2.1 (by decide)
  have t5 := hV.2.2.2.2.1 5 (by omega) (by omega)
  have t2' := hV.2.2.2.2.1 2 (by omega) (by omega)
  have g5 : (s.2.2 sh 5).getD 0 = (σ1.2.2 sh 5).getD 0 := by rw [C1 sh 5 (fun z => ns z.1)]
  have g2' : (σ1.2.2 sh 2).getD 0 = A2 := by rw [← g2, C1 sh 2 (fun z => ns z.1)]
  rw [g2'] at t2'
  have g6x : (s.2.2 x0 6).getD 0 = V.1 0 := by rw [C1 x0 6 (fun z => nx z.1), hL.1.1]; rfl
  have gI : (s.2.2 (V.1 0) 0).getD 0 = V.2.1 0 := by rw [C1 (V.1 0) 0 (fun z => nA z.1)]; exact (hL.gA (k := 0) (by decide)).1
  obtain ⟨hN', r1, er⟩ := h.rows hG hg n2 n1
  have uI : ∀ c, 1 ≤ c → c < N → (s.1 (V.2.1 0) c).toInt = u c := fun c c1 c2 => by
    rw [C2 (V.2.1 0) c (by unfold zKs; rw [tI.2]; omega), er c c1 c2]
    exact (hb c c1 c2).2
  unfold F_X10_order at f1
  unfold F_X11_order at f2
  simp only [zlt, zlt2, cPlace, mPlc, cWithin, mIn, e0, k1, k2] at f1 f2
  by_cases cp : 0 ≤ p.toInt ∧ p.toInt ≤ (N : Int) - 1
  · rw [if_neg (fun z => z cp)] at f1 f2
    obtain ⟨a, ha⟩ : ∃ a : Nat, p.toInt = a := ⟨p.toInt.toNat, by omega⟩
    obtain ⟨τ', q1, q2⟩ := cOrd2 (p2 := p) n4 g2 g5 gI ⟨zNk t5 hV.2.1.2.2.1 (by decide), zNk t5 t2' (by decide), zNk t5 tI (by decide)⟩ hP.1 n1 uI hP.2.1 ha (by omega) 10000 (s.1 sh 0 - (1 : Int32)) N s (zN1 hP.1 n1) (Nat.le_refl _) (by omega) zFr.id (fun k k1 k2 => by omega)
    have m := mOrd2 hJ hm hM n2 n1 n4 (fun c c1 c2 => (hb c c1 c2).2) (sr_d n4 n1 S0 hS) q2 ha (by omega) 10000 11 12 t (by decide) (by omega) (by omega) zFr.id (fun q w1 w2 => by have := (dep_b n4 q w1).2; omega)
    have eC : F_X6_orderOf sh (V.1 0) p s = (τ'.1 ((σ1.2.2 sh 5).getD 0) a, τ') := by
      unfold F_X6_orderOf
      simp only [zlt]
      exact q1
    rw [← hs, g0, g6x, eC] at f1
    rw [← ht] at f2
    rw [(zPr2 f1).1, show v2 = (F_X11_order_17 m0 p 10000 11 t).1 from congrArg Prod.fst f2, m]
  · rw [if_pos cp] at f1 f2
    rw [(zPr2 f1).1, (zPr2 f2).1]
end ORDB
end
-- 35x63.sh11
section
/-! BITS COUNTED; DEPTH -/
def pcr (n : Nat) : Nat → Nat
  | 0 => 0
  | k + 1 => pcr n k + (n.testBit k).toNat
def bc (x : Int32) : Int32 :=
  let v5 := x - ((x.toUInt32 >>> ((1 : Int32).toUInt32 &&& Int32.toUInt32 31)).toInt32 &&& 1431655765)
  let v12 := (v5 &&& 858993459) + ((v5.toUInt32 >>> ((2 : Int32).toUInt32 &&& Int32.toUInt32 31)).toInt32 &&& 858993459)
  let v17 := (v12 + (v12.toUInt32 >>> ((4 : Int32).toUInt32 &&& Int32.toUInt32 31)).toInt32) &&& 252645135
  let v20 := v17 + (v17.toUInt32 >>> ((8 : Int32).toUInt32 &&& Int32.toUInt32 31)).toInt32
  (v20 + (v20.toUInt32 >>> ((16 : Int32).toUInt32 &&& Int32.toUInt32 31)).toInt32) &&& 63
theorem bc_all : ∀ a b : Fin 64, bc (Int32.ofNat (64 * a.val + b.val)) = Int32.ofNat (pcr (64 * a.val + b.val) 12) := by decide +kernel
theorem bc_e (x : Int32) : F_J6_bitCount_0f7a4 x = bc x := by
  unfold F_J6_bitCount_0f7a4 bc
  simp only [zlt]
theorem pcr_c {x : Int32} {n : Nat} (h : ∀ j, j < 32 → n.testBit j = bt x j) : ∀ k, k ≤ 32 → pcr n k = cnt (fun j => bt x j = true) k := by
  intro k
  induction k with
  | zero => intro _; rfl
  | succ k ih =>
    intro hk
    rw [pcr, cnt, ih (by omega), h k (by omega)]
    cases hb : bt x k with
    | false =>
      rw [if_neg (by decide)]
      rfl
    | true =>
      rw [if_pos rfl]
      rfl
theorem cnt_ext {P : Nat → Prop} {N : Nat} : ∀ M, N ≤ M → (∀ j, N ≤ j → j < M → ¬ P j) → cnt P M = cnt P N := by
  intro M
  induction M with
  | zero => intro h _; rw [show N = 0 by omega]
  | succ M ih =>
    intro h hp
    by_cases c : N = M + 1
    · rw [c]
    · rw [cnt, ih (by omega) (fun j j1 j2 => hp j j1 (by omega)), if_neg (hp M (by omega) (by omega))]
      rfl
/-- the class' count of twelve bits -/
theorem bitC {x : Int32} (h : ∀ j, 12 ≤ j → j < 32 → bt x j = false) : (F_J6_bitCount_0f7a4 x).toInt = cnt (fun j => bt x j = true) 12 := by
  obtain ⟨n, n1, n2, n3, n4⟩ := i12 h
  have q := bc_all ⟨n / 64, by omega⟩ ⟨n % 64, by omega⟩
  have e : 64 * (n / 64) + n % 64 = n := by omega
  rw [show (64 * (⟨n / 64, by omega⟩ : Fin 64).val + (⟨n % 64, by omega⟩ : Fin 64).val) = n from e] at q
  have c := pcr_c n4 12 (by decide)
  have le := cnt_le (P := fun j => bt x j = true) 12
  rw [bc_e, n3, q, ← n3, c]
  exact Int32.toInt_ofNat_of_lt (by omega)
/-- the reference's -/
theorem bitM {x : Int32} : (F_X11_bits x).toInt = cnt (fun j => bt x j = true) 12 := by
  have e12 : (12 : Int32).toInt = 12 := by decide
  have e0 : (0 : Int32).toInt = 0 := by decide
  have key : ∀ (n : Nat) (x3 : Int32) (i : Nat) (y : Int32), x3.toInt = i → i ≤ 12 → 12 - i < n → y.toInt = cnt (fun j => bt x j = true) i → (F_X11_bits_4 x n x3 y).toInt = cnt (fun j => bt x j = true) 12 := by
    intro n
    induction n with
    | zero => intro x3 i y _ _ h; exact absurd h (by omega)
    | succ n ih =>
      intro x3 i y hx hi hm hy
      rw [F_X11_bits_4]
      simp only [zlt, e12]
      by_cases c : i < 12
      · rw [if_pos (by omega)]
        have cut := bt_cut (x := x) hx (by omega)
        have le := cnt_le (P := fun j => bt x j = true) i
        have v : ((x >>> (x3 &&& 31)) &&& (1 : Int32)).toInt = if bt x i = true then 1 else 0 := by
          by_cases b : bt x i = true
          · rw [if_pos b]; exact cut.2.mpr b
          · rw [if_neg b]; exact cut.1.mpr b
        have v2 : 0 ≤ ((x >>> (x3 &&& 31)) &&& (1 : Int32)).toInt ∧ ((x >>> (x3 &&& 31)) &&& (1 : Int32)).toInt ≤ 1 := by rw [v]; split <;> omega
        refine ih _ (i + 1) _ (zp1 hx (by omega)) (by omega) (by omega) ?_
        rw [zb_add (by omega) (by omega), hy, v, cnt]
        by_cases b : bt x i = true
        · rw [if_pos b, if_pos b]; omega
        · rw [if_neg b, if_neg b]; omega
      · rw [if_neg (by omega)]
        have : i = 12 := by omega
        rw [hy, this]
  unfold F_X11_bits
  simp only [zlt]
  exact key 10000 0 0 0 e0 (by omega) (by omega) e0
theorem child {N : Nat} {u : Nat → Nat} (hT : zTr N u) {p : Nat} : ∀ j, j < N → An u p j → j ≠ p → ∃ c, 1 ≤ c ∧ c < N ∧ u c = p := by
  refine hT.ind _ (fun h n => absurd (An_0.mp h).symm n) (fun c h1 h2 ih h n => ?_)
  rcases (An_s (by omega)).mp h with e | e
  · exact absurd e.symm n
  · by_cases w : u c = p
    · exact ⟨c, h1, h2, w⟩
    · exact ih e w
section DEEP
variable {N sh A1 A2 A3 A4 A6 : Nat} {u l : Nat → Nat} {ℓ FR : Nat → Int32} {s : zS}
theorem cDeep (hP : zShp N u ℓ FR sh A1 A2 A3 A4 A6 l s) (hT : zTr N u) (g6 : (s.2.2 sh 6).getD 0 = A6) (hN : N ≤ 12) : ∀ (n : Nat) (x : Int32) (i : Nat) (y : Int32), x.toInt = i → 1 ≤ i → i ≤ 12 → 12 - i < n → 0 ≤ y.toInt → y.toInt ≤ 12 → (y.toInt = 0 ∨ ∃ p, 1 ≤ p ∧ p < N ∧ y.toInt = dep N u p) → (∀ p, 1 ≤ p → p < i → p < N → (dep N u p : Int) ≤ y.toInt) → ∃ z, F_X6_deepest_4 sh n x y s = (z, s) ∧ 0 ≤ z.toInt ∧ (z.toInt = 0 ∨ ∃ p, 1 ≤ p ∧ p < N ∧ z.toInt = dep N u p) ∧ ∀ p, 1 ≤ p → p < N → (dep N u p : Int) ≤ z.toInt := by
  have h0 := hP.1
  intro n
  induction n with
  | zero => intro x i y _ _ _ h; exact absurd h (by omega)
  | succ n ih =>
    intro x i y hx h1 hi hm y0 y12 hy hmax
    have nx : x.toNatClampNeg = i := by rw [ztn, hx]; rfl
    rw [F_X6_deepest_4]
    simp only [zlt, g6, nx]
    by_cases c : i < N
    · rw [if_pos (by omega)]
      have bits := hP.2.1.2.2.1 i c
      have big : ∀ j, 12 ≤ j → j < 32 → bt (s.1 A6 i) j = false := fun j j1 j2 => by
        cases hc : bt (s.1 A6 i) j with
        | false => rfl
        | true => have := hT.lt (by omega) i c j ((bits j j2).mp hc); omega
      have d : (F_J6_bitCount_0f7a4 (s.1 A6 i)).toInt = dep N u i := by
        rw [bitC big, cnt_cg (Q := fun j => An u j i) 12 (fun j hj => bits j (by omega)), cnt_ext (N := N) 12 hN (fun j j1 j2 h => by have := hT.lt (by omega) i c j h; omega)]
        rfl
      have db := dep_b hT i c
      have x1 : (x + (1 : Int32)).toInt = (i + 1 : Nat) := zp1 hx (by omega)
      by_cases c2 : y.toInt ≤ (F_J6_bitCount_0f7a4 (s.1 A6 i)).toInt
      · rw [if_pos c2]
        refine ih _ (i + 1) _ x1 (by omega) (by omega) (by omega) (by omega) (by omega) (Or.inr ⟨i, h1, c, d⟩) (fun p p1 p2 p3 => ?_)
        by_cases e : p = i
        · rw [e]; omega
        · have := hmax p p1 (by omega) p3
          omega
      · rw [if_neg c2]
        refine ih _ (i + 1) y x1 (by omega) (by omega) (by omega) y0 y12 hy (fun p p1 p2 p3 => ?_)
        by_cases e : p = i
        · rw [e]; omega
        · exact hmax p p1 (by omega) p3
    · rw [if_neg (by omega)]
      exact ⟨y, rfl, y0, hy, fun p p1 p2 => hmax p p1 (by omega) p2⟩
end DEEP
section DEEPM
variable {L : List Nat} {kd : Nat → Nat} {m0 N : Nat} {u : Nat → Nat} {FR SR : Nat → Int32} {σ t : zS} {κ : Int}
theorem mDeep (h : zShM N u FR SR m0 σ t) (hJ : zJ κ L kd σ) (hm : zT L kd m0 11) (hM : zM m0 σ = N) (hN : N ≤ 12) (hT : zTr N u) (hS : ∀ c, c < N → (SR c).toInt + 1 = dep N u c) : ∀ (n : Nat) (x : Int32) (i : Nat) (y : Int32), x.toInt = i → 1 ≤ i → i ≤ 12 → 12 - i < n → 0 ≤ y.toInt → (y.toInt = 0 ∨ ∃ p, Src N u p ∧ y.toInt = dep N u p) → (∀ p, Src N u p → p < i → (dep N u p : Int) ≤ y.toInt) → ∃ z, F_X11_depth_8 m0 n x y t = (z, t) ∧ 0 ≤ z.toInt ∧ (z.toInt = 0 ∨ ∃ p, Src N u p ∧ z.toInt = dep N u p) ∧ ∀ p, Src N u p → (dep N u p : Int) ≤ z.toInt := by
  have h0 := h.many hJ hm hM
  have e1 : (1 : Int32).toInt = 1 := by decide
  intro n
  induction n with
  | zero => intro x i y _ _ _ h; exact absurd h (by omega)
  | succ n ih =>
    intro x i y hx h1 hi hm' y0 hy hmax
    have nx : x.toNatClampNeg = i := by rw [ztn, hx]; rfl
    rw [F_X11_depth_8]
    simp only [zlt, h.r 53, nx]
    by_cases c : i < N
    · rw [if_pos (by omega)]
      have x1 : (x + (1 : Int32)).toInt = (i + 1 : Nat) := zp1 hx (by omega)
      have l1 : 1 ≤ i + 1 := by clear hy; omega
      have l2 : i + 1 ≤ 12 := by clear hy; omega
      have l3 : 12 - (i + 1) < n := by clear hy; omega
      have q := mIsS h hJ hm hM hN (x := x)
      rw [hx, show ((i : Int)).toNat = i by omega] at q
      have sd := hS i c
      have db := dep_b hT i c
      have v : (t.1 (mR σ m0 53) i + (1 : Int32)).toInt = dep N u i := by rw [(h.2.2.1 i c).2, zb_add (by rw [e1]; omega) (by rw [e1]; omega), e1]; omega
      by_cases c2 : (F_X11_isSource m0 x t).toInt = 0
      · rw [if_pos c2]
        refine ih _ (i + 1) y x1 l1 l2 l3 y0 hy (fun p p1 p2 => ?_)
        by_cases e : p = i
        · rw [e] at p1
          exact absurd ⟨by omega, p1⟩ (q.mp c2)
        · exact hmax p p1 (by omega)
      · rw [if_neg c2]
        have hs : Src N u i := by
          apply Classical.byContradiction
          intro z
          exact c2 (q.mpr (fun w => z w.2))
        by_cases c3 : y.toInt < (t.1 (mR σ m0 53) i + (1 : Int32)).toInt
        · rw [if_pos c3]
          refine ih _ (i + 1) _ x1 l1 l2 l3 (by clear hy; omega) (Or.inr ⟨i, hs, v⟩) (fun p p1 p2 => ?_)
          by_cases e : p = i
          · rw [e]; omega
          · have := hmax p p1 (by omega)
            omega
        · rw [if_neg c3]
          refine ih _ (i + 1) y x1 l1 l2 l3 y0 hy (fun p p1 p2 => ?_)
          by_cases e : p = i
          · rw [e]; omega
          · exact hmax p p1 (by omega)
    · rw [if_neg (by omega)]
      exact ⟨y, rfl, y0, hy, fun p p1 => hmax p p1 (by have := p1.2.1; omega)⟩
end DEEPM
section DEEPB
variable {κ : Int} {L1 : List Nat} {kd1 : Nat → Nat} {L2 : List Nat} {kd2 : Nat → Nat} {σ1 σ2 τ1 τ2 : zS} {m0 x0 : Nat} {Q : Nat → zCo → (Nat → Int32) → Prop} {V : zWh} {ps pc sl rv sh cd : Nat} {v1 v2 p q r : Int32}
theorem zRL.depth (hG : zGd Q) (h : zRL Q L1 kd1 x0 m0 V ps pc sl rv sh cd σ1 σ2) (hl : zLen x0 m0 σ1 σ2) (hx : zT L1 kd1 x0 10) (hI : zI κ 0 L1 kd1 σ1) (hJ : zJ κ L2 kd2 σ2) (hm : zT L2 kd2 m0 11) (hg : gN m0 σ2) (f1 : (v1, τ1) = F_X10_depth x0 σ1) (f2 : (v2, τ2) = F_X11_depth m0 σ2) : v1.toInt = v2.toInt := by
  obtain ⟨N, M, u, FR, SR, ℓ, l, A1, A2, A3, A4, A6, s, t, hs, ht, ⟨⟨n1, n2, n3, n4⟩, ⟨F0, S0, hF, hS, hℓ⟩, hb, -, hM⟩, ⟨g0, g1, g2, g3, g4, g6⟩, hP, hMN⟩ := h.lk2 hG hl hx hI hJ hm hg
  have e0 : (0 : Int32).toInt = 0 := by decide
  obtain ⟨z, z1, z2, z3, z4⟩ := cDeep hP n4 g6 n1 10000 1 1 0 (by decide) (by omega) (by omega) (by omega) (by omega) (by omega) (Or.inl e0) (fun p p1 p2 => by omega)
  obtain ⟨w, w1, w2, w3, w4⟩ := mDeep hM hJ hm n2 n1 n4 (sr_d n4 n1 S0 hS) 10000 1 1 0 (by decide) (by omega) (by omega) (by omega) (by omega) (Or.inl e0) (fun p p1 p2 => by have := p1.1; omega)
  have e : z.toInt = w.toInt := by
    have a : w.toInt ≤ z.toInt := by
      rcases w3 with w3 | ⟨p, p1, p2⟩
      · omega
      · have := z4 p p1.1 p1.2.1
        omega
    have b : z.toInt ≤ w.toInt := by
      rcases z3 with z3 | ⟨p, p1, p2, p3⟩
      · omega
      · have sp : Src N u p := ⟨p1, p2, fun j hj ha => by
          apply Classical.byContradiction
          intro n
          obtain ⟨c, c1, c2, c3⟩ := child n4 j hj ha n
          have d := dep_s n4 c1 c2
          have := z4 c c1 c2
          rw [c3] at d
          omega⟩
        have := w4 p sp
        omega
    omega
  have eC : F_X6_deepest sh s = (z, s) := by
    unfold F_X6_deepest
    simp only [zlt]
    exact z1
  unfold F_X10_depth at f1
  unfold F_X11_depth at f2
  simp only [zlt, zlt2] at f1 f2
  rw [← hs, g0, eC] at f1
  rw [← ht, w1] at f2
  rw [(zPr2 f1).1, (zPr2 f2).1]
  exact e
end DEEPB
end
-- 35x64.sh12
section
/-! DYE: what was told of it is alike -/
def zDy (x0 m0 : Nat) (σ1 σ2 : zS) : Prop := ∀ i : Nat, (i : Int) < (σ2.1 m0 62).toInt → (∀ k, k < 4 → σ1.1 ((σ1.2.2 ((σ1.2.2 x0 5).getD 0) k).getD 0) i = σ2.1 (mR σ2 m0 (63 + k)) i) ∧ 0 ≤ (σ2.1 (mR σ2 m0 63) i).toInt ∧ (σ2.1 (mR σ2 m0 63) i).toInt < zM m0 σ2
theorem zu_if {f : Nat → Nat → Int32} {a j i : Nat} {v : Int32} : zu f a j v a i = if i = j then v else f a i := by
  by_cases c : i = j
  · rw [c, zu_s, if_pos rfl]
  · rw [zu_j _ _ _ _ _ (fun z => c z.symm), if_neg c]
section DYR
variable {κ : Int} {L1 : List Nat} {kd1 : Nat → Nat} {L2 : List Nat} {kd2 : Nat → Nat} {σ1 σ2 τ1 τ2 : zS} {m0 x0 : Nat} {Wk Wr Wf Wa : List Nat} {Q : Nat → zCo → (Nat → Int32) → Prop} {V : zWh} {ps pc sl rv sh cd td tt : Nat} {v1 v2 : Int32}
theorem zDy_r (hI : zI κ 0 L1 kd1 σ1) (hx : zT L1 kd1 x0 10) : ∃ dy, (σ1.2.2 x0 5).getD 0 = dy ∧ zT L1 kd1 dy 2 ∧ ∀ k, k < 4 → zT L1 kd1 ((σ1.2.2 dy k).getD 0) (25 + k) := by
  obtain ⟨dy, y1, y2⟩ := zi_ref (j := 5) (k2 := 2) hI hx (by rfl)
  refine ⟨dy, by rw [y1]; rfl, y2, fun k hk => ?_⟩
  have h : k = 0 ∨ k = 1 ∨ k = 2 ∨ k = 3 := by omega
  rcases h with rfl | rfl | rfl | rfl
  · obtain ⟨r, r1, r2⟩ := zi_ref (j := 0) (k2 := 25) hI y2 (by rfl)
    rw [r1]
    exact r2
  · obtain ⟨r, r1, r2⟩ := zi_ref (j := 1) (k2 := 26) hI y2 (by rfl)
    rw [r1]
    exact r2
  · obtain ⟨r, r1, r2⟩ := zi_ref (j := 2) (k2 := 27) hI y2 (by rfl)
    rw [r1]
    exact r2
  · obtain ⟨r, r1, r2⟩ := zi_ref (j := 3) (k2 := 28) hI y2 (by rfl)
    rw [r1]
    exact r2
theorem zDy.c (h : zDy x0 m0 σ1 σ2) (hI : zI κ 0 L1 kd1 σ1) (hx : zT L1 kd1 x0 10) (g : zSm Wk Wr L1 kd1 σ1 τ1) (h1 : ([25, 26, 27, 28].all (fun j => !(Wk.contains j))) = true) (h2 : (Wr.all (fun j => j == 5)) = true) : zDy x0 m0 τ1 σ2 := by
  have n : ∀ a ∈ L1, kd1 a ≠ 5 → τ1.2.2 a = σ1.2.2 a := fun a ha h5 => (g a ha).2 (fun q => h5 (by
    have := List.all_eq_true.mp h2 _ q
    simpa using this))
  obtain ⟨dy, d1, d2, d3⟩ := zDy_r hI hx
  intro i hi
  obtain ⟨A, B⟩ := h i hi
  refine ⟨fun k hk => ?_, B⟩
  have a := A k hk
  rw [d1] at a
  have e : τ1.1 ((σ1.2.2 dy k).getD 0) = σ1.1 ((σ1.2.2 dy k).getD 0) := ((g _ (d3 k hk).1).1 (fun q => by
    rw [(d3 k hk).2] at q
    have z := List.all_eq_true.mp h1 (25 + k) (by
      have h : k = 0 ∨ k = 1 ∨ k = 2 ∨ k = 3 := by omega
      rcases h with rfl | rfl | rfl | rfl <;> decide)
    simp [q] at z)).1
  rw [n x0 hx.1 (by rw [hx.2]; decide), d1, n dy d2.1 (by rw [d2.2]; decide), e]
  exact a
theorem zDy.m (h : zDy x0 m0 σ1 σ2) (hJ : zJ κ L2 kd2 σ2) (hm : zT L2 kd2 m0 11) (g : zSame m0 Wf Wa L2 kd2 σ2 τ2) (h1 : ([18, 62].all (fun j => !(Wf.contains j))) = true) (h2 : ([121, 163, 164, 165, 166].all (fun j => !(Wa.contains j))) = true) : zDy x0 m0 σ1 τ2 := by
  have er : ∀ s, mR τ2 m0 s = mR σ2 m0 s := fun s => by rw [mR, g.2.2]
  have r : ∀ s, (s = 21 ∨ s = 63 ∨ s = 64 ∨ s = 65 ∨ s = 66) → τ2.1 (mR σ2 m0 s) = σ2.1 (mR σ2 m0 s) := fun s hs => by
    have ht : zT L2 kd2 (mR σ2 m0 s) (100 + s) := by rcases hs with rfl | rfl | rfl | rfl | rfl <;> exact mR_t hJ hm (by rfl)
    refine (g.1 _ ht.1 (by rw [ht.2]; omega) (fun q => ?_)).1
    rw [ht.2] at q
    have z := List.all_eq_true.mp h2 (100 + s) (by rcases hs with rfl | rfl | rfl | rfl | rfl <;> decide)
    simp [q] at z
  have f : ∀ j, (j = 18 ∨ j = 62) → τ2.1 m0 j = σ2.1 m0 j := fun j hj => g.2.1 j (fun q => by
    have z := List.all_eq_true.mp h1 j (by rcases hj with rfl | rfl <;> decide)
    simp [q] at z)
  have M2 : zM m0 τ2 = zM m0 σ2 := by
    unfold zM zp
    rw [f 18 (by omega)]
    show (τ2.1 (mR τ2 m0 21) _).toInt = (σ2.1 (mR σ2 m0 21) _).toInt
    rw [er, r 21 (by omega)]
  intro i hi
  rw [f 62 (by omega)] at hi
  obtain ⟨A, B⟩ := h i hi
  refine ⟨fun k hk => ?_, ?_⟩
  · rw [er, r (63 + k) (by omega)]
    exact A k hk
  · rw [er, M2, r 63 (by omega)]
    exact B
theorem zDy_0 (h : τ2.1 m0 62 = 0) : zDy x0 m0 τ1 τ2 := by
  intro i hi
  have e : (0 : Int32).toInt = 0 := by decide
  rw [h] at hi
  omega
theorem zDy_fg (f2 : (v2, τ2) = F_X11_forget m0 σ2) : zDy x0 m0 τ1 τ2 := by
  unfold F_X11_forget at f2
  simp only [zlt] at f2
  refine zDy_0 ?_
  rw [(zPr2 f2).2]
  exact zu_s _ _ _ _
theorem zRL.tellD {a b c e : Int32} (h : zRL Q L1 kd1 x0 m0 V ps pc sl rv sh cd σ1 σ2) (hd : zDy x0 m0 σ1 σ2) (hx : zT L1 kd1 x0 10) (hI : zI κ 0 L1 kd1 σ1) (hJ : zJ κ L2 kd2 σ2) (hm : zT L2 kd2 m0 11) (f1 : (v1, τ1) = F_X10_tell x0 a b c e σ1) (f2 : (v2, τ2) = F_X11_tell m0 a b c e σ2) (g2 : zSame m0 Wf Wa L2 kd2 σ2 τ2) (h1 : Wf.contains 18 = false) (h2 : Wa.contains 121 = false) : zDy x0 m0 τ1 τ2 := by
  obtain ⟨-, -, N, n, u, ⟨a1, a2, a3, -, -, -, -, -, a9⟩, -⟩ := h
  obtain ⟨dy, gy, y2, tr⟩ := zDy_r hI hx
  have rg := zi_get (j := 4) hI y2 (lo := 0) (hi := 20) (by rfl)
  have e0 : (0 : Int32).toInt = 0 := by decide
  have e1 : (1 : Int32).toInt = 1 := by decide
  have e20 : (20 : Int32).toInt = 20 := by decide
  have e9 : (9999 : Int32).toInt = 9999 := by decide
  have k1 := zN1 a1 a3
  have k2 := zN1 (x := F_X11_many m0 σ2) (mMany.trans a2) a3
  rw [gy] at a9
  unfold F_X10_tell at f1
  unfold F_X11_tell at f2
  simp only [zlt, zlt2, cPlace, mPlc, cWithin, mIn, e0, e20, e9, k1, k2, gy] at f1 f2
  have no : ∀ w : Int32, (v1, τ1) = (w, σ1) → (v2, τ2) = (w, σ2) → zDy x0 m0 τ1 τ2 := fun w f1 f2 => by
    cases f1
    cases f2
    exact hd
  by_cases c1 : 0 ≤ a.toInt ∧ a.toInt ≤ (N : Int) - 1
  · rw [if_neg (fun z => z c1)] at f1
    by_cases c2 : 0 ≤ b.toInt ∧ b.toInt ≤ 9999
    · rw [if_neg (fun z => z c2)] at f1
      by_cases c3 : b.toInt ≤ c.toInt ∧ c.toInt ≤ 9999
      · rw [if_neg (fun z => z c3)] at f1
        unfold F_X2_add at f1
        simp only [zlt, e20] at f1
        by_cases c4 : (σ1.1 dy 4).toInt < 20
        · rw [if_pos c4] at f1
          rw [if_neg (by omega), if_neg (fun z => z c1), if_neg (fun z => z c2), if_neg (fun z => z c3)] at f2
          obtain ⟨r0, w0⟩ : ∃ r, (σ1.2.2 dy 0).getD 0 = r := ⟨_, rfl⟩
          obtain ⟨r1, w1⟩ : ∃ r, (σ1.2.2 dy 1).getD 0 = r := ⟨_, rfl⟩
          obtain ⟨r2, w2⟩ : ∃ r, (σ1.2.2 dy 2).getD 0 = r := ⟨_, rfl⟩
          obtain ⟨r3, w3⟩ : ∃ r, (σ1.2.2 dy 3).getD 0 = r := ⟨_, rfl⟩
          have p0 : zT L1 kd1 r0 25 := w0 ▸ tr 0 (by decide)
          have p1 : zT L1 kd1 r1 26 := w1 ▸ tr 1 (by decide)
          have p2 : zT L1 kd1 r2 27 := w2 ▸ tr 2 (by decide)
          have p3 : zT L1 kd1 r3 28 := w3 ▸ tr 3 (by decide)
          have n0 : ¬ dy = r0 := zNk y2 p0 (by decide)
          have n1 : ¬ dy = r1 := zNk y2 p1 (by decide)
          have n2 : ¬ dy = r2 := zNk y2 p2 (by decide)
          have n3 : ¬ dy = r3 := zNk y2 p3 (by decide)
          simp only [w0, w1, w2, w3, zu_n _ _ _ n0, zu_n _ _ _ n1, zu_n _ _ _ n2, zu_n _ _ _ n3, zu_s] at f1
          have q : ∀ {x : Nat}, zf 0 11 x = some (100 + x) → 1 ≤ x → ¬ m0 = (σ2.2.2 m0 x).getD 0 := fun {x} hz hx z => mR_m hJ hm (s := x) (k := 100 + x) hz (by omega) z.symm
          have m3 := q (x := 63) (by rfl) (by decide)
          have m4 := q (x := 64) (by rfl) (by decide)
          have m5 := q (x := 65) (by rfl) (by decide)
          have m6 := q (x := 66) (by rfl) (by decide)
          simp only [zu_n _ _ _ m3, zu_n _ _ _ m4, zu_n _ _ _ m5, zu_n _ _ _ m6, zu_s] at f2
          have b2 : (σ2.1 m0 62 + (1 : Int32)).toInt = (σ2.1 m0 62).toInt + 1 := by rw [zb_add (by rw [e1]; omega) (by rw [e1]; omega), e1]
          obtain ⟨k, hk⟩ : ∃ k : Nat, k = (σ1.1 dy 4).toNatClampNeg := ⟨_, rfl⟩
          have hk2 : (σ2.1 m0 62).toNatClampNeg = k := by rw [hk, ztn, ztn, a9]
          have kk : (k : Int) = (σ2.1 m0 62).toInt := by rw [hk, ztn]; omega
          have t1 : τ1 = _ := congrArg Prod.snd f1
          have t2 : τ2 = _ := congrArg Prod.snd f2
          have c1r : τ1.2.2 = σ1.2.2 := by rw [t1]
          have c2r : τ2.2.2 = σ2.2.2 := by rw [t2]
          have c1i : τ1.1 = zu (zu (zu (zu (zu σ1.1 r0 (σ1.1 dy 4).toNatClampNeg a) r1 (σ1.1 dy 4).toNatClampNeg b) r2 (σ1.1 dy 4).toNatClampNeg c) r3 (σ1.1 dy 4).toNatClampNeg (vp_nar .boolean e)) dy 4 (σ1.1 dy 4 + (1 : Int32)) := congrArg (fun s : zS => s.1) t1
          have c2i : τ2.1 = zu (zu (zu (zu (zu σ2.1 (mR σ2 m0 63) (σ2.1 m0 62).toNatClampNeg a) (mR σ2 m0 64) (σ2.1 m0 62).toNatClampNeg b) (mR σ2 m0 65) (σ2.1 m0 62).toNatClampNeg c) (mR σ2 m0 66) (σ2.1 m0 62).toNatClampNeg (vp_nar .boolean e)) m0 62 (σ2.1 m0 62 + (1 : Int32)) := congrArg (fun s : zS => s.1) t2
          rw [← hk] at c1i
          rw [hk2] at c2i
          have s01 : ¬ r0 = r1 := zNk p0 p1 (by decide)
          have s02 : ¬ r0 = r2 := zNk p0 p2 (by decide)
          have s03 : ¬ r0 = r3 := zNk p0 p3 (by decide)
          have s12 : ¬ r1 = r2 := zNk p1 p2 (by decide)
          have s13 : ¬ r1 = r3 := zNk p1 p3 (by decide)
          have s23 : ¬ r2 = r3 := zNk p2 p3 (by decide)
          have z01 : ¬ mR σ2 m0 63 = mR σ2 m0 64 := mR_ne hJ hm (k := 163) (k' := 164) (by rfl) (by rfl) (by decide)
          have z02 : ¬ mR σ2 m0 63 = mR σ2 m0 65 := mR_ne hJ hm (k := 163) (k' := 165) (by rfl) (by rfl) (by decide)
          have z03 : ¬ mR σ2 m0 63 = mR σ2 m0 66 := mR_ne hJ hm (k := 163) (k' := 166) (by rfl) (by rfl) (by decide)
          have z12 : ¬ mR σ2 m0 64 = mR σ2 m0 65 := mR_ne hJ hm (k := 164) (k' := 165) (by rfl) (by rfl) (by decide)
          have z13 : ¬ mR σ2 m0 64 = mR σ2 m0 66 := mR_ne hJ hm (k := 164) (k' := 166) (by rfl) (by rfl) (by decide)
          have z23 : ¬ mR σ2 m0 65 = mR σ2 m0 66 := mR_ne hJ hm (k := 165) (k' := 166) (by rfl) (by rfl) (by decide)
          have o3 : ¬ mR σ2 m0 63 = m0 := fun z => m3 z.symm
          have o4 : ¬ mR σ2 m0 64 = m0 := fun z => m4 z.symm
          have o5 : ¬ mR σ2 m0 65 = m0 := fun z => m5 z.symm
          have o6 : ¬ mR σ2 m0 66 = m0 := fun z => m6 z.symm
          have cw0 : ∀ i, τ1.1 r0 i = if i = k then a else σ1.1 r0 i := fun i => by rw [c1i, zu_n _ _ _ (fun z => n0 z.symm), zu_n _ _ _ s03, zu_n _ _ _ s02, zu_n _ _ _ s01, zu_if]
          have cw1 : ∀ i, τ1.1 r1 i = if i = k then b else σ1.1 r1 i := fun i => by rw [c1i, zu_n _ _ _ (fun z => n1 z.symm), zu_n _ _ _ s13, zu_n _ _ _ s12, zu_if, zu_n _ _ _ (fun z => s01 z.symm)]
          have cw2 : ∀ i, τ1.1 r2 i = if i = k then c else σ1.1 r2 i := fun i => by rw [c1i, zu_n _ _ _ (fun z => n2 z.symm), zu_n _ _ _ s23, zu_if, zu_n _ _ _ (fun z => s12 z.symm), zu_n _ _ _ (fun z => s02 z.symm)]
          have cw3 : ∀ i, τ1.1 r3 i = if i = k then (vp_nar .boolean e) else σ1.1 r3 i := fun i => by rw [c1i, zu_n _ _ _ (fun z => n3 z.symm), zu_if, zu_n _ _ _ (fun z => s23 z.symm), zu_n _ _ _ (fun z => s13 z.symm), zu_n _ _ _ (fun z => s03 z.symm)]
          have mw0 : ∀ i, τ2.1 (mR σ2 m0 63) i = if i = k then a else σ2.1 (mR σ2 m0 63) i := fun i => by rw [c2i, zu_n _ _ _ o3, zu_n _ _ _ z03, zu_n _ _ _ z02, zu_n _ _ _ z01, zu_if]
          have mw1 : ∀ i, τ2.1 (mR σ2 m0 64) i = if i = k then b else σ2.1 (mR σ2 m0 64) i := fun i => by rw [c2i, zu_n _ _ _ o4, zu_n _ _ _ z13, zu_n _ _ _ z12, zu_if, zu_n _ _ _ (fun z => z01 z.symm)]
          have mw2 : ∀ i, τ2.1 (mR σ2 m0 65) i = if i = k then c else σ2.1 (mR σ2 m0 65) i := fun i => by rw [c2i, zu_n _ _ _ o5, zu_n _ _ _ z23, zu_if, zu_n _ _ _ (fun z => z12 z.symm), zu_n _ _ _ (fun z => z02 z.symm)]
          have mw3 : ∀ i, τ2.1 (mR σ2 m0 66) i = if i = k then (vp_nar .boolean e) else σ2.1 (mR σ2 m0 66) i := fun i => by rw [c2i, zu_n _ _ _ o6, zu_if, zu_n _ _ _ (fun z => z23 z.symm), zu_n _ _ _ (fun z => z13 z.symm), zu_n _ _ _ (fun z => z03 z.symm)]
          have er : ∀ s, mR τ2 m0 s = mR σ2 m0 s := fun s => by rw [mR, c2r]
          have M2 : zM m0 τ2 = zM m0 σ2 := by
            have f18 : τ2.1 m0 18 = σ2.1 m0 18 := g2.2.1 18 (fun q => by simp [q] at h1)
            have t21 : zT L2 kd2 (mR σ2 m0 21) 121 := mR_t hJ hm (by rfl)
            have r21 : τ2.1 (mR σ2 m0 21) = σ2.1 (mR σ2 m0 21) := (g2.1 _ t21.1 (by rw [t21.2]; decide) (fun q => by
              rw [t21.2] at q
              simp [q] at h2)).1
            unfold zM zp
            rw [f18]
            show (τ2.1 (mR τ2 m0 21) _).toInt = (σ2.1 (mR σ2 m0 21) _).toInt
            rw [er, r21]
          have m62 : τ2.1 m0 62 = σ2.1 m0 62 + (1 : Int32) := by rw [c2i, zu_s]
          intro i hi
          rw [m62, b2] at hi
          refine ⟨fun k' hk' => ?_, ?_⟩
          · rw [c1r, gy, er]
            have old : i ≠ k → σ1.1 ((σ1.2.2 dy k').getD 0) i = σ2.1 (mR σ2 m0 (63 + k')) i := fun hne => by
              have := (hd i (by omega)).1 k' hk'
              rw [gy] at this
              exact this
            have hk4 : k' = 0 ∨ k' = 1 ∨ k' = 2 ∨ k' = 3 := by omega
            rcases hk4 with rfl | rfl | rfl | rfl
            · rw [w0] at old ⊢
              rw [cw0]
              refine Eq.trans ?_ (mw0 i).symm
              by_cases ci : i = k
              · rw [if_pos ci, if_pos ci]
              · rw [if_neg ci, if_neg ci]
                exact old ci
            · rw [w1] at old ⊢
              rw [cw1]
              refine Eq.trans ?_ (mw1 i).symm
              by_cases ci : i = k
              · rw [if_pos ci, if_pos ci]
              · rw [if_neg ci, if_neg ci]
                exact old ci
            · rw [w2] at old ⊢
              rw [cw2]
              refine Eq.trans ?_ (mw2 i).symm
              by_cases ci : i = k
              · rw [if_pos ci, if_pos ci]
              · rw [if_neg ci, if_neg ci]
                exact old ci
            · rw [w3] at old ⊢
              rw [cw3]
              refine Eq.trans ?_ (mw3 i).symm
              by_cases ci : i = k
              · rw [if_pos ci, if_pos ci]
              · rw [if_neg ci, if_neg ci]
                exact old ci
          · rw [er, M2, mw0]
            by_cases ci : i = k
            · rw [if_pos ci, a2]
              omega
            · rw [if_neg ci]
              exact (hd i (by omega)).2
        · rw [if_neg c4] at f1
          rw [if_pos (by omega)] at f2
          exact no _ f1 f2
      · rw [if_pos c3] at f1
        by_cases c5 : (σ2.1 m0 62).toInt = 20
        · rw [if_pos c5] at f2
          exact no _ f1 f2
        · rw [if_neg c5, if_neg (fun z => z c1), if_neg (fun z => z c2), if_pos c3] at f2
          exact no _ f1 f2
    · rw [if_pos c2] at f1
      by_cases c5 : (σ2.1 m0 62).toInt = 20
      · rw [if_pos c5] at f2
        exact no _ f1 f2
      · rw [if_neg c5, if_neg (fun z => z c1), if_pos c2] at f2
        exact no _ f1 f2
  · rw [if_pos c1] at f1
    by_cases c5 : (σ2.1 m0 62).toInt = 20
    · rw [if_pos c5] at f2
      exact no _ f1 f2
    · rw [if_neg c5, if_pos c1] at f2
      exact no _ f1 f2
set_option maxHeartbeats 1000000 in
theorem zDy.read (hd0 : zDy x0 m0 σ1 σ2) (hS : zSAM κ L1 kd1 L2 kd2 σ1 σ2) (hL : zLay L1 kd1 x0 σ1.2.2 V ps pc sl) (hTt : zTt x0 σ1.2.2 td tt) (hI1 : zI κ 0 L1 kd1 σ1) (hI2 : zJ κ L2 kd2 σ2) (hx0 : zT L1 kd1 x0 10) (hm0 : zT L2 kd2 m0 11) (f1 : (v1, τ1) = F_X10_read x0 σ1) (f2 : (v2, τ2) = F_X11_read m0 σ2) : zDy x0 m0 τ1 τ2 := by
  obtain ⟨T, m, P, tk, kA, vA, qA, tt', N0, k, q, v, nm, nO, x, p1, p2, C0, D0, S0, y, K, ⟨hd, hd', hTm, hK⟩, ⟨v0, w0⟩, ⟨e, e2⟩, ⟨P1, s1, P2, s2⟩, er, ef, -, dF, tks⟩ := zRead1 hS hI1 hI2 hx0 hm0
  have ett : tt' = tt := Option.some.inj (s1.symm.trans hTt.2.1)
  subst ett
  obtain ⟨c1, c2, c3⟩ := cRead hL hI1 hx0 hTt P1 P2 s2 hd hK v0 e er ef f1
  obtain ⟨b, E, hb1, h18, hE, rE, E19, EF, EX, m1, m2⟩ := mRead hI2 hm0 hd' hTm hK w0 e2 dF tks f2 (fun _ => (0, 0, 0, 0))
  by_cases za : aAns (aRun T 500 aZ) = 0
  · obtain ⟨-, N2, -, -, -, -, -, -, l7, -⟩ := m2 za
    exact zDy_0 l7
  · obtain ⟨g1, g2⟩ := c2 za
    obtain ⟨l1, l2⟩ := m1 za
    obtain ⟨dy, d1, d2, d3⟩ := zDy_r hI1 hx0
    have xP : x0 ≠ P := zNk hx0 P2 (by decide)
    have dP : dy ≠ P := zNk d2 P2 (by decide)
    have ro : ∀ c, c ≠ P → τ1.2.2 c = σ1.2.2 c := fun c h1 => by rw [g1, zu_n _ _ _ h1]
    have kr := fun j j1 j2 j3 => zTt_k hI1 s2 j j1 j2 j3
    have kk : ∀ c j, 25 ≤ kd1 c → kd1 c ≤ 28 → ¬ zAc L1 kd1 tt' σ1.2.2 c j := fun c j h1 h2 z => by
      have := zAc.kk (fun j j1 j2 j3 => by rw [(kr j j1 j2 j3).2]; split <;> omega) s2.2 z
      omega
    have er2 : ∀ s, mR τ2 m0 s = mR σ2 m0 s := fun s => by rw [mR, l1]
    have l : ∀ c j, ¬ (c = m0 ∧ j = 17) → ¬ zAm (mR σ2 m0) m0 b x k q v c j → τ2.1 c j = σ2.1 c j := fun c j n1 n2 => (l2 c j n1).trans (EF c j n2)
    have e18 : τ2.1 m0 18 = σ2.1 m0 18 := l _ _ (fun z => by omega) (zAm.fld hI2 hm0 tks (by omega))
    have e62 : τ2.1 m0 62 = σ2.1 m0 62 := l _ _ (fun z => by omega) (zAm.fld hI2 hm0 tks (by omega))
    have e21 : τ2.1 (mR σ2 m0 21) (σ2.1 m0 18).toInt.toNat = σ2.1 (mR σ2 m0 21) (σ2.1 m0 18).toInt.toNat := l _ _ (fun z => mR_m hI2 hm0 (s := 21) (k := 121) (by rfl) (by decide) z.1) (zAm.r21 hI2 hm0 tks (by omega))
    have row : ∀ s, (s = 63 ∨ s = 64 ∨ s = 65 ∨ s = 66) → ∀ j, τ2.1 (mR σ2 m0 s) j = σ2.1 (mR σ2 m0 s) j := fun s hs j => by
      have hz : zf 0 11 s = some (100 + s) := by rcases hs with rfl | rfl | rfl | rfl <;> rfl
      exact l _ _ (fun z => mR_m hI2 hm0 hz (by omega) z.1) (zAm.row hI2 hm0 tks hz (by omega) j)
    have M2 : zM m0 τ2 = zM m0 σ2 := by
      unfold zM zp
      rw [e18]
      show (τ2.1 (mR τ2 m0 21) _).toInt = (σ2.1 (mR σ2 m0 21) _).toInt
      rw [er2, e21]
    intro i hi
    rw [e62] at hi
    obtain ⟨A, B⟩ := hd0 i hi
    refine ⟨fun k' hk' => ?_, ?_⟩
    · have t := d3 k' hk'
      have a := A k' hk'
      rw [d1] at a
      rw [ro x0 xP, d1, ro dy dP, er2, row (63 + k') (by omega), ← a]
      exact g2 _ _ (kk _ _ (by rw [t.2]; omega) (by rw [t.2]; omega)) (fun z => zNk t hx0 (by omega) z.1) (by rw [t.2]; omega)
    · rw [er2, M2, row 63 (by omega)]
      exact B
end DYR
end
-- 35x65.sh13
section
/-! WHO IS DYED, by what was told -/
def dCm (u : Nat → Nat) (FR : Nat → Int32) (w a b : Int32) (q : Nat) : Prop := An u w.toInt.toNat q ∧ a.toInt ≤ (FR q - FR w.toInt.toNat).toInt ∧ (FR q - FR w.toInt.toNat).toInt ≤ b.toInt
def dOk (u : Nat → Nat) (FR : Nat → Int32) (w a b c : Int32) (q : Nat) : Prop := (dCm u FR w a b q ∧ c.toInt = 1) ∨ (¬ dCm u FR w a b q ∧ c.toInt = 0)
theorem dOk_e {u : Nat → Nat} {FR : Nat → Int32} {w a b d z : Int32} {q : Nat} (h : (z.toInt = 1 ∧ dCm u FR w a b q) ∨ (z.toInt = 0 ∧ ¬ dCm u FR w a b q)) : z.toInt = d.toInt ↔ dOk u FR w a b d q := by
  unfold dOk
  rcases h with ⟨h1, h2⟩ | ⟨h1, h2⟩
  · constructor
    · intro e
      exact Or.inl ⟨h2, by omega⟩
    · rintro (⟨-, e⟩ | ⟨e, -⟩)
      · omega
      · exact absurd h2 e
  · constructor
    · intro e
      exact Or.inr ⟨h2, by omega⟩
    · rintro (⟨e, -⟩ | ⟨-, e⟩)
      · exact absurd e h2
      · omega
/-- dyed by all that was told -/
def dAll (u : Nat → Nat) (FR W A B C : Nat → Int32) (P q : Nat) : Prop := ∀ j, j < P → dOk u FR (W j) (A j) (B j) (C j) q
section DYEC
variable {N P sh dy A1 A2 A3 A4 A6 q : Nat} {u l r : Nat → Nat} {ℓ FR W A B C : Nat → Int32} {s : zS} {p xq : Int32}
theorem cSo (hP : zShp N u ℓ FR sh A1 A2 A3 A4 A6 l s) (g3 : (s.2.2 sh 3).getD 0 = A3) (g6 : (s.2.2 sh 6).getD 0 = A6) (hN : N ≤ 12) (hr : ∀ k, k < 4 → (s.2.2 dy k).getD 0 = r k) (hz : (P : Int) ≤ (s.1 dy 4).toInt) (hp : p.toInt = P) (h20 : P ≤ 20) (hv : ∀ i, i < P → (s.1 (r 0) i = W i ∧ s.1 (r 1) i = A i ∧ s.1 (r 2) i = B i ∧ s.1 (r 3) i = C i) ∧ 0 ≤ (W i).toInt ∧ (W i).toInt < N) (hq : xq.toInt = q) (hqN : q < N) : ∀ (n : Nat) (x : Int32) (i : Nat) (y : Int32), x.toInt = i → i ≤ P → P - i < n → ((y.toInt = 1 ∧ dAll u FR W A B C i q) ∨ (y.toInt = 0 ∧ ¬ dAll u FR W A B C i q)) → ∃ z, F_X2_isSo_6 dy sh xq p n x y s = (z, s) ∧ ((z.toInt = 1 ∧ dAll u FR W A B C P q) ∨ (z.toInt = 0 ∧ ¬ dAll u FR W A B C P q)) := by
  have e0 : (0 : Int32).toInt = 0 := by decide
  have e1 : (1 : Int32).toInt = 1 := by decide
  have nq : xq.toNatClampNeg = q := by rw [ztn, hq]; rfl
  intro n
  induction n with
  | zero => intro x i y _ _ h; exact absurd h (by omega)
  | succ n ih =>
    intro x i y hx hi hm hy
    have nx : x.toNatClampNeg = i := by rw [ztn, hx]; rfl
    by_cases c : i < P
    · obtain ⟨⟨v0, v1, v2, v3⟩, w1, w2⟩ := hv i c
      obtain ⟨w, hw⟩ : ∃ w : Nat, (W i).toInt = w := ⟨(W i).toInt.toNat, by omega⟩
      have nw : (W i).toNatClampNeg = w := by rw [ztn, hw]; rfl
      have tw : (W i).toInt.toNat = w := by rw [hw]; rfl
      have hh := cHas (x := s.1 A6 q) hw (by omega)
      have x1 : (x + (1 : Int32)).toInt = (i + 1 : Nat) := zp1 hx (by omega)
      have bits := hP.2.1.2.2.1 q hqN w (by omega)
      have F1 := hP.2.1.2.1 q hqN
      have F2 := hP.2.1.2.1 w (by omega)
      have stp : ∀ b : Int32, ((b.toInt = 1 ∧ dCm u FR (W i) (A i) (B i) q) ∨ (b.toInt = 0 ∧ ¬ dCm u FR (W i) (A i) (B i) q)) → ∃ z, (if y.toInt = 0 then F_X2_isSo_6 dy sh xq p n (x + (1 : Int32)) 0 s else if b.toInt = (C i).toInt then F_X2_isSo_6 dy sh xq p n (x + (1 : Int32)) 1 s else F_X2_isSo_6 dy sh xq p n (x + (1 : Int32)) 0 s) = (z, s) ∧ ((z.toInt = 1 ∧ dAll u FR W A B C P q) ∨ (z.toInt = 0 ∧ ¬ dAll u FR W A B C P q)) := fun b hb => by
        have ok := dOk_e (d := C i) hb
        by_cases y0 : y.toInt = 0
        · rw [if_pos y0]
          refine ih _ (i + 1) 0 x1 (by omega) (by omega) (Or.inr ⟨e0, fun z => ?_⟩)
          rcases hy with ⟨h, -⟩ | ⟨-, h⟩
          · omega
          · exact h (fun j hj => z j (by omega))
        · rw [if_neg y0]
          have all : dAll u FR W A B C i q := by
            rcases hy with ⟨-, h⟩ | ⟨h, -⟩
            · exact h
            · exact absurd h y0
          by_cases bc : b.toInt = (C i).toInt
          · rw [if_pos bc]
            refine ih _ (i + 1) 1 x1 (by omega) (by omega) (Or.inl ⟨e1, fun j hj => ?_⟩)
            by_cases e : j = i
            · rw [e]
              exact ok.mp bc
            · exact all j (by omega)
          · rw [if_neg bc]
            exact ih _ (i + 1) 0 x1 (by omega) (by omega) (Or.inr ⟨e0, fun z => bc (ok.mpr (z i (by omega)))⟩)
      rw [F_X2_isSo_6]
      simp only [zlt, hr 0 (by decide), hr 1 (by decide), hr 2 (by decide), hr 3 (by decide), g3, g6, nx, nq, v0, v1, v2, v3, nw, F1, F2, cWithin]
      rw [if_pos (by omega), if_pos (by omega)]
      by_cases h1 : bt (s.1 A6 q) w = true
      · rw [hh, if_pos h1, if_neg (by decide)]
        have an := bits.mp h1
        by_cases h2 : (A i).toInt ≤ (FR q - FR w).toInt ∧ (FR q - FR w).toInt ≤ (B i).toInt
        · rw [if_neg (fun z => z h2)]
          exact stp 1 (Or.inl ⟨e1, by unfold dCm; rw [tw]; exact ⟨an, h2⟩⟩)
        · rw [if_pos h2]
          exact stp 0 (Or.inr ⟨e0, fun z => h2 (by unfold dCm at z; rw [tw] at z; exact z.2)⟩)
      · rw [hh, if_neg h1, if_pos rfl]
        exact stp 0 (Or.inr ⟨e0, fun z => h1 (bits.mpr (by unfold dCm at z; rw [tw] at z; exact z.1))⟩)
    · rw [F_X2_isSo_6, if_neg (by omega)]
      obtain rfl : i = P := by omega
      exact ⟨y, rfl, hy⟩
theorem cLeft (hP : zShp N u ℓ FR sh A1 A2 A3 A4 A6 l s) (g3 : (s.2.2 sh 3).getD 0 = A3) (g4 : (s.2.2 sh 4).getD 0 = A4) (g6 : (s.2.2 sh 6).getD 0 = A6) (hN : N ≤ 12) (hr : ∀ k, k < 4 → (s.2.2 dy k).getD 0 = r k) (hz : (P : Int) ≤ (s.1 dy 4).toInt) (hp : p.toInt = P) (h20 : P ≤ 20) (hv : ∀ i, i < P → (s.1 (r 0) i = W i ∧ s.1 (r 1) i = A i ∧ s.1 (r 2) i = B i ∧ s.1 (r 3) i = C i) ∧ 0 ≤ (W i).toInt ∧ (W i).toInt < N) : ∀ (n : Nat) (x : Int32) (i : Nat) (y : Int32), x.toInt = i → 1 ≤ i → i ≤ 12 → 12 - i < n → (∀ j, j < 32 → (bt y j = true ↔ ((Src N u j ∧ dAll u FR W A B C P j) ∧ j < i))) → ∃ S, F_X2_left_5 dy sh p n x y s = (S, s) ∧ ∀ j, j < 32 → (bt S j = true ↔ (Src N u j ∧ dAll u FR W A B C P j)) := by
  have h0 := hP.1
  have e1 : (1 : Int32).toInt = 1 := by decide
  intro n
  induction n with
  | zero => intro x i y _ _ _ h; exact absurd h (by omega)
  | succ n ih =>
    intro x i y hx h1 hi hm hb
    have q := cIsS hP g4 (x := x)
    rw [hx, show ((i : Int)).toNat = i by omega] at q
    rw [F_X2_left_5]
    simp only [zlt, zlt2, q.1]
    by_cases c : i < N
    · rw [if_pos (by omega)]
      have x1 : (x + (1 : Int32)).toInt = (i + 1 : Nat) := zp1 hx (by omega)
      have skip : ¬ (Src N u i ∧ dAll u FR W A B C P i) → ∃ S, F_X2_left_5 dy sh p n (x + (1 : Int32)) y s = (S, s) ∧ ∀ j, j < 32 → (bt S j = true ↔ (Src N u j ∧ dAll u FR W A B C P j)) := fun hn => ih _ (i + 1) y x1 (by omega) (by omega) (by omega) (fun j hj => by
        rw [hb j hj]
        constructor
        · rintro ⟨w1, w2⟩
          exact ⟨w1, by omega⟩
        · rintro ⟨w1, w2⟩
          refine ⟨w1, ?_⟩
          by_cases e : j = i
          · rw [e] at w1
            exact absurd w1 hn
          · omega)
      by_cases c2 : (F_X6_isSource sh x s).1.toInt = 0
      · rw [if_pos c2]
        exact skip (fun z => (q.2.mp c2) ⟨by omega, z.1⟩)
      · rw [if_neg c2]
        have hs : Src N u i := by
          apply Classical.byContradiction
          intro z
          exact c2 (q.2.mpr (fun w => z w.2))
        obtain ⟨z, z1, z2⟩ := cSo hP g3 g6 hN hr hz hp h20 hv hx c 4294967299 0 0 1 (by decide) (by omega) (by omega) (Or.inl ⟨e1, fun j hj => absurd hj (by omega)⟩)
        have eS : F_X2_isSo dy sh x p s = (z, s) := by
          unfold F_X2_isSo
          simp only [zlt]
          exact z1
        simp only [eS]
        by_cases c3 : z.toInt = 0
        · rw [if_pos c3]
          refine skip (fun w => ?_)
          rcases z2 with ⟨k, -⟩ | ⟨-, k⟩
          · omega
          · exact k w.2
        · rw [if_neg c3]
          have all : dAll u FR W A B C P i := by
            rcases z2 with ⟨-, k⟩ | ⟨k, -⟩
            · exact k
            · exact absurd k c3
          refine ih _ (i + 1) _ x1 (by omega) (by omega) (by omega) (fun j hj => ?_)
          rw [b_or, bt_bit hx (by omega) hj, Bool.or_eq_true, hb j hj, decide_eq_true_eq]
          constructor
          · rintro (⟨w1, w2⟩ | w)
            · exact ⟨w1, by omega⟩
            · rw [w]
              exact ⟨⟨hs, all⟩, by omega⟩
          · rintro ⟨w1, w2⟩
            by_cases e : j = i
            · exact Or.inr e
            · exact Or.inl ⟨w1, by omega⟩
    · rw [if_neg (by omega)]
      refine ⟨y, rfl, fun j hj => ?_⟩
      rw [hb j hj]
      exact ⟨fun w => w.1, fun w => ⟨w, by have := w.1.2.1; omega⟩⟩
end DYEC
section DYEM
variable {L : List Nat} {kd : Nat → Nat} {m0 N P q i : Nat} {u : Nat → Nat} {FR SR W A B C : Nat → Int32} {σ t : zS} {κ : Int} {p xq x : Int32}
theorem mCm (h : zShM N u FR SR m0 σ t) (hN : N ≤ 12) (hv : ∀ i, i < P → (t.1 (mR σ m0 63) i = W i ∧ t.1 (mR σ m0 64) i = A i ∧ t.1 (mR σ m0 65) i = B i ∧ t.1 (mR σ m0 66) i = C i) ∧ 0 ≤ (W i).toInt ∧ (W i).toInt < N) (hq : xq.toInt = q) (hqN : q < N) (hx : x.toInt = i) (hi : i < P) : ((F_X11_comesBy m0 xq x t).toInt = 1 ∧ dCm u FR (W i) (A i) (B i) q) ∨ ((F_X11_comesBy m0 xq x t).toInt = 0 ∧ ¬ dCm u FR (W i) (A i) (B i) q) := by
  have e0 : (0 : Int32).toInt = 0 := by decide
  have e1 : (1 : Int32).toInt = 1 := by decide
  have nq : xq.toNatClampNeg = q := by rw [ztn, hq]; rfl
  have nx : x.toNatClampNeg = i := by rw [ztn, hx]; rfl
  obtain ⟨⟨v0, v1, v2, -⟩, w1, w2⟩ := hv i hi
  obtain ⟨w, hw⟩ : ∃ w : Nat, (W i).toInt = w := ⟨(W i).toInt.toNat, by omega⟩
  have nw : (W i).toNatClampNeg = w := by rw [ztn, hw]; rfl
  have tw : (W i).toInt.toNat = w := by rw [hw]; rfl
  have cut := (bt_cut (x := t.1 (mR σ m0 54) w) hq (by omega)).2
  have bb := h.2.1 w q (by omega) (by omega)
  have F1 := (h.2.2.1 q hqN).1
  have F2 := (h.2.2.1 w (by omega)).1
  have E : F_X11_comesBy m0 xq x t = if ((t.1 (mR σ m0 54) w >>> (xq &&& 31)) &&& (1 : Int32)).toInt = 1 then (if ¬ ((A i).toInt ≤ (FR q - FR w).toInt ∧ (FR q - FR w).toInt ≤ (B i).toInt) then 0 else 1) else 0 := by
    unfold F_X11_comesBy
    simp only [zlt, h.r 63, h.r 54, h.r 52, h.r 64, h.r 65, nx, nq, v0, nw, v1, v2, F1, F2, mIn, e1]
  rw [E]
  by_cases h1 : ((t.1 (mR σ m0 54) w >>> (xq &&& 31)) &&& (1 : Int32)).toInt = 1
  · rw [if_pos h1]
    have an := (bb.mp (cut.mp h1)).2
    by_cases h2 : (A i).toInt ≤ (FR q - FR w).toInt ∧ (FR q - FR w).toInt ≤ (B i).toInt
    · rw [if_neg (fun z => z h2)]
      exact Or.inl ⟨e1, by unfold dCm; rw [tw]; exact ⟨an, h2⟩⟩
    · rw [if_pos h2]
      exact Or.inr ⟨e0, fun z => h2 (by unfold dCm at z; rw [tw] at z; exact z.2)⟩
  · rw [if_neg h1]
    exact Or.inr ⟨e0, fun z => h1 (cut.mpr (bb.mpr ⟨hqN, by unfold dCm at z; rw [tw] at z; exact z.1⟩))⟩
theorem mSo (h : zShM N u FR SR m0 σ t) (hN : N ≤ 12) (hp : p.toInt = P) (h20 : P ≤ 20) (hv : ∀ i, i < P → (t.1 (mR σ m0 63) i = W i ∧ t.1 (mR σ m0 64) i = A i ∧ t.1 (mR σ m0 65) i = B i ∧ t.1 (mR σ m0 66) i = C i) ∧ 0 ≤ (W i).toInt ∧ (W i).toInt < N) (hq : xq.toInt = q) (hqN : q < N) {x6 : Int32} {k : Int32 → Int32 → zS → Int32 × zS} : ∀ (n : Nat) (x : Int32) (i : Nat) (y : Int32), x.toInt = i → i ≤ P → P - i < n → (y.toInt ≠ 0 ↔ (Src N u q ∧ dAll u FR W A B C i q)) → ∃ y', F_X11_dyedBits_26 xq x6 m0 p k n x y t = k (xq + (1 : Int32)) y' t ∧ ((y' = x6 ∧ ¬ (Src N u q ∧ dAll u FR W A B C P q)) ∨ (y' = x6 ||| ((1 : Int32) <<< (xq &&& 31)) ∧ (Src N u q ∧ dAll u FR W A B C P q))) := by
  have e0 : (0 : Int32).toInt = 0 := by decide
  have e1 : (1 : Int32).toInt = 1 := by decide
  intro n
  induction n with
  | zero => intro x i y _ _ h; exact absurd h (by omega)
  | succ n ih =>
    intro x i y hx hi hm hy
    have nx : x.toNatClampNeg = i := by rw [ztn, hx]; rfl
    rw [F_X11_dyedBits_26]
    simp only [zlt, h.r 66, nx]
    by_cases y0 : y.toInt = 0
    · have no : ¬ (Src N u q ∧ dAll u FR W A B C P q) := fun z => (hy.mpr ⟨z.1, fun j hj => z.2 j (by omega)⟩) y0
      by_cases c : i < P
      · rw [if_pos (by omega), if_pos y0, if_pos y0]
        exact ⟨x6, rfl, Or.inl ⟨rfl, no⟩⟩
      · rw [if_neg (by omega), if_pos y0]
        exact ⟨x6, rfl, Or.inl ⟨rfl, no⟩⟩
    · have all := hy.mp y0
      by_cases c : i < P
      · rw [if_pos (by omega), if_neg y0]
        have cm := mCm h hN hv hq hqN hx c
        have ok := dOk_e (d := C i) cm
        have x1 : (x + (1 : Int32)).toInt = (i + 1 : Nat) := zp1 hx (by omega)
        rw [(hv i c).1.2.2.2]
        by_cases bc : (F_X11_comesBy m0 xq x t).toInt = (C i).toInt
        · rw [if_pos bc]
          refine ih _ (i + 1) 1 x1 (by omega) (by omega) ⟨fun _ => ⟨all.1, fun j hj => ?_⟩, fun _ => by rw [e1]; decide⟩
          by_cases e : j = i
          · rw [e]
            exact ok.mp bc
          · exact all.2 j (by omega)
        · rw [if_neg bc]
          exact ih _ (i + 1) 0 x1 (by omega) (by omega) ⟨fun z => absurd e0 z, fun z => absurd (ok.mpr (z.2 i (by omega))) bc⟩
      · rw [if_neg (by omega), if_neg y0]
        obtain rfl : i = P := by omega
        exact ⟨_, rfl, Or.inr ⟨rfl, all⟩⟩
theorem mLeft (h : zShM N u FR SR m0 σ t) (hJ : zJ κ L kd σ) (hm : zT L kd m0 11) (hM : zM m0 σ = N) (hN : N ≤ 12) (hp : p.toInt = P) (h20 : P ≤ 20) (hv : ∀ i, i < P → (t.1 (mR σ m0 63) i = W i ∧ t.1 (mR σ m0 64) i = A i ∧ t.1 (mR σ m0 65) i = B i ∧ t.1 (mR σ m0 66) i = C i) ∧ 0 ≤ (W i).toInt ∧ (W i).toInt < N) : ∀ (n : Nat) (x : Int32) (i : Nat) (y : Int32), x.toInt = i → 1 ≤ i → i ≤ 12 → 12 - i < n → (∀ j, j < 32 → (bt y j = true ↔ ((Src N u j ∧ dAll u FR W A B C P j) ∧ j < i))) → ∃ S, F_X11_dyedBits_8 m0 p n x y t = (S, t) ∧ ∀ j, j < 32 → (bt S j = true ↔ (Src N u j ∧ dAll u FR W A B C P j)) := by
  have h0 := h.many hJ hm hM
  intro n
  induction n with
  | zero => intro x i y _ _ _ h; exact absurd h (by omega)
  | succ n ih =>
    intro x i y hx h1 hi hm' hb
    rw [F_X11_dyedBits_8]
    simp only [zlt]
    by_cases c : i < N
    · rw [if_pos (by omega)]
      have x1 : (x + (1 : Int32)).toInt = (i + 1 : Nat) := zp1 hx (by omega)
      have q := mIsS h hJ hm hM hN (x := x)
      rw [hx, show ((i : Int)).toNat = i by omega] at q
      obtain ⟨y', e, k⟩ := mSo h hN hp h20 hv hx c (x6 := y) (k := F_X11_dyedBits_8 m0 p n) 10000 0 0 (F_X11_isSource m0 x t) (by decide) (by omega) (by omega) ⟨fun z => ⟨Classical.byContradiction (fun w => z (q.mpr (fun v => w v.2))), fun j hj => absurd hj (by omega)⟩, fun z e => (q.mp e) ⟨by omega, z.1⟩⟩
      rw [e]
      rcases k with ⟨k1, k2⟩ | ⟨k1, k2⟩
      · rw [k1]
        refine ih _ (i + 1) y x1 (by omega) (by omega) (by omega) (fun j hj => ?_)
        rw [hb j hj]
        constructor
        · rintro ⟨w1, w2⟩
          exact ⟨w1, by omega⟩
        · rintro ⟨w1, w2⟩
          refine ⟨w1, ?_⟩
          by_cases e : j = i
          · rw [e] at w1
            exact absurd w1 k2
          · omega
      · rw [k1]
        refine ih _ (i + 1) _ x1 (by omega) (by omega) (by omega) (fun j hj => ?_)
        rw [b_or, zNi hx (by omega), bt_1 (by omega) hj, Bool.or_eq_true, hb j hj, decide_eq_true_eq]
        constructor
        · rintro (⟨w1, w2⟩ | w)
          · exact ⟨w1, by omega⟩
          · rw [w]
            exact ⟨k2, by omega⟩
        · rintro ⟨w1, w2⟩
          by_cases e : j = i
          · exact Or.inr e
          · exact Or.inl ⟨w1, by omega⟩
    · rw [if_neg (by omega)]
      refine ⟨y, rfl, fun j hj => ?_⟩
      rw [hb j hj]
      exact ⟨fun w => w.1, fun w => ⟨w, by have := w.1.2.1; omega⟩⟩
end DYEM
section DYEB
variable {κ : Int} {L1 : List Nat} {kd1 : Nat → Nat} {L2 : List Nat} {kd2 : Nat → Nat} {σ1 σ2 τ1 τ2 : zS} {m0 x0 : Nat} {Q : Nat → zCo → (Nat → Int32) → Prop} {V : zWh} {ps pc sl rv sh cd : Nat} {v1 v2 p q : Int32}
theorem zRL.left (hG : zGd Q) (h : zRL Q L1 kd1 x0 m0 V ps pc sl rv sh cd σ1 σ2) (hl : zLen x0 m0 σ1 σ2) (hd : zDy x0 m0 σ1 σ2) (hx : zT L1 kd1 x0 10) (hI : zI κ 0 L1 kd1 σ1) (hJ : zJ κ L2 kd2 σ2) (hm : zT L2 kd2 m0 11) (hg : gN m0 σ2) (hp0 : 0 ≤ p.toInt) (hp1 : p.toInt ≤ (σ2.1 m0 62).toInt) : ∃ (N : Nat) (u : Nat → Nat) (FR SR ℓ : Nat → Int32) (l : Nat → Nat) (A1 A2 A3 A4 A6 : Nat) (s t : zS) (S : Int32), s = F_X10_look x0 σ1 ∧ zLk N u FR SR ℓ kd1 x0 m0 rv sh l σ1 σ2 s t ∧ ((s.2.2 x0 3).getD 0 = sh ∧ (s.2.2 sh 6).getD 0 = A6 ∧ (s.2.2 x0 5).getD 0 = (σ1.2.2 x0 5).getD 0 ∧ (s.2.2 x0 10).getD 0 = (σ1.2.2 x0 10).getD 0 ∧ (s.1 ((σ1.2.2 x0 10).getD 0) 0).toInt = N) ∧ zShp N u ℓ FR sh A1 A2 A3 A4 A6 l s ∧ F_X2_left ((σ1.2.2 x0 5).getD 0) sh p s = (S, s) ∧ F_X11_dyedBits m0 p σ2 = (S, t) ∧ ∀ j, j < 32 → bt S j = true → Src N u j := by
  obtain ⟨N, M, u, FR, SR, ℓ, l, A1, A2, A3, A4, A6, s, t, hs, ht, K, ⟨g0, g1, g2, g3, g4, g6⟩, hP, hMN⟩ := h.lk2 hG hl hx hI hJ hm hg
  obtain ⟨⟨n1, n2, n3, n4⟩, -, -, ⟨C1, C2, -⟩, hM⟩ := id K
  obtain ⟨dy, d1, d2, d3⟩ := zDy_r hI hx
  have a9 : (σ1.1 ((σ1.2.2 x0 5).getD 0) 4).toInt = (σ2.1 m0 62).toInt := by
    obtain ⟨-, -, N, n, u, hn, -⟩ := h
    exact hn.2.2.2.2.2.2.2.2
  have rg := zi_get (j := 4) hI d2 (lo := 0) (hi := 20) (by rfl)
  rw [d1] at a9
  have nx : x0 ≠ rv := zNk hx h.2.1.2.1.2.1 (by decide)
  have nd : dy ≠ rv := zNk d2 h.2.1.2.1.2.1 (by decide)
  have g5 : (s.2.2 x0 5).getD 0 = (σ1.2.2 x0 5).getD 0 := by rw [C1 x0 5 (fun z => nx z.1)]
  have g10 : (s.2.2 x0 10).getD 0 = (σ1.2.2 x0 10).getD 0 := by rw [C1 x0 10 (fun z => nx z.1)]
  obtain ⟨td, d4, d5⟩ := zi_ref (j := 10) (k2 := 9) hI hx (by rfl)
  have gd : (σ1.2.2 x0 10).getD 0 = td := by rw [d4]; rfl
  have g11 : (s.1 ((σ1.2.2 x0 10).getD 0) 0).toInt = N := by
    rw [gd] at n3 ⊢
    rw [C2 td 0 (by unfold zKs; rw [d5.2]; omega)]
    exact n3
  obtain ⟨P, hP'⟩ : ∃ P : Nat, p.toInt = P := ⟨p.toInt.toNat, by omega⟩
  have hr : ∀ k, k < 4 → (s.2.2 dy k).getD 0 = (σ1.2.2 dy k).getD 0 := fun k _ => by rw [C1 dy k (fun z => nd z.1)]
  have cv : ∀ k, k < 4 → ∀ i, s.1 ((σ1.2.2 dy k).getD 0) i = σ1.1 ((σ1.2.2 dy k).getD 0) i := fun k hk i => C2 _ i (by
    unfold zKs
    rw [(d3 k hk).2]
    omega)
  have s4 : s.1 dy 4 = σ1.1 dy 4 := C2 dy 4 (by unfold zKs; rw [d2.2]; omega)
  have mr : ∀ k, k < 4 → t.1 (mR σ2 m0 (63 + k)) = σ2.1 (mR σ2 m0 (63 + k)) := fun k hk => by
    have hk4 : k = 0 ∨ k = 1 ∨ k = 2 ∨ k = 3 := by omega
    rcases hk4 with rfl | rfl | rfl | rfl <;> exact hM.row hJ hm (by rfl) (by rfl)
  have dv : ∀ i, i < P → (∀ k, k < 4 → σ1.1 ((σ1.2.2 dy k).getD 0) i = σ2.1 (mR σ2 m0 (63 + k)) i) ∧ 0 ≤ (σ2.1 (mR σ2 m0 63) i).toInt ∧ (σ2.1 (mR σ2 m0 63) i).toInt < N := fun i hi => by
    have := hd i (by omega)
    rw [d1, n2] at this
    exact this
  obtain ⟨SC, c1, c2⟩ := cLeft (dy := dy) (r := fun k => (σ1.2.2 dy k).getD 0) (W := σ2.1 (mR σ2 m0 63)) (A := σ2.1 (mR σ2 m0 64)) (B := σ2.1 (mR σ2 m0 65)) (C := σ2.1 (mR σ2 m0 66)) (P := P) (p := p) hP g3 g4 g6 n1 hr (by rw [s4]; omega) hP' (by omega) (fun i hi => ⟨⟨(cv 0 (by decide) i).trans ((dv i hi).1 0 (by decide)), (cv 1 (by decide) i).trans ((dv i hi).1 1 (by decide)), (cv 2 (by decide) i).trans ((dv i hi).1 2 (by decide)), (cv 3 (by decide) i).trans ((dv i hi).1 3 (by decide))⟩, (dv i hi).2⟩) 10000 1 1 0 (by decide) (by omega) (by omega) (by omega) (fun j hj => by
    rw [b_0]
    exact ⟨fun z => absurd z (by decide), fun z => by have := z.1.1.1; omega⟩)
  obtain ⟨SM, m1, m2⟩ := mLeft (W := σ2.1 (mR σ2 m0 63)) (A := σ2.1 (mR σ2 m0 64)) (B := σ2.1 (mR σ2 m0 65)) (C := σ2.1 (mR σ2 m0 66)) (P := P) (p := p) hM hJ hm n2 n1 hP' (by omega) (fun i hi => ⟨⟨congrFun (mr 0 (by decide)) i, congrFun (mr 1 (by decide)) i, congrFun (mr 2 (by decide)) i, congrFun (mr 3 (by decide)) i⟩, (dv i hi).2⟩) 10000 1 1 0 (by decide) (by omega) (by omega) (by omega) (fun j hj => by
    rw [b_0]
    exact ⟨fun z => absurd z (by decide), fun z => by have := z.1.1.1; omega⟩)
  have eS : SM = SC := b_ext (fun j hj => by
    have a := m2 j hj
    have b := c2 j hj
    cases h1 : bt SM j with
    | false =>
      cases h2 : bt SC j with
      | false => rfl
      | true => rw [b.mp h2 |> a.mpr] at h1; cases h1
    | true => exact (b.mpr (a.mp h1)).symm)
  refine ⟨N, u, FR, SR, ℓ, l, A1, A2, A3, A4, A6, s, t, SC, hs, K, ⟨g0, g6, g5, g10, g11⟩, hP, ?_, ?_, fun j hj hb => ((c2 j hj).mp hb).1⟩
  · rw [d1]
    unfold F_X2_left
    simp only [zlt]
    exact c1
  · unfold F_X11_dyedBits
    simp only [zlt]
    rw [← ht, ← eS]
    exact m1
theorem zRL.dyed (hG : zGd Q) (h : zRL Q L1 kd1 x0 m0 V ps pc sl rv sh cd σ1 σ2) (hl : zLen x0 m0 σ1 σ2) (hd : zDy x0 m0 σ1 σ2) (hx : zT L1 kd1 x0 10) (hI : zI κ 0 L1 kd1 σ1) (hJ : zJ κ L2 kd2 σ2) (hm : zT L2 kd2 m0 11) (hg : gN m0 σ2) (f1 : (v1, τ1) = F_X10_dyed x0 p q σ1) (f2 : (v2, τ2) = F_X11_dyed m0 p q σ2) : v1.toInt = v2.toInt := by
  have e0 : (0 : Int32).toInt = 0 := by decide
  have e1 : (1 : Int32).toInt = 1 := by decide
  have a9 : (σ1.1 ((σ1.2.2 x0 5).getD 0) 4).toInt = (σ2.1 m0 62).toInt := by
    obtain ⟨-, -, N, n, u, hn, -⟩ := h
    exact hn.2.2.2.2.2.2.2.2
  unfold F_X10_dyed at f1
  unfold F_X11_dyed at f2
  simp only [zlt, zlt2, cWithin, mIn, e0, e1] at f1 f2
  rw [a9] at f1
  by_cases cp : 0 ≤ p.toInt ∧ p.toInt ≤ (σ2.1 m0 62).toInt
  · rw [if_neg (fun z => z cp)] at f1 f2
    by_cases cq : 0 ≤ q.toInt ∧ q.toInt ≤ 1
    · rw [if_neg (fun z => z cq)] at f1 f2
      obtain ⟨N, u, FR, SR, ℓ, l, A1, A2, A3, A4, A6, s, t, S, hs, ⟨⟨n1, -⟩, -⟩, ⟨g0, g6, g5, -⟩, hP, eL, eM, hS⟩ := h.left hG hl hd hx hI hJ hm hg cp.1 cp.2
      rw [← hs, g0, g5, eL] at f1
      rw [eM] at f2
      simp only at f1 f2
      by_cases c0 : q.toInt = 0
      · rw [if_pos c0] at f1 f2
        rw [(zPr2 f1).1, (zPr2 f2).1, bitM, bitC (fun j j1 j2 => by
          cases hc : bt S j with
          | false => rfl
          | true => have := (hS j j2 hc).2.1; omega)]
      · rw [if_neg c0] at f1 f2
        rw [(zPr2 f1).1, (zPr2 f2).1]
    · rw [if_pos cq] at f1 f2
      rw [(zPr2 f1).1, (zPr2 f2).1]
  · rw [if_pos cp] at f1 f2
    rw [(zPr2 f1).1, (zPr2 f2).1]
end DYEB
end
-- 35x66.sh14
section
/-! WHERE TO WATCH: what is left at worst -/
noncomputable def wst (u : Nat → Nat) (S : Int32) (q : Nat) : Nat := if cnt (fun j => bt S j = true ∧ An u q j) 12 ≤ cnt (fun j => bt S j = true ∧ ¬ An u q j) 12 then cnt (fun j => bt S j = true ∧ ¬ An u q j) 12 else cnt (fun j => bt S j = true ∧ An u q j) 12
theorem wst_sum {u : Nat → Nat} {S : Int32} {q : Nat} : cnt (fun j => bt S j = true) 12 = cnt (fun j => bt S j = true ∧ An u q j) 12 + cnt (fun j => bt S j = true ∧ ¬ An u q j) 12 := by
  rw [← cnt_or 12 (fun j _ ⟨h1, h2⟩ => h2.2 h1.2)]
  refine cnt_cg 12 (fun j _ => ⟨fun h => ?_, fun h => ?_⟩)
  · by_cases c : An u q j
    · exact Or.inl ⟨h, c⟩
    · exact Or.inr ⟨h, c⟩
  · rcases h with h | h
    · exact h.1
    · exact h.1
/-- the best of those before -/
def wBst (u : Nat → Nat) (S : Int32) (i b : Nat) : Prop := b < i ∧ ∀ c, c < i → wst u S b ≤ wst u S c ∧ (wst u S c = wst u S b → b ≤ c)
section WBST
variable {u : Nat → Nat} {S : Int32} {i b b' : Nat}
theorem wBst_t (h : wBst u S i b) (g : wst u S i < wst u S b) : wBst u S (i + 1) i := ⟨by omega, fun c hc => by
  by_cases e : c = i
  · rw [e]
    exact ⟨Nat.le_refl _, fun _ => Nat.le_refl _⟩
  · have := (h.2 c (by omega)).1
    exact ⟨by omega, fun w => by omega⟩⟩
theorem wBst_k (h : wBst u S i b) (g : wst u S b ≤ wst u S i) : wBst u S (i + 1) b := ⟨by have := h.1; omega, fun c hc => by
  by_cases e : c = i
  · rw [e]
    exact ⟨g, fun _ => by have := h.1; omega⟩
  · exact h.2 c (by omega)⟩
theorem wBst_1 : wBst u S 1 0 := ⟨by omega, fun c hc => by
  have : c = 0 := by omega
  rw [this]
  exact ⟨Nat.le_refl _, fun _ => Nat.le_refl _⟩⟩
theorem wBst_u (h : wBst u S i b) (g : wBst u S i b') : b = b' := by
  have a := h.2 b' g.1
  have c := g.2 b h.1
  have e : wst u S b' = wst u S b := by omega
  have := a.2 e
  have := c.2 e.symm
  omega
end WBST
section WATC
variable {N sh x0 td A1 A2 A3 A4 A6 q : Nat} {u l : Nat → Nat} {ℓ FR : Nat → Int32} {s : zS} {xq S p : Int32}
theorem cCmg (hP : zShp N u ℓ FR sh A1 A2 A3 A4 A6 l s) (g6 : (s.2.2 sh 6).getD 0 = A6) (hN : N ≤ 12) (hq : xq.toInt = q) (hq32 : q < 32) : ∀ (n : Nat) (x : Int32) (i : Nat) (y : Int32), x.toInt = i → i ≤ 12 → 12 - i < n → (∀ j, j < 32 → (bt y j = true ↔ ((j < N ∧ An u q j) ∧ j < i))) → ∃ K, F_X6_comingBy_4 sh xq n x y s = (K, s) ∧ ∀ j, j < 32 → (bt K j = true ↔ (j < N ∧ An u q j)) := by
  have h0 := hP.1
  intro n
  induction n with
  | zero => intro x i y _ _ h; exact absurd h (by omega)
  | succ n ih =>
    intro x i y hx hi hm hb
    have nx : x.toNatClampNeg = i := by rw [ztn, hx]; rfl
    rw [F_X6_comingBy_4]
    simp only [zlt, g6, nx]
    by_cases c : i < N
    · rw [if_pos (by omega)]
      have x1 : (x + (1 : Int32)).toInt = (i + 1 : Nat) := zp1 hx (by omega)
      have hh := cHas (x := s.1 A6 i) hq hq32
      have bits := hP.2.1.2.2.1 i c q hq32
      by_cases c2 : bt (s.1 A6 i) q = true
      · rw [hh, if_pos c2, if_neg (by decide)]
        refine ih _ (i + 1) _ x1 (by omega) (by omega) (fun j hj => ?_)
        rw [b_or, bt_bit hx (by omega) hj, Bool.or_eq_true, hb j hj, decide_eq_true_eq]
        constructor
        · rintro (⟨w1, w2⟩ | w)
          · exact ⟨w1, by omega⟩
          · rw [w]
            exact ⟨⟨c, bits.mp c2⟩, by omega⟩
        · rintro ⟨w1, w2⟩
          by_cases e : j = i
          · exact Or.inr e
          · exact Or.inl ⟨w1, by omega⟩
      · rw [hh, if_neg c2, if_pos rfl]
        refine ih _ (i + 1) y x1 (by omega) (by omega) (fun j hj => ?_)
        rw [hb j hj]
        constructor
        · rintro ⟨w1, w2⟩
          exact ⟨w1, by omega⟩
        · rintro ⟨w1, w2⟩
          refine ⟨w1, ?_⟩
          by_cases e : j = i
          · rw [e] at w1
            exact absurd (bits.mpr w1.2) c2
          · omega
    · rw [if_neg (by omega)]
      refine ⟨y, rfl, fun j hj => ?_⟩
      rw [hb j hj]
      exact ⟨fun w => w.1, fun w => ⟨w, by have := w.1; omega⟩⟩
theorem cWst (hP : zShp N u ℓ FR sh A1 A2 A3 A4 A6 l s) (g0 : (s.2.2 x0 3).getD 0 = sh) (g6 : (s.2.2 sh 6).getD 0 = A6) (hN : N ≤ 12) (hS : ∀ j, j < 32 → bt S j = true → j < N) (hq : xq.toInt = q) (hq32 : q < 32) : ∃ z, F_X10_leftAtWorst x0 S xq s = (z, s) ∧ z.toInt = wst u S q := by
  obtain ⟨K, k1, k2⟩ := cCmg hP g6 hN hq hq32 10000 0 0 0 (by decide) (by omega) (by omega) (fun j hj => by
    rw [b_0]
    exact ⟨fun z => absurd z (by decide), fun z => absurd z.2 (by omega)⟩)
  have eK : F_X6_comingBy sh xq s = (K, s) := by
    unfold F_X6_comingBy
    simp only [zlt]
    exact k1
  have big : ∀ y : Int32, ∀ j, 12 ≤ j → j < 32 → bt (S &&& y) j = false := fun y j j1 j2 => by
    rw [b_and]
    cases hc : bt S j with
    | false => rfl
    | true => have := hS j j2 hc; omega
  have a : (F_J6_bitCount_0f7a4 (S &&& K)).toInt = cnt (fun j => bt S j = true ∧ An u q j) 12 := by
    rw [bitC (big K), cnt_cg (Q := fun j => bt S j = true ∧ An u q j) 12 (fun j hj => ?_)]
    rw [b_and, Bool.and_eq_true, k2 j (by omega)]
    exact ⟨fun h => ⟨h.1, h.2.2⟩, fun h => ⟨h.1, hS j (by omega) h.1, h.2⟩⟩
  have b : (F_J6_bitCount_0f7a4 (S &&& ((S &&& K) ^^^ (-1 : Int32)))).toInt = cnt (fun j => bt S j = true ∧ ¬ An u q j) 12 := by
    rw [bitC (big _), cnt_cg (Q := fun j => bt S j = true ∧ ¬ An u q j) 12 (fun j hj => ?_)]
    have kj := k2 j (by omega)
    rw [b_and, b_xor, b_m1 j (by omega), b_and]
    cases h1 : bt S j with
    | false => exact ⟨fun h => absurd h (by simp), fun h => absurd h.1 (by decide)⟩
    | true =>
      cases h2 : bt K j with
      | false => exact ⟨fun _ => ⟨rfl, fun w => by rw [kj.mpr ⟨hS j (by omega) h1, w⟩] at h2; cases h2⟩, fun _ => by simp⟩
      | true => exact ⟨fun h => absurd h (by simp), fun h => absurd (kj.mp h2).2 h.2⟩
  unfold F_X10_leftAtWorst
  simp only [zlt, zlt2, g0, eK]
  refine ⟨_, rfl, ?_⟩
  unfold wst
  by_cases c : cnt (fun j => bt S j = true ∧ An u q j) 12 ≤ cnt (fun j => bt S j = true ∧ ¬ An u q j) 12
  · rw [if_pos (by omega), if_pos c, b]
  · rw [if_neg (by omega), if_neg c, a]
theorem cWat (hP : zShp N u ℓ FR sh A1 A2 A3 A4 A6 l s) (g0 : (s.2.2 x0 3).getD 0 = sh) (g6 : (s.2.2 sh 6).getD 0 = A6) (gt : (s.2.2 x0 10).getD 0 = td) (ht : (s.1 td 0).toInt = N) (hN : N ≤ 12) (hN0 : 0 < N) (hS : ∀ j, j < 32 → bt S j = true → j < N) : ∀ (n : Nat) (x : Int32) (i : Nat) (y : Int32) (b : Nat), x.toInt = i → 1 ≤ i → i ≤ N → N - i < n → y.toInt = b → wBst u S i b → ∃ z b', F_X10_watch_46 S x0 p n x y s = (z, s) ∧ z.toInt = (b' : Nat) ∧ wBst u S N b' := by
  intro n
  induction n with
  | zero => intro x i y b _ _ _ h; exact absurd h (by omega)
  | succ n ih =>
    intro x i y b hx h1 hi hm hy hb
    rw [F_X10_watch_46]
    simp only [zlt, zlt2, gt]
    by_cases c : i < N
    · rw [if_pos (by omega)]
      have bi := hb.1
      obtain ⟨z1, w1, w2⟩ := cWst hP g0 g6 hN hS hx (by omega)
      obtain ⟨z2, w3, w4⟩ := cWst hP g0 g6 hN hS hy (by omega)
      have x1 : (x + (1 : Int32)).toInt = (i + 1 : Nat) := zp1 hx (by omega)
      simp only [w1, w3]
      by_cases d : z1.toInt < z2.toInt
      · rw [if_pos d]
        exact ih _ (i + 1) x i x1 (by omega) (by omega) (by omega) hx (wBst_t hb (by omega))
      · rw [if_neg d]
        exact ih _ (i + 1) y b x1 (by omega) (by omega) (by omega) hy (wBst_k hb (by omega))
    · rw [if_neg (by omega)]
      obtain rfl : i = N := by omega
      exact ⟨y, b, rfl, hy, hb⟩
end WATC
section WATM
variable {L : List Nat} {kd : Nat → Nat} {m0 N q : Nat} {u : Nat → Nat} {FR SR : Nat → Int32} {σ t : zS} {κ : Int} {S p : Int32}
theorem mWat (h : zShM N u FR SR m0 σ t) (hJ : zJ κ L kd σ) (hm : zT L kd m0 11) (hM : zM m0 σ = N) (hN : N ≤ 12) (hS : ∀ j, j < 32 → bt S j = true → j < N) (s0 : ¬ S.toInt = 0) : ∀ (n : Nat) (x : Int32) (i : Nat) (y z : Int32), x.toInt = i → i ≤ N → N - i < n → ((i = 0 ∧ z.toInt < 0) ∨ ∃ b : Nat, z.toInt = b ∧ y.toInt = wst u S b ∧ wBst u S i b) → 0 < N → ∃ v b', F_X11_watch_29 S m0 p n x y z t = (v, t) ∧ v.toInt = (b' : Nat) ∧ wBst u S N b' := by
  have h0 := h.many hJ hm hM
  intro n
  induction n with
  | zero => intro x i y z _ _ h; exact absurd h (by omega)
  | succ n ih =>
    intro x i y z hx hi hm' hb hN0
    have nx : x.toNatClampNeg = i := by rw [ztn, hx]; rfl
    rw [F_X11_watch_29]
    simp only [zlt, h.r 54, nx]
    by_cases c : i < N
    · rw [if_pos (by omega), if_neg s0]
      have x1 : (x + (1 : Int32)).toInt = (i + 1 : Nat) := zp1 hx (by omega)
      have a : (F_X11_bits (S &&& t.1 (mR σ m0 54) i)).toInt = cnt (fun j => bt S j = true ∧ An u i j) 12 := by
        rw [bitM, cnt_cg (Q := fun j => bt S j = true ∧ An u i j) 12 (fun j hj => ?_)]
        rw [b_and, Bool.and_eq_true]
        have := h.2.1 i j c (by omega)
        exact ⟨fun w => ⟨w.1, (this.mp w.2).2⟩, fun w => ⟨w.1, this.mpr ⟨hS j (by omega) w.1, w.2⟩⟩⟩
      have b : (F_X11_bits S).toInt = cnt (fun j => bt S j = true) 12 := bitM
      have sm := wst_sum (u := u) (S := S) (q := i)
      have le := cnt_le (P := fun j => bt S j = true) 12
      have d : (F_X11_bits S - F_X11_bits (S &&& t.1 (mR σ m0 54) i)).toInt = cnt (fun j => bt S j = true ∧ ¬ An u i j) 12 := by
        rw [zb_sub (by omega) (by omega)]
        omega
      have fin : ∀ v : Int32, v.toInt = wst u S i → ∃ v' b', (if z.toInt < 0 then F_X11_watch_29 S m0 p n (x + (1 : Int32)) v x t else if v.toInt < y.toInt then F_X11_watch_29 S m0 p n (x + (1 : Int32)) v x t else F_X11_watch_29 S m0 p n (x + (1 : Int32)) y z t) = (v', t) ∧ v'.toInt = (b' : Nat) ∧ wBst u S N b' := fun v hv => by
        rcases hb with ⟨i0, zn⟩ | ⟨b', hz, hy, hB⟩
        · rw [if_pos zn]
          refine ih _ (i + 1) v x x1 (by omega) (by omega) (Or.inr ⟨i, hx, hv, ?_⟩) hN0
          rw [i0]
          exact wBst_1
        · rw [if_neg (by omega)]
          by_cases g : v.toInt < y.toInt
          · rw [if_pos g]
            exact ih _ (i + 1) v x x1 (by omega) (by omega) (Or.inr ⟨i, hx, hv, wBst_t hB (by omega)⟩) hN0
          · rw [if_neg g]
            exact ih _ (i + 1) y z x1 (by omega) (by omega) (Or.inr ⟨b', hz, hy, wBst_k hB (by omega)⟩) hN0
      by_cases g : cnt (fun j => bt S j = true ∧ An u i j) 12 ≤ cnt (fun j => bt S j = true ∧ ¬ An u i j) 12
      · rw [if_neg (by omega)]
        refine fin _ ?_
        unfold wst
        rw [if_pos g, d]
      · rw [if_pos (by omega)]
        refine fin _ ?_
        unfold wst
        rw [if_neg g, a]
    · rw [if_neg (by omega)]
      obtain rfl : i = N := by omega
      rcases hb with ⟨i0, -⟩ | ⟨b', hz, -, hB⟩
      · omega
      · exact ⟨z, b', rfl, hz, hB⟩
end WATM
section WATB
variable {κ : Int} {L1 : List Nat} {kd1 : Nat → Nat} {L2 : List Nat} {kd2 : Nat → Nat} {σ1 σ2 τ1 τ2 : zS} {m0 x0 : Nat} {Q : Nat → zCo → (Nat → Int32) → Prop} {V : zWh} {ps pc sl rv sh cd : Nat} {v1 v2 p q : Int32}
theorem zRL.watch (hG : zGd Q) (h : zRL Q L1 kd1 x0 m0 V ps pc sl rv sh cd σ1 σ2) (hl : zLen x0 m0 σ1 σ2) (hd : zDy x0 m0 σ1 σ2) (hx : zT L1 kd1 x0 10) (hI : zI κ 0 L1 kd1 σ1) (hJ : zJ κ L2 kd2 σ2) (hm : zT L2 kd2 m0 11) (hg : gN m0 σ2) (f1 : (v1, τ1) = F_X10_watch x0 p σ1) (f2 : (v2, τ2) = F_X11_watch m0 p σ2) : v1.toInt = v2.toInt := by
  have e0 : (0 : Int32).toInt = 0 := by decide
  have a9 : (σ1.1 ((σ1.2.2 x0 5).getD 0) 4).toInt = (σ2.1 m0 62).toInt := by
    obtain ⟨-, -, N, n, u, hn, -⟩ := h
    exact hn.2.2.2.2.2.2.2.2
  unfold F_X10_watch at f1
  unfold F_X11_watch at f2
  simp only [zlt, zlt2, cWithin, mIn, e0] at f1 f2
  rw [a9] at f1
  by_cases cp : 0 ≤ p.toInt ∧ p.toInt ≤ (σ2.1 m0 62).toInt
  · rw [if_neg (fun z => z cp)] at f1 f2
    obtain ⟨N, u, FR, SR, ℓ, l, A1, A2, A3, A4, A6, s, t, S, hs, ⟨⟨n1, n2, -, -⟩, -, -, -, hM⟩, ⟨g0, g6, g5, g10, g11⟩, hP, eL, eM, hS⟩ := h.left hG hl hd hx hI hJ hm hg cp.1 cp.2
    rw [← hs, g0, g5, eL] at f1
    rw [eM] at f2
    simp only at f1 f2
    have hS' : ∀ j, j < 32 → bt S j = true → j < N := fun j hj hb => (hS j hj hb).2.1
    by_cases s0 : S.toInt = 0
    · rw [if_pos s0] at f1
      have r : ∀ n, F_X11_watch_29 S m0 p (n + 1) 0 0 (-2) t = (-2, t) := fun n => by
        rw [F_X11_watch_29]
        simp only [zlt]
        by_cases c : (0 : Int32).toInt < (F_X11_many m0 t).toInt
        · rw [if_pos c, if_pos s0]
        · rw [if_neg c]
      have r' : F_X11_watch_29 S m0 p 10000 0 0 (-2) t = (-2, t) := r 9999
      rw [r'] at f2
      rw [(zPr2 f1).1, (zPr2 f2).1]
    · rw [if_neg s0] at f1
      have hN0 : 0 < N := by
        apply Classical.byContradiction
        intro z
        refine s0 ?_
        rw [show S = 0 from b_ext (fun j hj => by
          rw [b_0]
          cases hc : bt S j with
          | false => rfl
          | true => have := hS' j hj hc; omega)]
        exact e0
      obtain ⟨z, b, w1, w2, w3⟩ := cWat (p := p) hP g0 g6 g10 g11 n1 hN0 hS' 10000 1 1 0 0 (by decide) (by omega) (by omega) (by omega) (by decide) wBst_1
      obtain ⟨z', b', w4, w5, w6⟩ := mWat (p := p) hM hJ hm n2 n1 hS' s0 10000 0 0 0 (-2) (by decide) (by omega) (by omega) (Or.inl ⟨rfl, by decide⟩) hN0
      rw [w1] at f1
      rw [w4] at f2
      rw [(zPr2 f1).1, (zPr2 f2).1, w2, w5, wBst_u w3 w6]
  · rw [if_pos cp] at f1 f2
    rw [(zPr2 f1).1, (zPr2 f2).1]
end WATB
end
-- 35x67.rn2
section
/-! THE RELATION OF THE ROWS OF DYE: as zRN, and what was told of dye is alike -/
def zRO (κ : Int) (L1 : List Nat) (kd1 : Nat → Nat) (L2 : List Nat) (kd2 : Nat → Nat) (x0 m0 : Nat) (σ1 σ2 : zS) : Prop := zRN κ L1 kd1 L2 kd2 x0 m0 σ1 σ2 ∧ zDy x0 m0 σ1 σ2
section RN2
variable {κ k : Int} {L1 : List Nat} {kd1 : Nat → Nat} {L2 : List Nat} {kd2 : Nat → Nat} {σ1 σ2 τ1 τ2 : zS} {Wk Wr Wf Wa : List Nat} {m0 x0 : Nat} {v1 v2 p q r : Int32}
theorem zRO.le (h0 : k ≤ κ) (h : zRO κ L1 kd1 L2 kd2 x0 m0 σ1 σ2) : zRO k L1 kd1 L2 kd2 x0 m0 σ1 σ2 := ⟨h.1.le h0, h.2⟩
theorem zRO.c0 (h : zRO κ L1 kd1 L2 kd2 x0 m0 σ1 σ2) (hx : zT L1 kd1 x0 10) (hI : zI κ 0 L1 kd1 σ1) (g : zSm Wk [] L1 kd1 σ1 τ1) (h1 : ([1, 2, 4, 9, 10, 22, 23, 24, 25, 26, 27, 28, 39, 40, 46].all (fun j => !(Wk.contains j))) = true) : zRO κ L1 kd1 L2 kd2 x0 m0 τ1 σ2 := ⟨h.1.c0 hx hI g (aSub h1 (by rfl)), h.2.c hI hx g (aSub h1 (by rfl)) (by rfl)⟩
theorem zRO.c (h : zRO κ L1 kd1 L2 kd2 x0 m0 σ1 σ2) (hx : zT L1 kd1 x0 10) (hI : zI κ 0 L1 kd1 σ1) (g : zSm Wk Wr L1 kd1 σ1 τ1) (hv : zRz σ1.2.2 τ1) (h1 : ([1, 2, 4, 9, 10, 22, 23, 24, 25, 26, 27, 28, 39, 40, 46].all (fun j => !(Wk.contains j))) = true) (h2 : (Wr.all (fun j => j == 5)) = true) : zRO κ L1 kd1 L2 kd2 x0 m0 τ1 σ2 := ⟨h.1.c hx hI g hv (aSub h1 (by rfl)) h2, h.2.c hI hx g (aSub h1 (by rfl)) h2⟩
theorem zRO.t (h : zRO κ L1 kd1 L2 kd2 x0 m0 σ1 σ2) (hx : zT L1 kd1 x0 10) (hI : zI κ 0 L1 kd1 σ1) (g : zSm Wk Wr L1 kd1 σ1 τ1) (p : ∀ (V : zWh) (ps pc sl rv sh cd : Nat), zLay L1 kd1 x0 σ1.2.2 V ps pc sl → zRv L1 kd1 x0 rv sh cd σ1.2.2 → zPv L1 kd1 V rv σ1 τ1) (h1 : ([2, 4, 9, 10, 25, 26, 27, 28, 39, 40, 46].all (fun j => !(Wk.contains j))) = true) (h2 : (Wr.all (fun j => j == 5)) = true) : zRO κ L1 kd1 L2 kd2 x0 m0 τ1 σ2 := ⟨h.1.t hx hI g p (aSub h1 (by rfl)) h2, h.2.c hI hx g (aSub h1 (by rfl)) h2⟩
theorem zRO.m (h : zRO κ L1 kd1 L2 kd2 x0 m0 σ1 σ2) (hJ : zJ k L2 kd2 σ2) (hm : zT L2 kd2 m0 11) (g : zSame m0 Wf Wa L2 kd2 σ2 τ2) (h1 : ([17, 18, 57, 62].all (fun j => !(Wf.contains j))) = true) (h2 : ([101, 109, 121, 123, 148, 158, 163, 164, 165, 166, 167, 168].all (fun j => !(Wa.contains j))) = true) : zRO κ L1 kd1 L2 kd2 x0 m0 σ1 τ2 := ⟨h.1.m hJ hm g h1 (aSub h2 (by rfl)), h.2.m hJ hm g (aSub h1 (by rfl)) (aSub h2 (by rfl))⟩
theorem zRO.feed {p1 p2 p3 p4 p5 : Int32} (h : zRO κ L1 kd1 L2 kd2 x0 m0 σ1 σ2) (hI1 : zI κ 0 L1 kd1 σ1) (hI2 : zJ κ L2 kd2 σ2) (hx0 : zT L1 kd1 x0 10) (hm0 : zT L2 kd2 m0 11) (f1 : (v1, τ1) = F_X10_feed x0 p1 p2 p3 p4 p5 σ1) (f2 : (v2, τ2) = F_X11_feed m0 p1 p2 p3 p4 p5 σ2) (g1 : zSm [7, 39] [] L1 kd1 σ1 τ1) (g2 : zSame m0 [2] [101] L2 kd2 σ2 τ2) (hk : (k = κ ∧ 2000 < κ + 20) ∨ (k = κ + 20 ∧ κ + 20 ≤ 2000)) : zRO k L1 kd1 L2 kd2 x0 m0 τ1 τ2 := ⟨zRN.feed h.1 hI1 hI2 hx0 hm0 f1 f2 g1 g2 hk, (h.2.c hI1 hx0 g1 (by rfl) (by rfl)).m hI2 hm0 g2 (by rfl) (by rfl)⟩
theorem zRO.read (h : zRO κ L1 kd1 L2 kd2 x0 m0 σ1 σ2) (hI1 : zI κ 0 L1 kd1 σ1) (hI2 : zJ κ L2 kd2 σ2) (hx0 : zT L1 kd1 x0 10) (hm0 : zT L2 kd2 m0 11) (f1 : (v1, τ1) = F_X10_read x0 σ1) (f2 : (v2, τ2) = F_X11_read m0 σ2) (g1 : zSm Wk Wr L1 kd1 σ1 τ1) (g2 : zSame m0 Wf Wa L2 kd2 σ2 τ2) (h1 : Wk.contains 39 = false := by decide) (h2 : Wk.contains 40 = false := by decide) (h3 : Wr.contains 7 = false := by decide) (h4 : Wa.contains 101 = false := by decide) (h5 : Wa.contains 109 = false := by decide) : v1.toInt = v2.toInt ∧ zRO 0 L1 kd1 L2 kd2 x0 m0 τ1 τ2 := by
  obtain ⟨a, b⟩ := zRN.read h.1 hI1 hI2 hx0 hm0 f1 f2 g1 g2 h1 h2 h3 h4 h5
  obtain ⟨V, ps, pc, sl, rv, sh, cd, hR, td, tt, hT⟩ := h.1.1.2
  exact ⟨a, b, zDy.read h.2 h.1.1.1.1 hR.1 hT hI1 hI2 hx0 hm0 f1 f2⟩
theorem zRO.hold (h : zRO κ L1 kd1 L2 kd2 x0 m0 σ1 σ2) (hI : zI κ 0 L1 kd1 σ1) (hJ : zJ κ L2 kd2 σ2) (hx : zT L1 kd1 x0 10) (hm : zT L2 kd2 m0 11) (f1 : (v1, τ1) = F_X10_hold x0 p σ1) (f2 : (v2, τ2) = F_X11_hold m0 p σ2) (g1 : zSm Wk Wr L1 kd1 σ1 τ1) (g2 : zSame m0 Wf Wa L2 kd2 σ2 τ2) (h1 : ([39, 40].all (fun j => !(Wk.contains j))) = true := by decide) (h2 : (Wr.all (fun j => j == 5)) = true := by decide) (h3 : Wf.contains 17 = false := by decide) (h4 : ([101, 109].all (fun j => !(Wa.contains j))) = true := by decide) (h7 : Wr.contains 7 = false := by decide) (k1 : Wk.contains 46 = false := by decide) (k2 : Wf.contains 18 = false := by decide) (k3 : ([121, 123].all (fun j => !(Wa.contains j))) = true := by decide) (k4 : ([25, 26, 27, 28].all (fun j => !(Wk.contains j))) = true := by decide) (k5 : ([18, 62].all (fun j => !(Wf.contains j))) = true := by decide) (k6 : ([121, 163, 164, 165, 166].all (fun j => !(Wa.contains j))) = true := by decide) : v1.toInt = v2.toInt ∧ zRO κ L1 kd1 L2 kd2 x0 m0 τ1 τ2 := by
  obtain ⟨a, b⟩ := zRN.hold h.1 hI hJ hx hm f1 f2 g1 g2 h1 h2 h3 h4 h7 k1 k2 k3
  exact ⟨a, b, (h.2.c hI hx g1 k4 h2).m hJ hm g2 k5 k6⟩
theorem zRO.rule (h : zRO κ L1 kd1 L2 kd2 x0 m0 σ1 σ2) (hI : zI κ 0 L1 kd1 σ1) (hJ : zJ κ L2 kd2 σ2) (hx : zT L1 kd1 x0 10) (hm : zT L2 kd2 m0 11) (f1 : (v1, τ1) = F_X10_rule x0 p σ1) (f2 : (v2, τ2) = F_X11_rule m0 p σ2) (g1 : zSm Wk Wr L1 kd1 σ1 τ1) (g2 : zSame m0 Wf Wa L2 kd2 σ2 τ2) (h1 : ([10, 39, 40].all (fun j => !(Wk.contains j))) = true := by decide) (h2 : (Wr.all (fun j => j == 5)) = true := by decide) (h3 : Wf.contains 17 = false := by decide) (h4 : ([101, 109].all (fun j => !(Wa.contains j))) = true := by decide) (k1 : Wk.contains 46 = false := by decide) (k2 : Wf.contains 18 = false := by decide) (k3 : ([121, 123].all (fun j => !(Wa.contains j))) = true := by decide) (k4 : ([25, 26, 27, 28].all (fun j => !(Wk.contains j))) = true := by decide) (k5 : ([18, 62].all (fun j => !(Wf.contains j))) = true := by decide) (k6 : ([121, 163, 164, 165, 166].all (fun j => !(Wa.contains j))) = true := by decide) : v1.toInt = v2.toInt ∧ zRO κ L1 kd1 L2 kd2 x0 m0 τ1 τ2 := by
  obtain ⟨a, b⟩ := zRN.rule h.1 hI hJ hx hm f1 f2 g1 g2 h1 h2 h3 h4 k1 k2 k3
  exact ⟨a, b, (h.2.c hI hx g1 k4 h2).m hJ hm g2 k5 k6⟩
theorem zRO.dam (h : zRO κ L1 kd1 L2 kd2 x0 m0 σ1 σ2) (hI : zI κ 0 L1 kd1 σ1) (hJ : zJ κ L2 kd2 σ2) (hx : zT L1 kd1 x0 10) (hm : zT L2 kd2 m0 11) (f1 : (v1, τ1) = F_X10_dam x0 p q σ1) (f2 : (v2, τ2) = F_X11_dam m0 p q σ2) (g1 : zSm Wk Wr L1 kd1 σ1 τ1) (g2 : zSame m0 Wf Wa L2 kd2 σ2 τ2) (hq : q.toInt = 0 ∨ q.toInt = 1) (h1 : ([10, 39, 40].all (fun j => !(Wk.contains j))) = true := by decide) (h2 : (Wr.all (fun j => j == 5)) = true := by decide) (h3 : Wf.contains 17 = false := by decide) (h4 : ([101, 109].all (fun j => !(Wa.contains j))) = true := by decide) (k1 : Wk.contains 46 = false := by decide) (k2 : Wf.contains 18 = false := by decide) (k3 : ([121, 123].all (fun j => !(Wa.contains j))) = true := by decide) (k4 : ([25, 26, 27, 28].all (fun j => !(Wk.contains j))) = true := by decide) (k5 : ([18, 62].all (fun j => !(Wf.contains j))) = true := by decide) (k6 : ([121, 163, 164, 165, 166].all (fun j => !(Wa.contains j))) = true := by decide) : v1.toInt = v2.toInt ∧ zRO κ L1 kd1 L2 kd2 x0 m0 τ1 τ2 := by
  obtain ⟨a, b⟩ := zRN.dam h.1 hI hJ hx hm f1 f2 g1 g2 hq h1 h2 h3 h4 k1 k2 k3
  exact ⟨a, b, (h.2.c hI hx g1 k4 h2).m hJ hm g2 k5 k6⟩
theorem zRO.turn (h : zRO κ L1 kd1 L2 kd2 x0 m0 σ1 σ2) (hI : zI κ 0 L1 kd1 σ1) (hJ : zJ κ L2 kd2 σ2) (hx : zT L1 kd1 x0 10) (hm : zT L2 kd2 m0 11) (f1 : (v1, τ1) = F_X10_turn x0 p q σ1) (f2 : (v2, τ2) = F_X11_turn m0 p q σ2) (g1 : zSm Wk Wr L1 kd1 σ1 τ1) (g2 : zSame m0 Wf Wa L2 kd2 σ2 τ2) (hg : gN m0 σ2) (h1 : ([10, 39, 40].all (fun j => !(Wk.contains j))) = true := by decide) (h2 : (Wr.all (fun j => j == 5)) = true := by decide) (h3 : Wf.contains 17 = false := by decide) (h4 : ([101, 109].all (fun j => !(Wa.contains j))) = true := by decide) (k1 : Wk.contains 46 = false := by decide) (k2 : Wf.contains 18 = false := by decide) (k3 : ([121, 123].all (fun j => !(Wa.contains j))) = true := by decide) (k4 : ([25, 26, 27, 28].all (fun j => !(Wk.contains j))) = true := by decide) (k5 : ([18, 62].all (fun j => !(Wf.contains j))) = true := by decide) (k6 : ([121, 163, 164, 165, 166].all (fun j => !(Wa.contains j))) = true := by decide) : v1.toInt = v2.toInt ∧ zRO κ L1 kd1 L2 kd2 x0 m0 τ1 τ2 := by
  obtain ⟨a, b⟩ := zRN.turn h.1 hI hJ hx hm f1 f2 g1 g2 hg h1 h2 h3 h4 k1 k2 k3
  exact ⟨a, b, (h.2.c hI hx g1 k4 h2).m hJ hm g2 k5 k6⟩
theorem zRO.months (h : zRO κ L1 kd1 L2 kd2 x0 m0 σ1 σ2) (hI : zI κ 0 L1 kd1 σ1) (hJ : zJ κ L2 kd2 σ2) (hx : zT L1 kd1 x0 10) (hm : zT L2 kd2 m0 11) (f1 : (v1, τ1) = F_X10_months x0 p σ1) (f2 : (v2, τ2) = F_X11_months m0 p σ2) (g1 : zSm Wk Wr L1 kd1 σ1 τ1) (g2 : zSame m0 Wf Wa L2 kd2 σ2 τ2) (h1 : ([10, 39, 40].all (fun j => !(Wk.contains j))) = true := by decide) (h2 : (Wr.all (fun j => j == 5)) = true := by decide) (h3 : Wf.contains 17 = false := by decide) (h4 : ([101, 109].all (fun j => !(Wa.contains j))) = true := by decide) (k1 : Wk.contains 46 = false := by decide) (k2 : Wf.contains 18 = false := by decide) (k3 : ([121, 123].all (fun j => !(Wa.contains j))) = true := by decide) (k4 : ([25, 26, 27, 28].all (fun j => !(Wk.contains j))) = true := by decide) (k5 : ([18, 62].all (fun j => !(Wf.contains j))) = true := by decide) (k6 : ([121, 163, 164, 165, 166].all (fun j => !(Wa.contains j))) = true := by decide) : v1.toInt = v2.toInt ∧ zRO κ L1 kd1 L2 kd2 x0 m0 τ1 τ2 := by
  obtain ⟨a, b⟩ := zRN.months h.1 hI hJ hx hm f1 f2 g1 g2 h1 h2 h3 h4 k1 k2 k3
  exact ⟨a, b, (h.2.c hI hx g1 k4 h2).m hJ hm g2 k5 k6⟩
theorem zRO.undo (h : zRO κ L1 kd1 L2 kd2 x0 m0 σ1 σ2) (hI : zI κ 0 L1 kd1 σ1) (hJ : zJ κ L2 kd2 σ2) (hx : zT L1 kd1 x0 10) (hm : zT L2 kd2 m0 11) (f1 : (v1, τ1) = F_X10_undo x0 σ1) (f2 : (v2, τ2) = F_X11_undo m0 σ2) (g1 : zSm Wk Wr L1 kd1 σ1 τ1) (g2 : zSame m0 Wf Wa L2 kd2 σ2 τ2) (h1 : ([10, 39, 40].all (fun j => !(Wk.contains j))) = true := by decide) (h2 : (Wr.all (fun j => j == 5)) = true := by decide) (h3 : Wf.contains 17 = false := by decide) (h4 : ([101, 109].all (fun j => !(Wa.contains j))) = true := by decide) (k1 : Wk.contains 46 = false := by decide) (k2 : Wf.contains 18 = false := by decide) (k3 : ([121, 123].all (fun j => !(Wa.contains j))) = true := by decide) (k4 : ([25, 26, 27, 28].all (fun j => !(Wk.contains j))) = true := by decide) (k5 : ([18, 62].all (fun j => !(Wf.contains j))) = true := by decide) (k6 : ([121, 163, 164, 165, 166].all (fun j => !(Wa.contains j))) = true := by decide) : v1.toInt = v2.toInt ∧ zRO κ L1 kd1 L2 kd2 x0 m0 τ1 τ2 := by
  obtain ⟨a, b⟩ := zRN.undo h.1 hI hJ hx hm f1 f2 g1 g2 h1 h2 h3 h4 k1 k2 k3
  exact ⟨a, b, (h.2.c hI hx g1 k4 h2).m hJ hm g2 k5 k6⟩
theorem zRO.restore (h : zRO κ L1 kd1 L2 kd2 x0 m0 σ1 σ2) (hI : zI κ 0 L1 kd1 σ1) (hJ : zJ κ L2 kd2 σ2) (hx : zT L1 kd1 x0 10) (hm : zT L2 kd2 m0 11) (f1 : (v1, τ1) = F_X10_restore x0 p σ1) (f2 : (v2, τ2) = F_X11_restore m0 p σ2) (g1 : zSm Wk Wr L1 kd1 σ1 τ1) (g2 : zSame m0 Wf Wa L2 kd2 σ2 τ2) (h1 : ([10, 39, 40].all (fun j => !(Wk.contains j))) = true := by decide) (h2 : (Wr.all (fun j => j == 5)) = true := by decide) (h3 : Wf.contains 17 = false := by decide) (h4 : ([101, 109].all (fun j => !(Wa.contains j))) = true := by decide) (k1 : Wk.contains 46 = false := by decide) (k2 : Wf.contains 18 = false := by decide) (k3 : ([121, 123].all (fun j => !(Wa.contains j))) = true := by decide) (k4 : ([25, 26, 27, 28].all (fun j => !(Wk.contains j))) = true := by decide) (k5 : ([18, 62].all (fun j => !(Wf.contains j))) = true := by decide) (k6 : ([121, 163, 164, 165, 166].all (fun j => !(Wa.contains j))) = true := by decide) : v1.toInt = v2.toInt ∧ zRO κ L1 kd1 L2 kd2 x0 m0 τ1 τ2 := by
  obtain ⟨a, b⟩ := zRN.restore h.1 hI hJ hx hm f1 f2 g1 g2 h1 h2 h3 h4 k1 k2 k3
  exact ⟨a, b, (h.2.c hI hx g1 k4 h2).m hJ hm g2 k5 k6⟩
theorem zRO.forget (h : zRO κ L1 kd1 L2 kd2 x0 m0 σ1 σ2) (hI : zI κ 0 L1 kd1 σ1) (hJ : zJ κ L2 kd2 σ2) (hx : zT L1 kd1 x0 10) (hm : zT L2 kd2 m0 11) (f1 : (v1, τ1) = F_X10_forget x0 σ1) (f2 : (v2, τ2) = F_X11_forget m0 σ2) (g1 : zSm Wk [] L1 kd1 σ1 τ1) (g2 : zSame m0 Wf Wa L2 kd2 σ2 τ2) (h1 : ([1, 4, 9, 10, 22, 23, 24, 39, 40].all (fun j => !(Wk.contains j))) = true := by decide) (h3 : ([17, 18, 57].all (fun j => !(Wf.contains j))) = true := by decide) (h4 : ([101, 109, 121, 148, 158, 167, 168].all (fun j => !(Wa.contains j))) = true := by decide) (k1 : Wk.contains 46 = false := by decide) (k2 : Wf.contains 18 = false := by decide) (k3 : ([121, 123].all (fun j => !(Wa.contains j))) = true := by decide) : v1.toInt = v2.toInt ∧ zRO κ L1 kd1 L2 kd2 x0 m0 τ1 τ2 := by
  obtain ⟨a, b⟩ := zRN.forget h.1 hI hJ hx hm f1 f2 g1 g2 h1 h3 h4 k1 k2 k3
  exact ⟨a, b, zDy_fg f2⟩
theorem zRO.tell {a b c e : Int32} (h : zRO κ L1 kd1 L2 kd2 x0 m0 σ1 σ2) (hI : zI κ 0 L1 kd1 σ1) (hJ : zJ κ L2 kd2 σ2) (hx : zT L1 kd1 x0 10) (hm : zT L2 kd2 m0 11) (f1 : (v1, τ1) = F_X10_tell x0 a b c e σ1) (f2 : (v2, τ2) = F_X11_tell m0 a b c e σ2) (g1 : zSm Wk [] L1 kd1 σ1 τ1) (g2 : zSame m0 Wf Wa L2 kd2 σ2 τ2) (h1 : ([1, 4, 9, 10, 22, 23, 24, 39, 40].all (fun j => !(Wk.contains j))) = true := by decide) (h3 : ([17, 18, 57].all (fun j => !(Wf.contains j))) = true := by decide) (h4 : ([101, 109, 121, 148, 158, 167, 168].all (fun j => !(Wa.contains j))) = true := by decide) (k1 : Wk.contains 46 = false := by decide) (k2 : Wf.contains 18 = false := by decide) (k3 : ([121, 123].all (fun j => !(Wa.contains j))) = true := by decide) : v1.toInt = v2.toInt ∧ zRO κ L1 kd1 L2 kd2 x0 m0 τ1 τ2 := by
  obtain ⟨a, b⟩ := zRN.tell h.1 hI hJ hx hm f1 f2 g1 g2 h1 h3 h4 k1 k2 k3
  obtain ⟨V, ps, pc, sl, rv, sh, cd, hR, -⟩ := h.1.1.2
  exact ⟨a, b, hR.tellD h.2 hx hI hJ hm f1 f2 g2 k2 (nC k3 (by rfl))⟩
theorem zRO.start {b : Bool} {ks : List Nat} (hS : zSAM 0 L1 kd1 L2 kd2 σ1 σ2) (hk : zKb b ks L1 kd1 σ1) (hx : zT L1 kd1 x0 10) (hJ : zJ 0 L2 kd2 σ2) (hm : zT L2 kd2 m0 11) (h0 : zRf0 m0 σ2) : zRO 0 L1 kd1 L2 kd2 x0 m0 σ1 σ2 := ⟨zRN.start hS hk hx hJ hm h0, zDy_0 (Int32.toInt_inj.mp (h0.2.2.1.trans (by decide)))⟩
theorem zRO.dyed (h : zRO κ L1 kd1 L2 kd2 x0 m0 σ1 σ2) (hI : zI κ 0 L1 kd1 σ1) (hJ : zJ κ L2 kd2 σ2) (hx : zT L1 kd1 x0 10) (hm : zT L2 kd2 m0 11) (hg : gN m0 σ2) (f1 : (v1, τ1) = F_X10_dyed x0 p q σ1) (f2 : (v2, τ2) = F_X11_dyed m0 p q σ2) : v1.toInt = v2.toInt := by
  obtain ⟨V, ps, pc, sl, rv, sh, cd, hR, -⟩ := h.1.1.2
  exact hR.dyed zGd.q0 h.1.2 h.2 hx hI hJ hm hg f1 f2
theorem zRO.watch (h : zRO κ L1 kd1 L2 kd2 x0 m0 σ1 σ2) (hI : zI κ 0 L1 kd1 σ1) (hJ : zJ κ L2 kd2 σ2) (hx : zT L1 kd1 x0 10) (hm : zT L2 kd2 m0 11) (hg : gN m0 σ2) (f1 : (v1, τ1) = F_X10_watch x0 p σ1) (f2 : (v2, τ2) = F_X11_watch m0 p σ2) : v1.toInt = v2.toInt := by
  obtain ⟨V, ps, pc, sl, rv, sh, cd, hR, -⟩ := h.1.1.2
  exact hR.watch zGd.q0 h.1.2 h.2 hx hI hJ hm hg f1 f2
theorem zRN.meet (h : zRN κ L1 kd1 L2 kd2 x0 m0 σ1 σ2) (hI : zI κ 0 L1 kd1 σ1) (hJ : zJ κ L2 kd2 σ2) (hx : zT L1 kd1 x0 10) (hm : zT L2 kd2 m0 11) (hg : gN m0 σ2) (f1 : (v1, τ1) = F_X10_meet x0 p q r σ1) (f2 : (v2, τ2) = F_X11_meet m0 p q r σ2) : v1.toInt = v2.toInt := by
  obtain ⟨V, ps, pc, sl, rv, sh, cd, hR, -⟩ := h.1.2
  exact hR.meet zGd.q0 h.2 hx hI hJ hm hg f1 f2
theorem zRN.order (h : zRN κ L1 kd1 L2 kd2 x0 m0 σ1 σ2) (hI : zI κ 0 L1 kd1 σ1) (hJ : zJ κ L2 kd2 σ2) (hx : zT L1 kd1 x0 10) (hm : zT L2 kd2 m0 11) (hg : gN m0 σ2) (f1 : (v1, τ1) = F_X10_order x0 p σ1) (f2 : (v2, τ2) = F_X11_order m0 p σ2) : v1.toInt = v2.toInt := by
  obtain ⟨V, ps, pc, sl, rv, sh, cd, hR, -⟩ := h.1.2
  exact hR.order zGd.q0 h.2 hx hI hJ hm hg f1 f2
theorem zRN.depth (h : zRN κ L1 kd1 L2 kd2 x0 m0 σ1 σ2) (hI : zI κ 0 L1 kd1 σ1) (hJ : zJ κ L2 kd2 σ2) (hx : zT L1 kd1 x0 10) (hm : zT L2 kd2 m0 11) (hg : gN m0 σ2) (f1 : (v1, τ1) = F_X10_depth x0 σ1) (f2 : (v2, τ2) = F_X11_depth m0 σ2) : v1.toInt = v2.toInt := by
  obtain ⟨V, ps, pc, sl, rv, sh, cd, hR, -⟩ := h.1.2
  exact hR.depth zGd.q0 h.2 hx hI hJ hm hg f1 f2
end RN2
end
-- 35x68.lw1
section
/-! LAWS: the codes that both sides put down -/
abbrev zCs : Type := List (Int × Int)
def zHo (r1 r2 : Nat) (σ : zS) : Nat → zCs → Prop
  | _, [] => True
  | n, c :: L => ((σ.1 r1 n).toInt = c.1 ∧ (σ.1 r2 n).toInt = c.2) ∧ zHo r1 r2 σ (n + 1) L
def zPk (f : Nat → Int32) : List Int → Prop
  | [] => True
  | x :: st => (f st.length).toInt = x ∧ zPk f st
section HOLDS
variable {r1 r2 : Nat} {σ τ : zS}
theorem zHo_app : ∀ (L M : zCs) (n : Nat), zHo r1 r2 σ n (L ++ M) ↔ zHo r1 r2 σ n L ∧ zHo r1 r2 σ (n + L.length) M := by
  intro L
  induction L with
  | nil => intro M n; exact ⟨fun h => ⟨trivial, h⟩, fun h => h.2⟩
  | cons c L ih =>
    intro M n
    have e : n + (c :: L).length = n + 1 + L.length := by rw [List.length_cons]; omega
    rw [e]
    exact ⟨fun h => ⟨⟨h.1, ((ih M (n + 1)).mp h.2).1⟩, ((ih M (n + 1)).mp h.2).2⟩, fun h => ⟨h.1.1, (ih M (n + 1)).mpr ⟨h.1.2, h.2⟩⟩⟩
theorem zHo_cg : ∀ (L : zCs) (n : Nat), (∀ i, n ≤ i → i < n + L.length → τ.1 r1 i = σ.1 r1 i ∧ τ.1 r2 i = σ.1 r2 i) → zHo r1 r2 σ n L → zHo r1 r2 τ n L := by
  intro L
  induction L with
  | nil => intro n _ _; exact trivial
  | cons c L ih =>
    intro n e h
    have e0 := e n (Nat.le_refl _) (by rw [List.length_cons]; omega)
    refine ⟨?_, ih (n + 1) (fun i i1 i2 => e i (by omega) (by rw [List.length_cons]; omega)) h.2⟩
    rw [e0.1, e0.2]
    exact h.1
theorem zHo_1 {n : Nat} {x y : Int} (h1 : (σ.1 r1 n).toInt = x) (h2 : (σ.1 r2 n).toInt = y) : zHo r1 r2 σ n [(x, y)] := ⟨⟨h1, h2⟩, trivial⟩
theorem zPk_cg {f g : Nat → Int32} : ∀ st : List Int, (∀ i, i < st.length → g i = f i) → zPk f st → zPk g st := by
  intro st
  induction st with
  | nil => intro _ _; exact trivial
  | cons x st ih =>
    intro e h
    refine ⟨?_, ih (fun i hi => e i (by rw [List.length_cons]; omega)) h.2⟩
    rw [e st.length (by rw [List.length_cons]; omega)]
    exact h.1
end HOLDS
/-- what a sign is put down as -/
def opc (x : Int) : Int := if x = 8 then 2 else if x = 9 then 3 else if x = 10 then 4 else 5
/-- what comes down from the pile -/
def pl (p : Bool) : List Int → zCs → List Int × zCs
  | [], out => ([], out)
  | x :: st, out => if x = 6 then (x :: st, out) else if p = true ∧ (x = 8 ∨ x = 9) then (x :: st, out) else pl p st (out ++ [(opc x, 0)])
/-- brackets open on the pile -/
def br : List Int → Int
  | [] => 0
  | x :: st => (if x = 6 then 1 else 0) + br st
section PILE
variable {p : Bool}
theorem br_n : ∀ st : List Int, 0 ≤ br st := by
  intro st
  induction st with
  | nil => exact Int.le_refl _
  | cons x st ih =>
    rw [br]
    split <;> omega
theorem pl_br : ∀ (st : List Int) (out : zCs), br (pl p st out).1 = br st := by
  intro st
  induction st with
  | nil => intro out; rfl
  | cons x st ih =>
    intro out
    rw [pl]
    by_cases c : x = 6
    · rw [if_pos c]
    · rw [if_neg c]
      by_cases c2 : p = true ∧ (x = 8 ∨ x = 9)
      · rw [if_pos c2]
      · rw [if_neg c2, ih, br, if_neg c]
        omega
theorem pl_len : ∀ (st : List Int) (out : zCs), (pl p st out).1.length + (pl p st out).2.length = st.length + out.length := by
  intro st
  induction st with
  | nil => intro out; rfl
  | cons x st ih =>
    intro out
    rw [pl]
    by_cases c : x = 6
    · rw [if_pos c]
    · rw [if_neg c]
      by_cases c2 : p = true ∧ (x = 8 ∨ x = 9)
      · rw [if_pos c2]
      · rw [if_neg c2, ih, List.length_append, List.length_cons, List.length_cons, List.length_nil]
        omega
theorem pl_6 : ∀ (st : List Int) (out : zCs), 0 < br st → ∃ st', (pl false st out).1 = 6 :: st' ∧ br st' + 1 = br st := by
  intro st
  induction st with
  | nil => intro out h; exact absurd h (by rw [br]; omega)
  | cons x st ih =>
    intro out h
    rw [pl]
    by_cases c : x = 6
    · rw [if_pos c]
      refine ⟨st, by rw [c], ?_⟩
      rw [br, if_pos c]
      omega
    · rw [br, if_neg c] at h
      rw [if_neg c, if_neg (fun z => absurd z.1 (by decide)), br, if_neg c]
      obtain ⟨st', e1, e2⟩ := ih (out ++ [(opc x, 0)]) (by omega)
      exact ⟨st', e1, by omega⟩
theorem pl_0 : ∀ (st : List Int) (out : zCs), br st = 0 → (pl false st out).1 = [] := by
  intro st
  induction st with
  | nil => intro out _; rfl
  | cons x st ih =>
    intro out h
    have := br_n st
    rw [br] at h
    by_cases c : x = 6
    · rw [if_pos c] at h
      omega
    · rw [if_neg c] at h
      rw [pl, if_neg c, if_neg (fun z => absurd z.1 (by decide))]
      exact ih _ (by omega)
end PILE
/-- what a unit is put down as -/
def aUc (T : zTn) (s : zA) : Int × Int := if T.1 s.2.2.1 = 23 then (0, T.2.2.1 s.2.2.1) else (1, T.1 s.2.2.1 - 13)
/-- the automaton of expressions, with pile and codes -/
def aX (T : zTn) : Nat → Bool → Int → zA → List Int → zCs → zA × zCs
  | 0, _, _, s, _, out => (s, out)
  | n + 1, true, o, s, st, out => if s.1 ≠ 0 then (s, out) else if T.1 s.2.2.1 = 23 ∨ (13 ≤ T.1 s.2.2.1 ∧ T.1 s.2.2.1 < 22) then aX T n false o (aTake T (T.1 s.2.2.1) s) st (out ++ [aUc T s]) else if T.1 s.2.2.1 = 31 ∧ o < 6 then aX T n true (o + 1) (aTake T 31 s) (6 :: st) out else (aFail T (if T.1 s.2.2.1 = 31 then 2 else 1) s, out)
  | n + 1, false, o, s, st, out => if s.1 ≠ 0 then (s, out) else if 26 ≤ T.1 s.2.2.1 ∧ T.1 s.2.2.1 ≤ 29 then aX T n true o (aTake T (T.1 s.2.2.1) s) (zrho (T.1 s.2.2.1) :: (pl (decide (28 ≤ T.1 s.2.2.1)) st out).1) (pl (decide (28 ≤ T.1 s.2.2.1)) st out).2 else if 0 < o then (if T.1 s.2.2.1 = 32 then aX T n false (o - 1) (aTake T 32 s) (pl false st out).1.tail (pl false st out).2 else (aFail T 1 s, out)) else (s, (pl false st out).2)
theorem aX_f {T : zTn} {s : zA} (c : s.1 ≠ 0) : ∀ (n : Nat) (b : Bool) (o : Int) (st : List Int) (out : zCs), aX T n b o s st out = (s, out)
  | 0, _, _, _, _ => rfl
  | _ + 1, true, _, _, _ => if_pos c
  | _ + 1, false, _, _, _ => if_pos c
theorem aX_1 {T : zTn} : ∀ (n : Nat) (b : Bool) (o : Int) (s : zA) (st : List Int) (out : zCs), (aX T n b o s st out).1 = aE T n b o s := by
  intro n
  induction n with
  | zero => intro b o s st out; rfl
  | succ n ih =>
    intro b o s st out
    cases b with
    | true =>
      rw [aX, aE]
      by_cases c : s.1 ≠ 0
      · rw [if_pos c, if_pos c]
      · rw [if_neg c, if_neg c]
        by_cases c1 : T.1 s.2.2.1 = 23 ∨ (13 ≤ T.1 s.2.2.1 ∧ T.1 s.2.2.1 < 22)
        · rw [if_pos c1, if_pos c1, ih]
        · rw [if_neg c1, if_neg c1]
          by_cases c2 : T.1 s.2.2.1 = 31 ∧ o < 6
          · rw [if_pos c2, if_pos c2, ih]
          · rw [if_neg c2, if_neg c2]
    | false =>
      rw [aX, aE]
      by_cases c : s.1 ≠ 0
      · rw [if_pos c, if_pos c]
      · rw [if_neg c, if_neg c]
        by_cases c1 : 26 ≤ T.1 s.2.2.1 ∧ T.1 s.2.2.1 ≤ 29
        · rw [if_pos c1, if_pos c1, ih]
        · rw [if_neg c1, if_neg c1]
          by_cases c2 : 0 < o
          · rw [if_pos c2, if_pos c2]
            by_cases c3 : T.1 s.2.2.1 = 32
            · rw [if_pos c3, if_pos c3, ih]
            · rw [if_neg c3, if_neg c3]
          · rw [if_neg c2, if_neg c2]
theorem aX_st {T : zTn} : ∀ (N N' : Nat) (b : Bool) (o : Int) (s : zA) (st : List Int) (out : zCs), (s.1 = 0 → s.2.2.1 ≤ 400 ∧ 401 < N + s.2.2.1 ∧ 401 < N' + s.2.2.1) → aX T N b o s st out = aX T N' b o s st out := by
  intro N
  induction N with
  | zero =>
    intro N' b o s st out h
    by_cases c : s.1 = 0
    · have := h c
      omega
    · rw [aX_f c, aX_f c]
  | succ n ih =>
    intro N' b o s st out h
    by_cases c : s.1 = 0
    · obtain ⟨h1, h2, h3⟩ := h c
      obtain ⟨n', rfl⟩ : ∃ q, N' = q + 1 := ⟨N' - 1, by omega⟩
      have tk : ∀ (w : Int) (b : Bool) (o : Int) (st : List Int) (out : zCs), aX T n b o (aTake T w s) st out = aX T n' b o (aTake T w s) st out := fun w b o st out => ih n' b o _ st out (fun z => by
        have q := aTake_i z
        have q2 : s.2.2.1 < 400 := by
          unfold aTake at z
          rw [if_neg (zne c), if_neg (zne q.2.1)] at z
          by_cases c2 : 400 ≤ s.2.2.1
          · rw [if_pos c2] at z; exact absurd z (aFail_1 (by decide))
          · omega
        omega)
      cases b with
      | true =>
        rw [aX, aX, tk, tk]
      | false =>
        rw [aX, aX, tk, tk]
    · rw [aX_f c, aX_f c]
/-- the codes of an expression -/
def aCo (T : zTn) (s : zA) : zCs := (aX T 500 true 0 s [] []).2
theorem aCo_e {T : zTn} {s s' : zA} {c : zCs} {e : Nat} (h : ∀ n, aX T (n + e) true 0 s [] [] = (s', c)) (hs : s.1 = 0 → s.2.2.1 ≤ 400) : aSum T s = s' ∧ aCo T s = c := by
  have q := h 500
  have q2 := aX_st (T := T) 500 (500 + e) true 0 s [] [] (fun z => by have := hs z; omega)
  constructor
  · have := aX_1 (T := T) 500 true 0 s [] []
    rw [q2, q] at this
    exact this.symm
  · unfold aCo
    rw [q2, q]
end
-- 35x69.lw2
section
/-! THE REFERENCE PUTS DOWN AN EXPRESSION -/
/-- pile A, codes B, what they bear C -/
def zD3 (a A B C : Nat) (R : Nat → Nat → Option Nat) : Prop := ((R a 43).getD 0 = A ∧ (R a 39).getD 0 = B ∧ (R a 40).getD 0 = C) ∧ (A ≠ a ∧ B ≠ a ∧ C ≠ a) ∧ A ≠ B ∧ A ≠ C ∧ B ≠ C
def zPi (a A B C c0 : Nat) (τ0 τ : zS) (st : List Int) (out : zCs) : Prop := zD3 a A B C τ.2.2 ∧ (τ.1 a 44).toInt = st.length ∧ zPk (τ.1 A) st ∧ (τ.1 a 38).toInt = c0 + out.length ∧ zHo B C τ c0 out ∧ ∀ i, i < c0 → τ.1 B i = τ0.1 B i ∧ τ.1 C i = τ0.1 C i
section RX1
variable {a A B C c0 : Nat} {τ0 τ τ' : zS} {st : List Int} {out : zCs}
theorem zPi.fi (h : zPi a A B C c0 τ0 τ st out) (g : zFi (fun c j => c = a ∧ j ≠ 44 ∧ j ≠ 38) τ τ') : zPi a A B C c0 τ0 τ' st out := by
  obtain ⟨hD, h44, hp, h38, hh, hf⟩ := h
  obtain ⟨g1, g2⟩ := g
  have r : ∀ c j, c ≠ a → τ'.1 c j = τ.1 c j := fun c j n => g2 c j (fun z => n z.1)
  exact ⟨by rw [g1]; exact hD, by rw [g2 a 44 (fun z => z.2.1 rfl)]; exact h44, zPk_cg st (fun i _ => r A i hD.2.1.1) hp, by rw [g2 a 38 (fun z => z.2.2 rfl)]; exact h38, zHo_cg out c0 (fun i _ _ => ⟨r B i hD.2.1.2.1, r C i hD.2.1.2.2⟩) hh, fun i hi => ⟨(r B i hD.2.1.2.1).trans (hf i hi).1, (r C i hD.2.1.2.2).trans (hf i hi).2⟩⟩
theorem pEmit_e (h : zD3 a A B C τ.2.2) (x y : Int32) : F_X11_emit a x y τ = (zu (zu (zu τ.1 B (τ.1 a 38).toNatClampNeg x) C (τ.1 a 38).toNatClampNeg y) a 38 (τ.1 a 38 + (1 : Int32)), τ.2.1, τ.2.2) := by
  obtain ⟨⟨g1, g2, g3⟩, ⟨n1, n2, n3⟩, m1, m2, m3⟩ := h
  have q2 : ¬ a = B := fun z => n2 z.symm
  have q3 : ¬ a = C := fun z => n3 z.symm
  unfold F_X11_emit
  simp only [zlt, g2, g3, zu_n _ _ _ q2, zu_n _ _ _ q3]
theorem pEmit (h : zPi a A B C c0 τ0 τ st out) (hb : c0 + out.length ≤ 4000) (x y : Int32) {x' y' : Int} (hx : x.toInt = x') (hy : y.toInt = y') : zPi a A B C c0 τ0 (F_X11_emit a x y τ) st (out ++ [(x', y')]) := by
  have e1 : (1 : Int32).toInt = 1 := by decide
  obtain ⟨hD, h44, hp, h38, hh, hf⟩ := h
  have n38 : (τ.1 a 38).toNatClampNeg = c0 + out.length := by rw [ztn]; omega
  obtain ⟨-, ⟨n1, n2, n3⟩, m1, m2, m3⟩ := id hD
  have q2 : ¬ a = B := fun z => n2 z.symm
  have q3 : ¬ a = C := fun z => n3 z.symm
  have el : (out ++ [(x', y')]).length = out.length + 1 := by rw [List.length_append]; rfl
  rw [pEmit_e hD, n38]
  refine ⟨hD, ?_, ?_, ?_, (zHo_app _ _ _).mpr ⟨zHo_cg out c0 (fun i i1 i2 => ⟨?_, ?_⟩) hh, zHo_1 ?_ ?_⟩, fun i hi => ⟨Eq.trans ?_ (hf i hi).1, Eq.trans ?_ (hf i hi).2⟩⟩
  · show (zu (zu (zu τ.1 B _ x) C _ y) a 38 _ a 44).toInt = _
    rw [zu_j _ _ _ _ _ (by decide), zu_n _ _ _ q3, zu_n _ _ _ q2]
    exact h44
  · show zPk (zu (zu (zu τ.1 B _ x) C _ y) a 38 _ A) st
    rw [zu_n _ _ _ n1, zu_n _ _ _ m2, zu_n _ _ _ m1]
    exact hp
  · show (zu (zu (zu τ.1 B _ x) C _ y) a 38 _ a 38).toInt = _
    rw [zu_s, zb_add (by rw [e1]; omega) (by rw [e1]; omega), e1, el]
    omega
  · show zu (zu (zu τ.1 B _ x) C _ y) a 38 _ B i = _
    rw [zu_n _ _ _ n2, zu_n _ _ _ m3, zu_j _ _ _ _ _ (by omega)]
  · show zu (zu (zu τ.1 B _ x) C _ y) a 38 _ C i = _
    rw [zu_n _ _ _ n3, zu_j _ _ _ _ _ (by omega), zu_n _ _ _ (fun z => m3 z.symm)]
  · show (zu (zu (zu τ.1 B _ x) C _ y) a 38 _ B _).toInt = _
    rw [zu_n _ _ _ n2, zu_n _ _ _ m3, zu_s]
    exact hx
  · show (zu (zu (zu τ.1 B _ x) C _ y) a 38 _ C _).toInt = _
    rw [zu_n _ _ _ n3, zu_s]
    exact hy
  · show zu (zu (zu τ.1 B _ x) C _ y) a 38 _ B i = _
    rw [zu_n _ _ _ n2, zu_n _ _ _ m3, zu_j _ _ _ _ _ (by omega)]
  · show zu (zu (zu τ.1 B _ x) C _ y) a 38 _ C i = _
    rw [zu_n _ _ _ n3, zu_j _ _ _ _ _ (by omega), zu_n _ _ _ (fun z => m3 z.symm)]
theorem pPush (h : zPi a A B C c0 τ0 τ st out) (hb : st.length ≤ 4000) (x y : Int32) {x' : Int} (hx : x.toInt = x') {i : Nat} (hi : i = (τ.1 a 44).toNatClampNeg) (hy : y = τ.1 a 44 + (1 : Int32)) : zPi a A B C c0 τ0 (zu (zu τ.1 A i x) a 44 y, τ.2.1, τ.2.2) (x' :: st) out := by
  have e1 : (1 : Int32).toInt = 1 := by decide
  obtain ⟨hD, h44, hp, h38, hh, hf⟩ := h
  have n44 : i = st.length := by rw [hi, ztn]; omega
  obtain ⟨-, ⟨n1, n2, n3⟩, m1, m2, m3⟩ := id hD
  refine ⟨hD, ?_, ⟨?_, zPk_cg st (fun j hj => ?_) hp⟩, ?_, zHo_cg out c0 (fun j j1 j2 => ⟨?_, ?_⟩) hh, fun j hj => ⟨Eq.trans ?_ (hf j hj).1, Eq.trans ?_ (hf j hj).2⟩⟩
  · show (zu (zu τ.1 A i x) a 44 y a 44).toInt = _
    rw [zu_s, hy, zb_add (by rw [e1]; omega) (by rw [e1]; omega), e1, h44, List.length_cons]
    omega
  · show (zu (zu τ.1 A i x) a 44 y A st.length).toInt = _
    rw [zu_n _ _ _ n1, n44, zu_s]
    exact hx
  · show zu (zu τ.1 A i x) a 44 y A j = _
    rw [zu_n _ _ _ n1, zu_j _ _ _ _ _ (by omega)]
  · show (zu (zu τ.1 A i x) a 44 y a 38).toInt = _
    rw [zu_j _ _ _ _ _ (by decide), zu_n _ _ _ (fun z => n1 z.symm)]
    exact h38
  · show zu (zu τ.1 A i x) a 44 y B j = _
    rw [zu_n _ _ _ n2, zu_n _ _ _ (fun z => m1 z.symm)]
  · show zu (zu τ.1 A i x) a 44 y C j = _
    rw [zu_n _ _ _ n3, zu_n _ _ _ (fun z => m2 z.symm)]
  · show zu (zu τ.1 A i x) a 44 y B j = _
    rw [zu_n _ _ _ n2, zu_n _ _ _ (fun z => m1 z.symm)]
  · show zu (zu τ.1 A i x) a 44 y C j = _
    rw [zu_n _ _ _ n3, zu_n _ _ _ (fun z => m2 z.symm)]
theorem pPop {x : Int} (h : zPi a A B C c0 τ0 τ (x :: st) out) (hb : st.length ≤ 4000) {y : Int32} (hy : y = τ.1 a 44 - (1 : Int32)) : zPi a A B C c0 τ0 (zu τ.1 a 44 y, τ.2.1, τ.2.2) st out := by
  have e1 : (1 : Int32).toInt = 1 := by decide
  obtain ⟨hD, h44, hp, h38, hh, hf⟩ := h
  rw [List.length_cons] at h44
  obtain ⟨-, ⟨n1, n2, n3⟩, m1, m2, m3⟩ := id hD
  refine ⟨hD, ?_, ?_, ?_, zHo_cg out c0 (fun j j1 j2 => ⟨?_, ?_⟩) hh, fun j hj => ⟨Eq.trans ?_ (hf j hj).1, Eq.trans ?_ (hf j hj).2⟩⟩
  · show (zu τ.1 a 44 y a 44).toInt = _
    rw [zu_s, hy, zb_sub (by rw [e1]; omega) (by rw [e1]; omega), e1, h44]
    omega
  · show zPk (zu τ.1 a 44 y A) st
    rw [zu_n _ _ _ n1]
    exact hp.2
  · show (zu τ.1 a 44 y a 38).toInt = _
    rw [zu_j _ _ _ _ _ (by decide)]
    exact h38
  · show zu τ.1 a 44 y B j = _
    rw [zu_n _ _ _ n2]
  · show zu τ.1 a 44 y C j = _
    rw [zu_n _ _ _ n3]
  · show zu τ.1 a 44 y B j = _
    rw [zu_n _ _ _ n2]
  · show zu τ.1 a 44 y C j = _
    rw [zu_n _ _ _ n3]
theorem pComes0 {p : Int32} {b : Bool} (hpb : b = true ↔ p.toInt ≠ 0) : ∀ (n : Nat) (st : List Int) (out : zCs) (τ : zS), zPi a A B C c0 τ0 τ st out → c0 + out.length + st.length ≤ 4000 → st.length < n → zPi a A B C c0 τ0 (F_X11_comesOut_0 a p n τ) (pl b st out).1 (pl b st out).2 := by
  have e1 : (1 : Int32).toInt = 1 := by decide
  have e6 : (6 : Int32).toInt = 6 := by decide
  have e8 : (8 : Int32).toInt = 8 := by decide
  have e9 : (9 : Int32).toInt = 9 := by decide
  have e10 : (10 : Int32).toInt = 10 := by decide
  intro n
  induction n with
  | zero => intro st out τ _ _ h; exact absurd h (by omega)
  | succ n ih =>
    intro st out τ h hb hn
    have gA := h.1.1.1
    have h44 := h.2.1
    rw [F_X11_comesOut_0]
    simp only [zlt, gA, e6, e8, e9, e10]
    cases st with
    | nil =>
      rw [if_neg (by rw [h44]; decide)]
      exact h
    | cons x st =>
      rw [List.length_cons] at h44 hb hn
      have i1 : (τ.1 a 44 - (1 : Int32)).toInt = st.length := by
        rw [zb_sub (by rw [e1]; omega) (by rw [e1]; omega), e1, h44]
        omega
      have ni : (τ.1 a 44 - (1 : Int32)).toNatClampNeg = st.length := by rw [ztn, i1]; rfl
      have top : (τ.1 A st.length).toInt = x := h.2.2.1.1
      have h2 := pPop h (by omega) rfl
      have el : (out ++ [(opc x, 0)]).length = out.length + 1 := by rw [List.length_append]; rfl
      have em : ∀ u : Int32, u.toInt = opc x → zPi a A B C c0 τ0 (F_X11_comesOut_0 a p n (F_X11_emit a u 0 (zu τ.1 a 44 (τ.1 a 44 - (1 : Int32)), τ.2.1, τ.2.2))) (pl b st (out ++ [(opc x, 0)])).1 (pl b st (out ++ [(opc x, 0)])).2 := fun u hu => ih st _ _ (pEmit h2 (by omega) u 0 hu (by decide)) (by rw [el]; omega) (by omega)
      have fin : zPi a A B C c0 τ0 (if x = 8 then F_X11_comesOut_0 a p n (F_X11_emit a 2 0 (zu τ.1 a 44 (τ.1 a 44 - (1 : Int32)), τ.2.1, τ.2.2)) else if x = 9 then F_X11_comesOut_0 a p n (F_X11_emit a 3 0 (zu τ.1 a 44 (τ.1 a 44 - (1 : Int32)), τ.2.1, τ.2.2)) else if x = 10 then F_X11_comesOut_0 a p n (F_X11_emit a 4 0 (zu τ.1 a 44 (τ.1 a 44 - (1 : Int32)), τ.2.1, τ.2.2)) else F_X11_comesOut_0 a p n (F_X11_emit a 5 0 (zu τ.1 a 44 (τ.1 a 44 - (1 : Int32)), τ.2.1, τ.2.2))) (pl b st (out ++ [(opc x, 0)])).1 (pl b st (out ++ [(opc x, 0)])).2 := by
        by_cases c8 : x = 8
        · rw [if_pos c8]
          exact em 2 (by rw [c8]; decide)
        · rw [if_neg c8]
          by_cases c9 : x = 9
          · rw [if_pos c9]
            exact em 3 (by rw [c9]; decide)
          · rw [if_neg c9]
            by_cases c10 : x = 10
            · rw [if_pos c10]
              exact em 4 (by rw [c10]; decide)
            · rw [if_neg c10]
              exact em 5 (by unfold opc; rw [if_neg c8, if_neg c9, if_neg c10]; decide)
      rw [if_pos (by omega)]
      simp only [ni, top]
      by_cases c6 : x = 6
      · rw [if_pos c6, pl, if_pos c6]
        exact h
      · rw [if_neg c6, pl, if_neg c6]
        by_cases p0 : p.toInt = 0
        · have np : ¬ (b = true ∧ (x = 8 ∨ x = 9)) := fun z => hpb.mp z.1 p0
          rw [if_pos p0, if_neg np]
          exact fin
        · rw [if_neg p0]
          by_cases c8 : x = 8
          · rw [if_pos c8, if_pos ⟨hpb.mpr p0, Or.inl c8⟩]
            exact h
          · by_cases c9 : x = 9
            · rw [if_neg c8, if_pos c9, if_pos ⟨hpb.mpr p0, Or.inr c9⟩]
              exact h
            · rw [if_neg c8, if_neg c9] at fin
              have np : ¬ (b = true ∧ (x = 8 ∨ x = 9)) := fun z => z.2.elim c8 c9
              rw [if_neg np, if_neg c8, if_neg c9, if_neg c8, if_neg c9]
              exact fin
theorem pComes {p : Int32} {b : Bool} (hpb : b = true ↔ p.toInt ≠ 0) (h : zPi a A B C c0 τ0 τ st out) (hb : c0 + out.length + st.length ≤ 4000) : zPi a A B C c0 τ0 (F_X11_comesOut a p τ) (pl b st out).1 (pl b st out).2 := by
  unfold F_X11_comesOut
  exact pComes0 hpb 10000 st out τ h hb (by omega)
end RX1
end
