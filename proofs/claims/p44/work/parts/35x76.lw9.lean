/-! THE CLASS WORKS CODES OUT -/
section EVC
variable {a tt A F A6 A7 K : Nat} {p2 : Int32} {ft : Nat → Int32} {t0 : zS}
/-- pile A, facts F, codes A6 A7 of the told tt, K codes in all -/
def zEc (a tt A F A6 A7 K : Nat) (ft : Nat → Int32) (t0 : zS) : Prop := ((t0.2.2 a 1).getD 0 = A ∧ (t0.2.2 a 0).getD 0 = F ∧ (t0.2.2 tt 6).getD 0 = A6 ∧ (t0.2.2 tt 7).getD 0 = A7) ∧ (F ≠ A ∧ A6 ≠ A ∧ A7 ≠ A ∧ tt ≠ A) ∧ (t0.1 tt 8).toInt = K ∧ K ≤ 420 ∧ ∀ i, i < 9 → t0.1 F i = ft i
/-- where it stands: step k, at code i, the pile st -/
def zEw (A : Nat) (t0 : zS) (i : Nat) (st : List Int32) (n k : Nat) (x5 x6 x7 : Int32) (τ : zS) : Prop := x5.toInt = k ∧ k ≤ i ∧ 430 < n + k ∧ x6.toInt = i ∧ x7.toInt = st.length ∧ zSk (τ.1 A) st ∧ zFr (fun c _ => c = A) t0 τ
section STEP
variable {i n k : Nat} {st : List Int32} {x5 x6 x7 : Int32} {τ : zS}
theorem zEw_b (E : zEc a tt A F A6 A7 K ft t0) (s : zEw A t0 i st (n + 1) k x5 x6 x7 τ) (hi : i < K) : τ.2.2 = t0.2.2 ∧ (τ.1 tt 8).toInt = K ∧ x6.toNatClampNeg = i ∧ τ.1 A6 i = t0.1 A6 i ∧ τ.1 A7 i = t0.1 A7 i ∧ x7.toNatClampNeg = st.length ∧ (x5 + (1 : Int32)).toInt = ((k + 1 : Nat) : Int) ∧ (x6 + (1 : Int32)).toInt = ((i + 1 : Nat) : Int) := by
  obtain ⟨-, ⟨nF, n6, n7, nt⟩, hK, hK2, -⟩ := E
  obtain ⟨h5, hk, hn, h6, h7, hs, g⟩ := s
  exact ⟨g.rf, by rw [g.2 tt 8 nt]; exact hK, by rw [ztn, h6]; rfl, g.2 _ _ n6, g.2 _ _ n7, by rw [ztn, h7]; rfl, zp1 h5 (by omega), zp1 h6 (by omega)⟩
/-- what every step tests -/
theorem cPre (E : zEc a tt A F A6 A7 K ft t0) (s : zEw A t0 i st (n + 1) k x5 x6 x7 τ) (hi : i < K) : x5.toInt < 420 ∧ ¬ x6.toInt < 0 ∧ x6.toInt < (K : Int) := by
  obtain ⟨-, -, -, hK2, -⟩ := E
  obtain ⟨h5, hk5, hn, h6, h7, -, -⟩ := s
  exact ⟨by omega, by omega, by omega⟩
theorem cPr2 {x y : Int32} (s : zEw A t0 i (y :: x :: st) (n + 1) k x5 x6 x7 τ) : ¬ x7.toInt < 2 ∧ (x7 + (-1 : Int32)).toNatClampNeg = st.length + 1 ∧ (x7 + (-1 : Int32) - (1 : Int32)).toNatClampNeg = st.length ∧ τ.1 A (st.length + 1) = y ∧ τ.1 A st.length = x := by
  obtain ⟨-, -, -, -, h7', hs, -⟩ := s
  rw [List.length_cons, List.length_cons] at h7'
  obtain ⟨hy, hx, hs'⟩ := hs
  rw [List.length_cons] at hy
  have e1 : (1 : Int32).toInt = 1 := by decide
  have em : (-1 : Int32).toInt = -1 := by decide
  have b := zb_rng x7
  have m1 : (x7 + (-1 : Int32)).toInt = ((st.length + 1 : Nat) : Int) := by rw [zb_add (by rw [em]; omega) (by rw [em]; omega), em]; omega
  have m2 : (x7 + (-1 : Int32) - (1 : Int32)).toInt = (st.length : Int) := by rw [zb_sub (by rw [m1, e1]; omega) (by rw [m1, e1]; omega), m1, e1]; omega
  exact ⟨by omega, by rw [ztn, m1]; rfl, by rw [ztn, m2]; rfl, hy, hx⟩
theorem cS_c (E : zEc a tt A F A6 A7 K ft t0) (s : zEw A t0 i st (n + 1) k x5 x6 x7 τ) (hi : i < K) (hk : (t0.1 A6 i).toInt = 0) (hv : 0 ≤ (t0.1 A7 i).toInt) (hl : st.length < 32) : F_X0_answer_13 a tt p2 (n + 1) x5 x6 x7 τ = F_X0_answer_13 a tt p2 n (x5 + (1 : Int32)) (x6 + (1 : Int32)) (x7 + (1 : Int32)) (zu τ.1 A st.length (t0.1 A7 i), τ.2.1, t0.2.2) := by
  obtain ⟨r0, t8, w6, c6, c7, w7, -, -⟩ := zEw_b E s hi
  obtain ⟨q1, q2, q3⟩ := cPre E s hi
  obtain ⟨⟨gA, gF, g6, g7⟩, -, -, hK2, -⟩ := E
  have q4 : x7.toInt < 32 := by have := s.2.2.2.2.1; omega
  have q5 : ¬ (t0.1 A7 i).toInt < 0 := by omega
  have e1 : (1 : Int32).toInt = 1 := by decide
  have e2 : (2 : Int32).toInt = 2 := by decide
  have e7 : (7 : Int32).toInt = 7 := by decide
  have e9 : (9 : Int32).toInt = 9 := by decide
  have e32 : (32 : Int32).toInt = 32 := by decide
  have e420 : (420 : Int32).toInt = 420 := by decide
  have nk1 : ¬ (0 : Int) = 1 := by decide
  have nk2 : ¬ (0 : Int) = 2 := by decide
  have nk3 : ¬ (0 : Int) = 3 := by decide
  have nk4 : ¬ (0 : Int) = 4 := by decide
  have nk5 : ¬ (0 : Int) = 5 := by decide
  have nk7 : ¬ (0 : Int) = 7 := by decide
  rw [F_X0_answer_13]
  simp only [↓zlt, r0, g6, g7, gA, w6, c6, c7, t8, w7, e7, e32, e1, e420, hk, nk1, nk2, nk3, nk4, nk5, nk7, q1, q2, q3, q4, q5, if_true, if_false]
theorem cS_f (E : zEc a tt A F A6 A7 K ft t0) (s : zEw A t0 i st (n + 1) k x5 x6 x7 τ) (hi : i < K) (hk : (t0.1 A6 i).toInt = 1) {v : Nat} (hv : (t0.1 A7 i).toInt = v) (hv9 : v < 9) (hl : st.length < 32) : F_X0_answer_13 a tt p2 (n + 1) x5 x6 x7 τ = F_X0_answer_13 a tt p2 n (x5 + (1 : Int32)) (x6 + (1 : Int32)) (x7 + (1 : Int32)) (zu τ.1 A st.length (ft v), τ.2.1, t0.2.2) := by
  obtain ⟨r0, t8, w6, c6, c7, w7, -, -⟩ := zEw_b E s hi
  obtain ⟨q1, q2, q3⟩ := cPre E s hi
  have g := s.2.2.2.2.2.2
  obtain ⟨⟨gA, gF, g6, g7⟩, ⟨nF, -⟩, -, hK2, hf⟩ := E
  have q4 : x7.toInt < 32 := by have := s.2.2.2.2.1; omega
  have q5 : ¬ (t0.1 A7 i).toInt < 0 := by omega
  have q6 : (t0.1 A7 i).toInt < 9 := by omega
  have wv : (t0.1 A7 i).toNatClampNeg = v := by rw [ztn, hv]; rfl
  have fv : τ.1 F v = ft v := (g.2 _ _ nF).trans (hf _ hv9)
  have e1 : (1 : Int32).toInt = 1 := by decide
  have e2 : (2 : Int32).toInt = 2 := by decide
  have e7 : (7 : Int32).toInt = 7 := by decide
  have e9 : (9 : Int32).toInt = 9 := by decide
  have e32 : (32 : Int32).toInt = 32 := by decide
  have e420 : (420 : Int32).toInt = 420 := by decide
  have nk0 : ¬ (1 : Int) = 0 := by decide
  have nk2 : ¬ (1 : Int) = 2 := by decide
  have nk3 : ¬ (1 : Int) = 3 := by decide
  have nk4 : ¬ (1 : Int) = 4 := by decide
  have nk5 : ¬ (1 : Int) = 5 := by decide
  have nk7 : ¬ (1 : Int) = 7 := by decide
  rw [F_X0_answer_13]
  simp only [↓zlt, r0, g6, g7, gA, gF, w6, c6, c7, t8, w7, e7, e9, e32, e1, e420, hk, nk0, nk2, nk3, nk4, nk5, nk7, q1, q2, q3, q4, q5, q6, wv, fv, if_true, if_false]
theorem cS_7 {x : Int32} (E : zEc a tt A F A6 A7 K ft t0) (s : zEw A t0 i (x :: st) (n + 1) k x5 x6 x7 τ) (hi : i < K) (hk : (t0.1 A6 i).toInt = 7) : F_X0_answer_13 a tt p2 (n + 1) x5 x6 x7 τ = (x, τ) := by
  obtain ⟨r0, t8, w6, c6, c7, w7, -, -⟩ := zEw_b E s hi
  obtain ⟨q1, q2, q3⟩ := cPre E s hi
  obtain ⟨⟨gA, gF, g6, g7⟩, -, -, hK2, -⟩ := E
  obtain ⟨-, -, -, -, h7, hs, -⟩ := s
  rw [List.length_cons] at h7
  have b := zb_rng x7
  have q4 : 0 < x7.toInt := by omega
  have e1 : (1 : Int32).toInt = 1 := by decide
  have e2 : (2 : Int32).toInt = 2 := by decide
  have e7 : (7 : Int32).toInt = 7 := by decide
  have e9 : (9 : Int32).toInt = 9 := by decide
  have e32 : (32 : Int32).toInt = 32 := by decide
  have e420 : (420 : Int32).toInt = 420 := by decide
  have m1 : (x7 - (1 : Int32)).toInt = (st.length : Int) := by rw [zb_sub (by rw [e1]; omega) (by rw [e1]; omega), e1]; omega
  have w1 : (x7 - (1 : Int32)).toNatClampNeg = st.length := by rw [ztn, m1]; rfl
  have hx : τ.1 A st.length = x := hs.1
  have nk0 : ¬ (7 : Int) = 0 := by decide
  have nk1 : ¬ (7 : Int) = 1 := by decide
  have nk2 : ¬ (7 : Int) = 2 := by decide
  have nk3 : ¬ (7 : Int) = 3 := by decide
  have nk4 : ¬ (7 : Int) = 4 := by decide
  have nk5 : ¬ (7 : Int) = 5 := by decide
  rw [F_X0_answer_13]
  simp only [↓zlt, r0, g6, g7, gA, w6, c6, c7, t8, w1, e7, e1, e420, hk, nk0, nk1, nk2, nk3, nk4, nk5, hx, q1, q2, q3, q4, if_true, if_false]
theorem cS_a {x y : Int32} (E : zEc a tt A F A6 A7 K ft t0) (s : zEw A t0 i (y :: x :: st) (n + 1) k x5 x6 x7 τ) (hi : i < K) (hk : (t0.1 A6 i).toInt = 2) : F_X0_answer_13 a tt p2 (n + 1) x5 x6 x7 τ = F_X0_answer_13 a tt p2 n (x5 + (1 : Int32)) (x6 + (1 : Int32)) (x7 + (-1 : Int32)) (zu τ.1 A st.length (x + y), τ.2.1, t0.2.2) := by
  obtain ⟨r0, t8, w6, c6, c7, w7, -, -⟩ := zEw_b E s hi
  obtain ⟨q1, q2, q3⟩ := cPre E s hi
  obtain ⟨⟨gA, gF, g6, g7⟩, -, -, hK2, -⟩ := E
  obtain ⟨q4, w1, w2, hy, hx⟩ := cPr2 s
  have e1 : (1 : Int32).toInt = 1 := by decide
  have e2 : (2 : Int32).toInt = 2 := by decide
  have e7 : (7 : Int32).toInt = 7 := by decide
  have e9 : (9 : Int32).toInt = 9 := by decide
  have e32 : (32 : Int32).toInt = 32 := by decide
  have e420 : (420 : Int32).toInt = 420 := by decide
  have nk0 : ¬ (2 : Int) = 0 := by decide
  have nk1 : ¬ (2 : Int) = 1 := by decide
  have nk3 : ¬ (2 : Int) = 3 := by decide
  have nk4 : ¬ (2 : Int) = 4 := by decide
  have nk5 : ¬ (2 : Int) = 5 := by decide
  have nk7 : ¬ (2 : Int) = 7 := by decide
  rw [F_X0_answer_13]
  simp only [↓zlt, r0, g6, g7, gA, w6, c6, c7, t8, w1, w2, hy, hx, e7, e1, e2, e420, hk, nk0, nk1, nk3, nk4, nk5, nk7, q1, q2, q3, q4, if_true, if_false]
theorem cS_s {x y : Int32} (E : zEc a tt A F A6 A7 K ft t0) (s : zEw A t0 i (y :: x :: st) (n + 1) k x5 x6 x7 τ) (hi : i < K) (hk : (t0.1 A6 i).toInt = 3) : F_X0_answer_13 a tt p2 (n + 1) x5 x6 x7 τ = F_X0_answer_13 a tt p2 n (x5 + (1 : Int32)) (x6 + (1 : Int32)) (x7 + (-1 : Int32)) (zu τ.1 A st.length (x - y), τ.2.1, t0.2.2) := by
  obtain ⟨r0, t8, w6, c6, c7, w7, -, -⟩ := zEw_b E s hi
  obtain ⟨q1, q2, q3⟩ := cPre E s hi
  obtain ⟨⟨gA, gF, g6, g7⟩, -, -, hK2, -⟩ := E
  obtain ⟨q4, w1, w2, hy, hx⟩ := cPr2 s
  have e1 : (1 : Int32).toInt = 1 := by decide
  have e2 : (2 : Int32).toInt = 2 := by decide
  have e7 : (7 : Int32).toInt = 7 := by decide
  have e9 : (9 : Int32).toInt = 9 := by decide
  have e32 : (32 : Int32).toInt = 32 := by decide
  have e420 : (420 : Int32).toInt = 420 := by decide
  have nk0 : ¬ (3 : Int) = 0 := by decide
  have nk1 : ¬ (3 : Int) = 1 := by decide
  have nk2 : ¬ (3 : Int) = 2 := by decide
  have nk4 : ¬ (3 : Int) = 4 := by decide
  have nk5 : ¬ (3 : Int) = 5 := by decide
  have nk7 : ¬ (3 : Int) = 7 := by decide
  rw [F_X0_answer_13]
  simp only [↓zlt, r0, g6, g7, gA, w6, c6, c7, t8, w1, w2, hy, hx, e7, e1, e2, e420, hk, nk0, nk1, nk2, nk4, nk5, nk7, q1, q2, q3, q4, if_true, if_false]
theorem cS_m {x y : Int32} (E : zEc a tt A F A6 A7 K ft t0) (s : zEw A t0 i (y :: x :: st) (n + 1) k x5 x6 x7 τ) (hi : i < K) (hk : (t0.1 A6 i).toInt = 4) : F_X0_answer_13 a tt p2 (n + 1) x5 x6 x7 τ = F_X0_answer_13 a tt p2 n (x5 + (1 : Int32)) (x6 + (1 : Int32)) (x7 + (-1 : Int32)) (zu τ.1 A st.length (x * y), τ.2.1, t0.2.2) := by
  obtain ⟨r0, t8, w6, c6, c7, w7, -, -⟩ := zEw_b E s hi
  obtain ⟨q1, q2, q3⟩ := cPre E s hi
  obtain ⟨⟨gA, gF, g6, g7⟩, -, -, hK2, -⟩ := E
  obtain ⟨q4, w1, w2, hy, hx⟩ := cPr2 s
  have e1 : (1 : Int32).toInt = 1 := by decide
  have e2 : (2 : Int32).toInt = 2 := by decide
  have e7 : (7 : Int32).toInt = 7 := by decide
  have e9 : (9 : Int32).toInt = 9 := by decide
  have e32 : (32 : Int32).toInt = 32 := by decide
  have e420 : (420 : Int32).toInt = 420 := by decide
  have nk0 : ¬ (4 : Int) = 0 := by decide
  have nk1 : ¬ (4 : Int) = 1 := by decide
  have nk2 : ¬ (4 : Int) = 2 := by decide
  have nk3 : ¬ (4 : Int) = 3 := by decide
  have nk5 : ¬ (4 : Int) = 5 := by decide
  have nk7 : ¬ (4 : Int) = 7 := by decide
  rw [F_X0_answer_13]
  simp only [↓zlt, r0, g6, g7, gA, w6, c6, c7, t8, w1, w2, hy, hx, e7, e1, e2, e420, hk, nk0, nk1, nk2, nk3, nk5, nk7, q1, q2, q3, q4, if_true, if_false]
theorem cS_z {x y : Int32} (E : zEc a tt A F A6 A7 K ft t0) (s : zEw A t0 i (y :: x :: st) (n + 1) k x5 x6 x7 τ) (hi : i < K) (hk : (t0.1 A6 i).toInt = 5) (hz : y.toInt = 0) : F_X0_answer_13 a tt p2 (n + 1) x5 x6 x7 τ = (0, τ) := by
  obtain ⟨r0, t8, w6, c6, c7, w7, -, -⟩ := zEw_b E s hi
  obtain ⟨q1, q2, q3⟩ := cPre E s hi
  obtain ⟨⟨gA, gF, g6, g7⟩, -, -, hK2, -⟩ := E
  obtain ⟨q4, w1, w2, hy, hx⟩ := cPr2 s
  have e1 : (1 : Int32).toInt = 1 := by decide
  have e2 : (2 : Int32).toInt = 2 := by decide
  have e7 : (7 : Int32).toInt = 7 := by decide
  have e9 : (9 : Int32).toInt = 9 := by decide
  have e32 : (32 : Int32).toInt = 32 := by decide
  have e420 : (420 : Int32).toInt = 420 := by decide
  have nk0 : ¬ (5 : Int) = 0 := by decide
  have nk1 : ¬ (5 : Int) = 1 := by decide
  have nk2 : ¬ (5 : Int) = 2 := by decide
  have nk3 : ¬ (5 : Int) = 3 := by decide
  have nk4 : ¬ (5 : Int) = 4 := by decide
  have nk7 : ¬ (5 : Int) = 7 := by decide
  rw [F_X0_answer_13]
  simp only [↓zlt, r0, g6, g7, gA, w6, c6, c7, t8, w1, w2, hy, hx, e7, e1, e2, e420, hk, nk0, nk1, nk2, nk3, nk4, nk7, q1, q2, q3, q4, hz, if_true, if_false]
theorem cS_d {x y : Int32} (E : zEc a tt A F A6 A7 K ft t0) (s : zEw A t0 i (y :: x :: st) (n + 1) k x5 x6 x7 τ) (hi : i < K) (hk : (t0.1 A6 i).toInt = 5) (hz : ¬ y.toInt = 0) : F_X0_answer_13 a tt p2 (n + 1) x5 x6 x7 τ = F_X0_answer_13 a tt p2 n (x5 + (1 : Int32)) (x6 + (1 : Int32)) (x7 + (-1 : Int32)) (zu τ.1 A st.length (x / y), τ.2.1, t0.2.2) := by
  obtain ⟨r0, t8, w6, c6, c7, w7, -, -⟩ := zEw_b E s hi
  obtain ⟨q1, q2, q3⟩ := cPre E s hi
  obtain ⟨⟨gA, gF, g6, g7⟩, -, -, hK2, -⟩ := E
  obtain ⟨q4, w1, w2, hy, hx⟩ := cPr2 s
  have e1 : (1 : Int32).toInt = 1 := by decide
  have e2 : (2 : Int32).toInt = 2 := by decide
  have e7 : (7 : Int32).toInt = 7 := by decide
  have e9 : (9 : Int32).toInt = 9 := by decide
  have e32 : (32 : Int32).toInt = 32 := by decide
  have e420 : (420 : Int32).toInt = 420 := by decide
  have nk0 : ¬ (5 : Int) = 0 := by decide
  have nk1 : ¬ (5 : Int) = 1 := by decide
  have nk2 : ¬ (5 : Int) = 2 := by decide
  have nk3 : ¬ (5 : Int) = 3 := by decide
  have nk4 : ¬ (5 : Int) = 4 := by decide
  have nk7 : ¬ (5 : Int) = 7 := by decide
  rw [F_X0_answer_13]
  simp only [↓zlt, r0, g6, g7, gA, w6, c6, c7, t8, w1, w2, hy, hx, e7, e1, e2, e420, hk, nk0, nk1, nk2, nk3, nk4, nk7, q1, q2, q3, q4, hz, if_true, if_false]
theorem cS_6t {x y : Int32} (E : zEc a tt A F A6 A7 K ft t0) (s : zEw A t0 i (y :: x :: st) (n + 1) k x5 x6 x7 τ) (hi : i < K) (hk : (t0.1 A6 i).toInt = 6) (hz : x.toInt < y.toInt) : F_X0_answer_13 a tt p2 (n + 1) x5 x6 x7 τ = F_X0_answer_13 a tt p2 n (x5 + (1 : Int32)) (x6 + (1 : Int32)) (x7 + (-1 : Int32) + (-1 : Int32)) τ := by
  obtain ⟨r0, t8, w6, c6, c7, w7, -, -⟩ := zEw_b E s hi
  obtain ⟨q1, q2, q3⟩ := cPre E s hi
  obtain ⟨⟨gA, gF, g6, g7⟩, -, -, hK2, -⟩ := E
  obtain ⟨q4, w1, w2, hy, hx⟩ := cPr2 s
  have e1 : (1 : Int32).toInt = 1 := by decide
  have e2 : (2 : Int32).toInt = 2 := by decide
  have e7 : (7 : Int32).toInt = 7 := by decide
  have e9 : (9 : Int32).toInt = 9 := by decide
  have e32 : (32 : Int32).toInt = 32 := by decide
  have e420 : (420 : Int32).toInt = 420 := by decide
  have nk0 : ¬ (6 : Int) = 0 := by decide
  have nk1 : ¬ (6 : Int) = 1 := by decide
  have nk2 : ¬ (6 : Int) = 2 := by decide
  have nk3 : ¬ (6 : Int) = 3 := by decide
  have nk4 : ¬ (6 : Int) = 4 := by decide
  have nk5 : ¬ (6 : Int) = 5 := by decide
  have nk7 : ¬ (6 : Int) = 7 := by decide
  rw [F_X0_answer_13]
  simp only [↓zlt, r0, g6, g7, gA, w6, c6, c7, t8, w1, w2, hy, hx, e7, e1, e2, e420, hk, nk0, nk1, nk2, nk3, nk4, nk5, nk7, q1, q2, q3, q4, hz, if_true, if_false]
theorem cS_6j {x y : Int32} (E : zEc a tt A F A6 A7 K ft t0) (s : zEw A t0 i (y :: x :: st) (n + 1) k x5 x6 x7 τ) (hi : i < K) (hk : (t0.1 A6 i).toInt = 6) (hz : ¬ x.toInt < y.toInt) (hj : (x6 + (1 : Int32)).toInt < (t0.1 A7 i).toInt) : F_X0_answer_13 a tt p2 (n + 1) x5 x6 x7 τ = F_X0_answer_13 a tt p2 n (x5 + (1 : Int32)) (t0.1 A7 i) (x7 + (-1 : Int32) + (-1 : Int32)) τ := by
  obtain ⟨r0, t8, w6, c6, c7, w7, -, -⟩ := zEw_b E s hi
  obtain ⟨q1, q2, q3⟩ := cPre E s hi
  obtain ⟨⟨gA, gF, g6, g7⟩, -, -, hK2, -⟩ := E
  obtain ⟨q4, w1, w2, hy, hx⟩ := cPr2 s
  have e1 : (1 : Int32).toInt = 1 := by decide
  have e2 : (2 : Int32).toInt = 2 := by decide
  have e7 : (7 : Int32).toInt = 7 := by decide
  have e9 : (9 : Int32).toInt = 9 := by decide
  have e32 : (32 : Int32).toInt = 32 := by decide
  have e420 : (420 : Int32).toInt = 420 := by decide
  have nk0 : ¬ (6 : Int) = 0 := by decide
  have nk1 : ¬ (6 : Int) = 1 := by decide
  have nk2 : ¬ (6 : Int) = 2 := by decide
  have nk3 : ¬ (6 : Int) = 3 := by decide
  have nk4 : ¬ (6 : Int) = 4 := by decide
  have nk5 : ¬ (6 : Int) = 5 := by decide
  have nk7 : ¬ (6 : Int) = 7 := by decide
  rw [F_X0_answer_13]
  simp only [↓zlt, r0, g6, g7, gA, w6, c6, c7, t8, w1, w2, hy, hx, e7, e1, e2, e420, hk, nk0, nk1, nk2, nk3, nk4, nk5, nk7, q1, q2, q3, q4, hz, hj, if_true, if_false]
end STEP
/-- what it answers, or where it stands then -/
def zEt (a tt A : Nat) (p2 : Int32) (t0 : zS) (i d' : Nat) (w : Option (List Int32)) (G : Int32 × zS) : Prop := (w = none ∧ ∃ τ', G = (0, τ') ∧ zFr (fun c _ => c = A) t0 τ') ∨ ∃ (st' : List Int32) (n k : Nat) (x5 x6 x7 : Int32) (τ' : zS), w = some st' ∧ st'.length = d' ∧ G = F_X0_answer_13 a tt p2 n x5 x6 x7 τ' ∧ zEw A t0 i st' n k x5 x6 x7 τ'
theorem zEw_p {i n k : Nat} {st : List Int32} {x5 x6 x7 : Int32} {τ : zS} (E : zEc a tt A F A6 A7 K ft t0) (s : zEw A t0 i st (n + 1) k x5 x6 x7 τ) (hi : i < K) (hl : st.length < 4000) (v : Int32) : zEw A t0 (i + 1) (v :: st) n (k + 1) (x5 + (1 : Int32)) (x6 + (1 : Int32)) (x7 + (1 : Int32)) (zu τ.1 A st.length v, τ.2.1, t0.2.2) := by
  obtain ⟨r0, t8, w6, c6, c7, w7, q5, q6⟩ := zEw_b E s hi
  obtain ⟨h5, hk5, hn, h6, h7, hs, g⟩ := s
  refine ⟨q5, by omega, by omega, q6, zp1 h7 hl, ⟨zu_s _ _ _ _, zSk_cg st (fun j hj => zu_j _ _ _ _ _ (by omega)) hs⟩, ?_⟩
  rw [← r0]
  exact g.w rfl
theorem zEw_o {i n k : Nat} {st : List Int32} {x y x5 x6 x7 : Int32} {τ : zS} (E : zEc a tt A F A6 A7 K ft t0) (s : zEw A t0 i (y :: x :: st) (n + 1) k x5 x6 x7 τ) (hi : i < K) (v : Int32) : zEw A t0 (i + 1) (v :: st) n (k + 1) (x5 + (1 : Int32)) (x6 + (1 : Int32)) (x7 + (-1 : Int32)) (zu τ.1 A st.length v, τ.2.1, t0.2.2) := by
  obtain ⟨r0, t8, w6, c6, c7, w7, q5, q6⟩ := zEw_b E s hi
  obtain ⟨h5, hk5, hn, h6, h7, hs, g⟩ := s
  rw [List.length_cons, List.length_cons] at h7
  have em : (-1 : Int32).toInt = -1 := by decide
  have b := zb_rng x7
  refine ⟨q5, by omega, by omega, q6, ?_, ⟨zu_s _ _ _ _, zSk_cg st (fun j hj => zu_j _ _ _ _ _ (by omega)) hs.2.2⟩, ?_⟩
  · rw [zb_add (by rw [em]; omega) (by rw [em]; omega), em, List.length_cons]
    omega
  · rw [← r0]
    exact g.w rfl
end EVC
