/-! WHAT A LAW IS WORTH TO THE REFERENCE -/
theorem i32_m2 {x : Int32} {L : Nat} (h : x.toInt = ((L + 1 + 1 : Nat) : Int)) : (x + (-1 : Int32)).toInt = ((L + 1 : Nat) : Int) ∧ (x + (-1 : Int32)).toNatClampNeg = L + 1 ∧ (x + (-1 : Int32) - (1 : Int32)).toNatClampNeg = L := by
  have e1 : (1 : Int32).toInt = 1 := by decide
  have em : (-1 : Int32).toInt = -1 := by decide
  have b := zb_rng x
  have m1 : (x + (-1 : Int32)).toInt = ((L + 1 : Nat) : Int) := by rw [zb_add (by rw [em]; omega) (by rw [em]; omega), em]; omega
  have m2 : (x + (-1 : Int32) - (1 : Int32)).toInt = (L : Int) := by rw [zb_sub (by rw [m1, e1]; omega) (by rw [m1, e1]; omega), m1, e1]; omega
  exact ⟨m1, by rw [ztn, m1]; rfl, by rw [ztn, m2]; rfl⟩
def zMj (j : Nat) : Prop := j = 30 ∨ j = 31 ∨ (33 ≤ j ∧ j ≤ 37) ∨ j = 39 ∨ j = 40 ∨ j = 45 ∨ j = 46
/-- the rows of laws, the facts -/
def zMc (a : Nat) (Y : Nat → Nat) (ft : Nat → Int32) (t0 : zS) : Prop := (∀ j, zMj j → (t0.2.2 a j).getD 0 = Y j ∧ Y j ≠ a ∧ (j ≠ 46 → Y j ≠ Y 46)) ∧ ∀ i, i < 9 → t0.1 (Y 45) i = ft i
/-- where it stands -/
def zMs (Y : Nat → Nat) (t0 : zS) (e i : Nat) (st : List Int32) (n : Nat) (x2 x3 : Int32) (τ : zS) : Prop := x2.toInt = i ∧ e < n + i ∧ x3.toInt = st.length ∧ zSk (τ.1 (Y 46)) st ∧ zFr (fun c _ => c = Y 46) t0 τ
section EVM
variable {a : Nat} {Y : Nat → Nat} {ft : Nat → Int32} {t0 : zS} {p1 p2 : Int32} {e : Nat}
section STEP2
variable {i n : Nat} {st : List Int32} {x2 x3 : Int32} {τ : zS}
theorem zMs_b (M : zMc a Y ft t0) (s : zMs Y t0 e i st n x2 x3 τ) (he : e ≤ 4000) (hi : i < e) : τ.2.2 = t0.2.2 ∧ x2.toNatClampNeg = i ∧ x3.toNatClampNeg = st.length ∧ (∀ j, zMj j → j ≠ 46 → τ.1 (Y j) = t0.1 (Y j)) ∧ (x2 + (1 : Int32)).toInt = ((i + 1 : Nat) : Int) := by
  obtain ⟨h2, hn, h3, hs, g⟩ := s
  exact ⟨g.rf, by rw [ztn, h2]; rfl, by rw [ztn, h3]; rfl, fun j hj n46 => funext (fun c => g.2 _ _ ((M.1 j hj).2.2 n46)), by
    have e1 : (1 : Int32).toInt = 1 := by decide
    rw [zb_add (by rw [e1]; omega) (by rw [e1]; omega), e1, h2]
    rfl⟩
theorem mS_p (M : zMc a Y ft t0) (s : zMs Y t0 e i st (n + 1) x2 x3 τ) (he : e ≤ 4000) (hp : p2.toInt = e) (hi : i < e) (hl : st.length < 4000) (v : Int32) : zMs Y t0 e (i + 1) (v :: st) n (x2 + (1 : Int32)) (x3 + (1 : Int32)) (zu τ.1 (Y 46) st.length v, τ.2.1, t0.2.2) := by
  obtain ⟨r0, w2, w3, rw', q2⟩ := zMs_b M s he hi
  obtain ⟨h2, hn, h3, hs, g⟩ := s
  refine ⟨q2, by omega, by rw [zp1 h3 hl]; rfl, ⟨zu_s _ _ _ _, zSk_cg st (fun j hj => zu_j _ _ _ _ _ (by omega)) hs⟩, ?_⟩
  rw [← r0]
  exact g.w rfl
theorem mS_o {x y : Int32} (M : zMc a Y ft t0) (s : zMs Y t0 e i (y :: x :: st) (n + 1) x2 x3 τ) (he : e ≤ 4000) (hi : i < e) (v : Int32) : zMs Y t0 e (i + 1) (v :: st) n (x2 + (1 : Int32)) (x3 + (-1 : Int32)) (zu τ.1 (Y 46) st.length v, τ.2.1, t0.2.2) := by
  obtain ⟨r0, w2, w3, rw', q2⟩ := zMs_b M s he hi
  obtain ⟨h2, hn, h3, hs, g⟩ := s
  rw [List.length_cons, List.length_cons] at h3
  refine ⟨q2, by omega, ?_, ⟨zu_s _ _ _ _, zSk_cg st (fun j hj => zu_j _ _ _ _ _ (by omega)) hs.2.2⟩, ?_⟩
  · rw [List.length_cons]
    exact (i32_m2 h3).1
  · rw [← r0]
    exact g.w rfl
theorem mS_1 (M : zMc a Y ft t0) (s : zMs Y t0 e i st (n + 1) x2 x3 τ) (he : e ≤ 4000) (hp : p2.toInt = e) (hi : i < e) {c : Int} (hk : (t0.1 (Y 39) i).toInt = c) (hc : c = 0 ∨ c = 1) {v : Nat} (hv : c = 1 → (t0.1 (Y 40) i).toInt = v ∧ v < 9) : F_X11_termOf_5 a p1 p2 (n + 1) x2 x3 τ = F_X11_termOf_5 a p1 p2 n (x2 + (1 : Int32)) (x3 + (1 : Int32)) (zu τ.1 (Y 46) st.length (if c = 0 then t0.1 (Y 40) i else ft v), τ.2.1, t0.2.2) := by
  obtain ⟨r0, w2, w3, rw', q2⟩ := zMs_b M s he hi
  obtain ⟨h2, hn, h3, hs, g⟩ := s
  have g39 := (M.1 39 (by unfold zMj; omega)).1
  have g40 := (M.1 40 (by unfold zMj; omega)).1
  have g45 := (M.1 45 (by unfold zMj; omega)).1
  have g46 := (M.1 46 (by unfold zMj; omega)).1
  have c39 := rw' 39 (by unfold zMj; omega) (by decide)
  have c40 := rw' 40 (by unfold zMj; omega) (by decide)
  have c45 := rw' 45 (by unfold zMj; omega) (by decide)
  have e2 : (2 : Int32).toInt = 2 := by decide
  rw [F_X11_termOf_5]
  simp only [zlt, r0, g39, g40, g45, g46, w2, w3, c39, c40, c45, e2, hk]
  rw [if_pos (by omega), if_pos (by omega)]
  by_cases c0 : c = 0
  · rw [if_pos c0, if_pos c0]
  · rw [if_neg c0, if_neg c0]
    obtain ⟨v1, v2⟩ := hv (by omega)
    have wv : (t0.1 (Y 40) i).toNatClampNeg = v := by rw [ztn, v1]; rfl
    rw [wv, M.2 v v2]
theorem mS_2 {x y : Int32} (M : zMc a Y ft t0) (s : zMs Y t0 e i (y :: x :: st) (n + 1) x2 x3 τ) (he : e ≤ 4000) (hp : p2.toInt = e) (hi : i < e) {c : Int} (hk : (t0.1 (Y 39) i).toInt = c) (h2c : 2 ≤ c) (h5c : c ≤ 5) : F_X11_termOf_5 a p1 p2 (n + 1) x2 x3 τ = if c = 5 ∧ y.toInt = 0 then (0, (zu τ.1 a 47 1, τ.2.1, t0.2.2)) else F_X11_termOf_5 a p1 p2 n (x2 + (1 : Int32)) (x3 + (-1 : Int32)) (zu τ.1 (Y 46) st.length (opv c x y), τ.2.1, t0.2.2) := by
  obtain ⟨r0, w2, w3, rw', q2⟩ := zMs_b M s he hi
  obtain ⟨h2, hn, h3, hs, g⟩ := s
  rw [List.length_cons, List.length_cons] at h3
  obtain ⟨hy, hx, hs'⟩ := hs
  rw [List.length_cons] at hy
  have g39 := (M.1 39 (by unfold zMj; omega)).1
  have g46 := (M.1 46 (by unfold zMj; omega)).1
  have c39 := rw' 39 (by unfold zMj; omega) (by decide)
  have e1 : (1 : Int32).toInt = 1 := by decide
  have e2 : (2 : Int32).toInt = 2 := by decide
  have e3 : (3 : Int32).toInt = 3 := by decide
  have e4 : (4 : Int32).toInt = 4 := by decide
  have e5 : (5 : Int32).toInt = 5 := by decide
  obtain ⟨-, w1, w2'⟩ := i32_m2 h3
  rw [F_X11_termOf_5]
  simp only [zlt, r0, g39, g46, w2, w1, w2', c39, e2, e3, e4, e5, hk, hy, hx]
  rw [if_pos (by omega), if_neg (by omega)]
  unfold opv
  by_cases d5 : c = 5
  · rw [if_pos d5]
    by_cases z : y.toInt = 0
    · rw [if_pos z, if_pos ⟨d5, z⟩]
    · have nz : ¬ (c = 5 ∧ y.toInt = 0) := fun w => z w.2
      rw [if_neg z, if_neg nz]
      have d2 : ¬ c = 2 := by omega
      have d3 : ¬ c = 3 := by omega
      have d4 : ¬ c = 4 := by omega
      rw [if_neg d2, if_neg d3, if_neg d4, if_neg d2, if_neg d3, if_neg d4]
  · have nz : ¬ (c = 5 ∧ y.toInt = 0) := fun w => d5 w.1
    rw [if_neg d5, if_neg nz]
    by_cases d2 : c = 2
    · rw [if_pos d2, if_pos d2]
    · by_cases d3 : c = 3
      · rw [if_neg d2, if_pos d3, if_neg d2, if_pos d3]
      · have d4 : c = 4 := by omega
        rw [if_neg d2, if_neg d3, if_pos d4, if_neg d2, if_neg d3, if_pos d4]
end STEP2
/-- what it answers, or where it stands then -/
def zMt (a : Nat) (Y : Nat → Nat) (p1 p2 : Int32) (t0 : zS) (e i d' : Nat) (w : Option (List Int32)) (G : Int32 × zS) : Prop := (w = none ∧ ∃ τ', G = (0, τ') ∧ zFr (fun c j => c = Y 46 ∨ (c = a ∧ j = 47)) t0 τ' ∧ (τ'.1 a 47).toInt = 1) ∨ ∃ (st' : List Int32) (n : Nat) (x2 x3 : Int32) (τ' : zS), w = some st' ∧ st'.length = d' ∧ G = F_X11_termOf_5 a p1 p2 n x2 x3 τ' ∧ zMs Y t0 e i st' n x2 x3 τ'
theorem mEv (M : zMc a Y ft t0) (he : e ≤ 4000) (hp : p2.toInt = e) : ∀ (L : zCs) (i d' : Nat) (st : List Int32) (n : Nat) (x2 x3 : Int32) (τ : zS), zHo (Y 39) (Y 40) t0 i L → i + L.length ≤ e → zWl L st.length 32 d' → zMs Y t0 e i st n x2 x3 τ → zMt a Y p1 p2 t0 e (i + L.length) d' (evC ft L st) (F_X11_termOf_5 a p1 p2 n x2 x3 τ) := by
  intro L
  induction L with
  | nil => intro i d' st n x2 x3 τ _ _ hw s; exact Or.inr ⟨st, n, x2, x3, τ, rfl, hw, rfl, s⟩
  | cons c L ih =>
    intro i d' st n x2 x3 τ hh hl hw s
    rw [List.length_cons] at hl
    obtain ⟨n, rfl⟩ : ∃ q, n = q + 1 := ⟨n - 1, by have := s.2.1; omega⟩
    obtain ⟨⟨k6, k7⟩, hh'⟩ := hh
    rw [show i + (c :: L).length = i + 1 + L.length by rw [List.length_cons]; omega]
    rcases hw with ⟨h1, h2, h3⟩ | ⟨h1, h2, h3, h4⟩
    · rcases h1 with ⟨c0, v0⟩ | ⟨c1, v0, v9⟩
      · rw [mS_1 M s he hp (by omega) k6 (by omega) (v := 0) (fun z => by omega), if_pos c0, evC_0 c0, ← ofI k7]
        exact ih (i + 1) d' _ n _ _ _ hh' (by omega) h3 (mS_p M s he hp (by omega) (by omega) _)
      · rw [mS_1 M s he hp (by omega) k6 (by omega) (v := c.2.toNat) (fun _ => ⟨by rw [k7]; omega, by omega⟩), if_neg (by omega), evC_1 c1]
        exact ih (i + 1) d' _ n _ _ _ hh' (by omega) h3 (mS_p M s he hp (by omega) (by omega) _)
    · cases st with
      | nil => rw [List.length_nil] at h3; omega
      | cons y st =>
        cases st with
        | nil => rw [List.length_cons, List.length_nil] at h3; omega
        | cons x st =>
          rw [List.length_cons, List.length_cons] at h4
          rw [mS_2 M s he hp (by omega) k6 h1 h2]
          by_cases z : c.1 = 5 ∧ y.toInt = 0
          · rw [if_pos z, evC_z z]
            have na := (M.1 46 (by unfold zMj; omega)).2.1
            obtain ⟨r0, -⟩ := zMs_b M s he (by omega)
            obtain ⟨-, -, -, -, g⟩ := s
            refine Or.inl ⟨rfl, _, rfl, ?_, ?_⟩
            · rw [← r0]
              exact zFr.w (zFr.up g (fun c j w => Or.inl w)) (Or.inr ⟨rfl, rfl⟩)
            · show (zu τ.1 a 47 (1 : Int32) a 47).toInt = 1
              rw [zu_s]
              decide
          · rw [if_neg z, evC_2 h1 z]
            exact ih (i + 1) d' _ n _ _ _ hh' (by omega) (by rw [List.length_cons]; exact h4) (mS_o M s he (by omega) _)
/-- a value worked out -/
theorem mTerm (M : zMc a Y ft t0) {L : zCs} {N cl : Nat} (hS : zSg Y cl t0 N p1 p2 L) (hN : N ≤ 4000) (hw : zWl L 0 15 1) : ∃ τ', F_X11_termOf a p1 p2 t0 = ((vlC ft L).getD 0, τ') ∧ zFr (fun c j => c = Y 46 ∨ (c = a ∧ j = 47)) t0 τ' ∧ (vlC ft L = none → (τ'.1 a 47).toInt = 1) ∧ (vlC ft L ≠ none → τ'.1 a 47 = t0.1 a 47) := by
  obtain ⟨i, h1, h2, h3, h4, -⟩ := hS
  have na := (M.1 46 (by unfold zMj; omega)).2.1
  have g46 := (M.1 46 (by unfold zMj; omega)).1
  have e0 : (0 : Int32).toInt = 0 := by decide
  have w0 : (0 : Int32).toNatClampNeg = 0 := by decide
  unfold F_X11_termOf
  simp only [zlt]
  obtain ⟨e, he⟩ : ∃ e, e = i + L.length := ⟨_, rfl⟩
  have hp : p2.toInt = e := by rw [h2, he]; omega
  rcases mEv (p1 := p1) M (by omega) hp L i 1 [] 10000 p1 0 t0 h3 (by omega) (zWl_up (by omega) _ _ hw) ⟨h1, by omega, e0, trivial, zFr.id⟩ with ⟨e1, τ', e2, e3, e4⟩ | ⟨st', n, x2, x3, τ', e1, e2, e3, s'⟩
  · rcases vlC_1 (ft := ft) hw with ⟨w1, -⟩ | ⟨x, -, w2⟩
    · rw [w1]
      exact ⟨τ', e2, e3, fun _ => e4, fun z => absurd rfl z⟩
    · rw [w2] at e1
      cases e1
  · rcases vlC_1 (ft := ft) hw with ⟨-, w2⟩ | ⟨x, w1, w2⟩
    · rw [w2] at e1
      cases e1
    · rw [w2] at e1
      have f4 : [x] = st' := Option.some.inj e1
      rw [← f4] at s'
      obtain ⟨q2, qn, q3, qs, g⟩ := s'
      obtain ⟨n, rfl⟩ : ∃ q, n = q + 1 := ⟨n - 1, by omega⟩
      rw [e3, w1, F_X11_termOf_5]
      simp only [zlt]
      rw [if_neg (by rw [q2, hp]; omega), w0, g.rf, g46]
      have hx : τ'.1 (Y 46) 0 = x := qs.1
      rw [hx]
      exact ⟨τ', rfl, zFr.up g (fun c j w => Or.inl w), (fun z => by cases z), fun _ => g.2 _ _ (fun z => na z.symm)⟩
end EVM
