/-! codes gone through -/
section EVC
variable {a tt A F A6 A7 K : Nat} {p2 : Int32} {ft : Nat → Int32} {t0 : zS}
theorem cEv (E : zEc a tt A F A6 A7 K ft t0) : ∀ (L : zCs) (i d' : Nat) (st : List Int32) (n k : Nat) (x5 x6 x7 : Int32) (τ : zS), zHo A6 A7 t0 i L → i + L.length ≤ K → zWl L st.length 32 d' → zEw A t0 i st n k x5 x6 x7 τ → zEt a tt A p2 t0 (i + L.length) d' (evC ft L st) (F_X0_answer_13 a tt p2 n x5 x6 x7 τ) := by
  intro L
  induction L with
  | nil => intro i d' st n k x5 x6 x7 τ _ _ hw s; exact Or.inr ⟨st, n, k, x5, x6, x7, τ, rfl, hw, rfl, s⟩
  | cons c L ih =>
    intro i d' st n k x5 x6 x7 τ hh hl hw s
    rw [List.length_cons] at hl
    have hK2 := E.2.2.2.1
    obtain ⟨n, rfl⟩ : ∃ q, n = q + 1 := ⟨n - 1, by have := s.2.2.1; have := s.2.1; omega⟩
    obtain ⟨⟨k6, k7⟩, hh'⟩ := hh
    rw [show i + (c :: L).length = i + 1 + L.length by rw [List.length_cons]; omega]
    rcases hw with ⟨h1, h2, h3⟩ | ⟨h1, h2, h3, h4⟩
    · rcases h1 with ⟨c0, v0⟩ | ⟨c1, v0, v9⟩
      · rw [cS_c E s (by omega) (by rw [k6, c0]) (by rw [k7]; exact v0) h2, evC_0 c0, ← ofI k7]
        exact ih (i + 1) d' _ n (k + 1) _ _ _ _ hh' (by omega) h3 (zEw_p E s (by omega) (by omega) _)
      · rw [cS_f E s (by omega) (by rw [k6, c1]) (v := c.2.toNat) (by rw [k7]; omega) (by omega) h2, evC_1 c1]
        exact ih (i + 1) d' _ n (k + 1) _ _ _ _ hh' (by omega) h3 (zEw_p E s (by omega) (by omega) _)
    · cases st with
      | nil => rw [List.length_nil] at h3; omega
      | cons y st =>
        cases st with
        | nil => rw [List.length_cons, List.length_nil] at h3; omega
        | cons x st =>
          rw [List.length_cons, List.length_cons] at h4
          have go : ∀ v : Int32, zEt a tt A p2 t0 (i + 1 + L.length) d' (evC ft L (v :: st)) (F_X0_answer_13 a tt p2 n (x5 + (1 : Int32)) (x6 + (1 : Int32)) (x7 + (-1 : Int32)) (zu τ.1 A st.length v, τ.2.1, t0.2.2)) := fun v => ih (i + 1) d' (v :: st) n (k + 1) _ _ _ _ hh' (by omega) (by rw [List.length_cons]; exact h4) (zEw_o E s (by omega) v)
          have o : c.1 = 2 ∨ c.1 = 3 ∨ c.1 = 4 ∨ c.1 = 5 := by omega
          rcases o with d2 | d3 | d4 | d5
          · have no : ¬ (c.1 = 5 ∧ y.toInt = 0) := fun w => by omega
            rw [cS_a E s (by omega) (k6.trans d2), evC_2 h1 no, show opv c.1 x y = x + y by unfold opv; rw [if_pos d2]]
            exact go _
          · have no : ¬ (c.1 = 5 ∧ y.toInt = 0) := fun w => by omega
            have d2 : ¬ c.1 = 2 := by omega
            rw [cS_s E s (by omega) (k6.trans d3), evC_2 h1 no, show opv c.1 x y = x - y by unfold opv; rw [if_neg d2, if_pos d3]]
            exact go _
          · have no : ¬ (c.1 = 5 ∧ y.toInt = 0) := fun w => by omega
            have d2 : ¬ c.1 = 2 := by omega
            have d3 : ¬ c.1 = 3 := by omega
            rw [cS_m E s (by omega) (k6.trans d4), evC_2 h1 no, show opv c.1 x y = x * y by unfold opv; rw [if_neg d2, if_neg d3, if_pos d4]]
            exact go _
          · have d2 : ¬ c.1 = 2 := by omega
            have d3 : ¬ c.1 = 3 := by omega
            have d4 : ¬ c.1 = 4 := by omega
            by_cases z : y.toInt = 0
            · rw [cS_z E s (by omega) (k6.trans d5) z, evC_z ⟨d5, z⟩]
              exact Or.inl ⟨rfl, τ, rfl, s.2.2.2.2.2.2⟩
            · have no : ¬ (c.1 = 5 ∧ y.toInt = 0) := fun w => z w.2
              rw [cS_d E s (by omega) (k6.trans d5) z, evC_2 h1 no, show opv c.1 x y = x / y by unfold opv; rw [if_neg d2, if_neg d3, if_neg d4]]
              exact go _
end EVC
/-! WHAT A LAW IS WORTH TO THE CLASS -/
section LAWV
variable {a tt A F A6 A7 K : Nat} {p2 : Int32} {ft : Nat → Int32} {t0 : zS}
theorem vlC_1 {L : zCs} {m : Nat} (h : zWl L 0 m 1) : (vlC ft L = none ∧ evC ft L [] = none) ∨ ∃ x, vlC ft L = some x ∧ evC ft L [] = some [x] := vlC_2 h []
/-- a value, then the answer -/
theorem cVal (E : zEc a tt A F A6 A7 K ft t0) {v : zCs} {i n k : Nat} {x5 x6 x7 : Int32} {τ : zS} (hw : zWl v 0 15 1) (hh : zHo A6 A7 t0 i v) (h7 : (t0.1 A6 (i + v.length)).toInt = 7) (hl : i + v.length + 1 ≤ K) (s : zEw A t0 i [] n k x5 x6 x7 τ) : ∃ τ', F_X0_answer_13 a tt p2 n x5 x6 x7 τ = ((vlC ft v).getD 0, τ') ∧ zFr (fun c _ => c = A) t0 τ' := by
  have hK2 := E.2.2.2.1
  rcases cEv (p2 := p2) E v i 1 [] n k x5 x6 x7 τ hh (by omega) (zWl_up (by omega) _ _ hw) s with ⟨e1, τ', e2, e3⟩ | ⟨st', n', k', y5, y6, y7, τ', e1, e2, e3, s'⟩
  · rcases vlC_1 (ft := ft) hw with ⟨w1, -⟩ | ⟨x, -, w2⟩
    · rw [w1]
      exact ⟨τ', e2, e3⟩
    · rw [w2] at e1
      cases e1
  · rcases vlC_1 (ft := ft) hw with ⟨-, w2⟩ | ⟨x, w1, w2⟩
    · rw [w2] at e1
      cases e1
    · rw [w2] at e1
      have e4 : [x] = st' := Option.some.inj e1
      rw [← e4] at s'
      obtain ⟨n', rfl⟩ : ∃ q, n' = q + 1 := ⟨n' - 1, by have := s'.2.2.1; have := s'.2.1; omega⟩
      rw [e3, w1, cS_7 E s' (by omega) h7]
      exact ⟨τ', rfl, s'.2.2.2.2.2.2⟩
theorem zEw_j {i j n k : Nat} {x y x5 x6 x7 : Int32} {τ : zS} (E : zEc a tt A F A6 A7 K ft t0) (s : zEw A t0 i [y, x] (n + 1) k x5 x6 x7 τ) (hi : i < K) {z : Int32} (hz : z.toInt = j) (hj : i < j) : zEw A t0 j [] n (k + 1) (x5 + (1 : Int32)) z (x7 + (-1 : Int32) + (-1 : Int32)) τ := by
  obtain ⟨r0, t8, w6, c6, c7, w7, q5, q6⟩ := zEw_b E s hi
  obtain ⟨h5, hk5, hn, h6, h7, hs, g⟩ := s
  have h7' : x7.toInt = 2 := h7
  have em : (-1 : Int32).toInt = -1 := by decide
  have m1 : (x7 + (-1 : Int32)).toInt = 1 := by rw [zb_add (by rw [em]; omega) (by rw [em]; omega), em]; omega
  refine ⟨q5, by omega, by omega, hz, ?_, trivial, g⟩
  obtain ⟨y, hy⟩ : ∃ y, y = x7 + (-1 : Int32) := ⟨_, rfl⟩
  rw [← hy] at m1 ⊢
  rw [zb_add (by rw [em, m1]; decide) (by rw [em, m1]; decide), em, m1]
  rfl
theorem cLawV (E : zEc a tt A F A6 A7 K ft t0) : ∀ (B : List zBr) (i n k : Nat) (x5 x6 x7 : Int32) (τ : zS), okB B → zHo A6 A7 t0 i (cBr i B) → i + (cBr i B).length ≤ K → zEw A t0 i [] n k x5 x6 x7 τ → ∃ τ', F_X0_answer_13 a tt p2 n x5 x6 x7 τ = (evB ft B, τ') ∧ zFr (fun c _ => c = A) t0 τ' := by
  have hK2 := E.2.2.2.1
  intro B
  induction B with
  | nil => intro i n k x5 x6 x7 τ h; exact h.elim
  | cons b B ih =>
    intro i n k x5 x6 x7 τ ho hh hl s
    obtain ⟨o, v⟩ := b
    cases o with
    | none =>
      have hh' : zHo A6 A7 t0 i (v ++ [(7, 0)]) := hh
      have hl' : i + (v ++ [((7 : Int), (0 : Int))]).length ≤ K := hl
      rw [List.length_append] at hl'
      have e : [((7 : Int), (0 : Int))].length = 1 := rfl
      rw [e] at hl'
      obtain ⟨h1, h2⟩ := (zHo_app _ _ _).mp hh'
      exact cVal E ho h1 h2.1.1 (by omega) s
    | some lr =>
      obtain ⟨l, r⟩ := lr
      obtain ⟨o1, o2, o3, o4⟩ := ho
      obtain ⟨t, ht⟩ : ∃ t : Nat, t = i + l.length + r.length + v.length + 2 := ⟨_, rfl⟩
      have hh' : zHo A6 A7 t0 i (l ++ (r ++ ((6, (t : Int)) :: (v ++ ((7, 0) :: cBr t B))))) := by rw [ht]; exact hh
      have hl' : i + (l ++ (r ++ ((6, (t : Int)) :: (v ++ ((7, 0) :: cBr t B))))).length ≤ K := by rw [ht]; exact hl
      rw [List.length_append, List.length_append, List.length_cons, List.length_append, List.length_cons] at hl'
      obtain ⟨h1, hh'⟩ := (zHo_app _ _ _).mp hh'
      obtain ⟨h2, h3, hh'⟩ := (zHo_app _ _ _).mp hh'
      obtain ⟨h4, h5, h6⟩ := (zHo_app _ _ _).mp hh'
      have et : i + l.length + r.length + 1 + v.length + 1 = t := by omega
      rw [et] at h6
      rcases cEv (p2 := p2) E l i 1 [] n k x5 x6 x7 τ h1 (by omega) (zWl_up (by omega) _ _ o1) s with ⟨e1, τ', e2, e3⟩ | ⟨st', n', k', y5, y6, y7, τ', e1, e2, e3, s'⟩
      · rcases vlC_1 (ft := ft) o1 with ⟨w1, -⟩ | ⟨x, -, w2⟩
        · refine ⟨τ', ?_, e3⟩
          rw [e2, evB, w1]
        · rw [w2] at e1
          cases e1
      · rcases vlC_1 (ft := ft) o1 with ⟨-, w2⟩ | ⟨x, w1, w2⟩
        · rw [w2] at e1
          cases e1
        · rw [w2] at e1
          have e4 : [x] = st' := Option.some.inj e1
          rw [← e4] at s'
          rw [e3]
          rcases cEv (p2 := p2) E r (i + l.length) 2 [x] n' k' y5 y6 y7 τ' h2 (by omega) (zWl_up (by omega) _ _ (zWl_1 _ _ o2)) s' with ⟨f1, τ2, f2, f3⟩ | ⟨st2, n2, k2, z5, z6, z7, τ2, f1, f2, f3, s2⟩
          · rcases vlC_2 (ft := ft) o2 [x] with ⟨u1, -⟩ | ⟨y, -, u2⟩
            · refine ⟨τ2, ?_, f3⟩
              rw [f2, evB, w1, u1]
            · rw [u2] at f1
              cases f1
          · rcases vlC_2 (ft := ft) o2 [x] with ⟨-, u2⟩ | ⟨y, u1, u2⟩
            · rw [u2] at f1
              cases f1
            · rw [u2] at f1
              have f4 : [y, x] = st2 := Option.some.inj f1
              rw [← f4] at s2
              obtain ⟨n2, rfl⟩ : ∃ q, n2 = q + 1 := ⟨n2 - 1, by have := s2.2.2.1; have := s2.2.1; omega⟩
              have q6 := (zEw_b E s2 (by omega)).2.2.2.2.2.2.2
              rw [f3, evB, w1, u1]
              show ∃ τ', _ = ((if x.toInt < y.toInt then (vlC ft v).getD 0 else evB ft B), τ') ∧ _
              by_cases c : x.toInt < y.toInt
              · rw [if_pos c, cS_6t E s2 (by omega) h3.1 c]
                exact cVal E o3 h4 h5.1 (by omega) (zEw_j E s2 (by omega) q6 (by omega))
              · rw [if_neg c, cS_6j E s2 (by omega) h3.1 c (by rw [q6, h3.2]; omega)]
                exact ih t n2 (k2 + 1) _ _ _ τ2 o4 h6 (by omega) (zEw_j E s2 (by omega) h3.2 (by omega))
end LAWV
