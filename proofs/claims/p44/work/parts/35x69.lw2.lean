/-! THE REFERENCE PUTS DOWN AN EXPRESSION -/
/-- pile A, codes B, what they bear C -/
def zD3 (a A B C : Nat) (R : Nat → Nat → Option Nat) : Prop := ((R a 43).getD 0 = A ∧ (R a 39).getD 0 = B ∧ (R a 40).getD 0 = C) ∧ (A ≠ a ∧ B ≠ a ∧ C ≠ a) ∧ A ≠ B ∧ A ≠ C ∧ B ≠ C
def zPi (a A B C c0 : Nat) (τ0 τ : zS) (st : List Int) (out : zCs) : Prop := zD3 a A B C τ.2.2 ∧ (τ.1 a 44).toInt = st.length ∧ zPk (τ.1 A) st ∧ (τ.1 a 38).toInt = c0 + out.length ∧ zHo B C τ c0 out ∧ ∀ i, i < c0 → τ.1 B i = τ0.1 B i ∧ τ.1 C i = τ0.1 C i
section RX1
variable {a A B C c0 : Nat} {τ0 τ τ' : zS} {st : List Int} {out : zCs}
theorem zPi.fi (h : zPi a A B C c0 τ0 τ st out) (g : zFi (fun c j => c = a ∧ j ≠ 44 ∧ j ≠ 38) τ τ') : zPi a A B C c0 τ0 τ' st out := by
  obtain ⟨hD, h44, hp, h38, hh, hf⟩ := h
  obtain ⟨g1, g2⟩ := g
  have r : ∀ c j, c ≠ a → τ'.1 c j = τ.1 c j := fun c j n => g2 c j (fun z => n z.1)
  exact ⟨by rw [g1]; exact hD, by rw [g2 a 44 (fun z => z.2.1 rfl)]; exact h44, zPk_cg st (fun i _ => r A i hD.2.1.1) hp, by rw [g2 a 38 (fun z => z.2.2 rfl)]; exact h38, zHo_cg out c0 (fun i _ _ => ⟨r B i hD.2.1.2.1, r C i hD.2.1.2.2⟩) hh, fun i hi => ⟨(r B i hD.2.1.2.1).trans (hf i hi).1, (r C i hD.2.1.2.2).trans (hf i hi).2⟩⟩
theorem pEmit_e (h : zD3 a A B C τ.2.2) (x y : Int32) : F_X11_emit a x y τ = (zu (zu (zu τ.1 B (τ.1 a 38).toNatClampNeg x) C (τ.1 a 38).toNatClampNeg y) a 38 (τ.1 a 38 + (1 : Int32)), τ.2.1, τ.2.2) := by
  obtain ⟨⟨g1, g2, g3⟩, ⟨n1, n2, n3⟩, m1, m2, m3⟩ := h
  have q2 : ¬ a = B := fun z => n2 z.symm
  have q3 : ¬ a = C := fun z => n3 z.symm
  unfold F_X11_emit
  simp only [zlt, g2, g3, zu_n _ _ _ q2, zu_n _ _ _ q3]
theorem pEmit (h : zPi a A B C c0 τ0 τ st out) (hb : c0 + out.length ≤ 4000) (x y : Int32) {x' y' : Int} (hx : x.toInt = x') (hy : y.toInt = y') : zPi a A B C c0 τ0 (F_X11_emit a x y τ) st (out ++ [(x', y')]) := by
  have e1 : (1 : Int32).toInt = 1 := by decide
  obtain ⟨hD, h44, hp, h38, hh, hf⟩ := h
  have n38 : (τ.1 a 38).toNatClampNeg = c0 + out.length := by rw [ztn]; omega
  obtain ⟨-, ⟨n1, n2, n3⟩, m1, m2, m3⟩ := id hD
  have q2 : ¬ a = B := fun z => n2 z.symm
  have q3 : ¬ a = C := fun z => n3 z.symm
  have el : (out ++ [(x', y')]).length = out.length + 1 := by rw [List.length_append]; rfl
  rw [pEmit_e hD, n38]
  refine ⟨hD, ?_, ?_, ?_, (zHo_app _ _ _).mpr ⟨zHo_cg out c0 (fun i i1 i2 => ⟨?_, ?_⟩) hh, zHo_1 ?_ ?_⟩, fun i hi => ⟨Eq.trans ?_ (hf i hi).1, Eq.trans ?_ (hf i hi).2⟩⟩
  · show (zu (zu (zu τ.1 B _ x) C _ y) a 38 _ a 44).toInt = _
    rw [zu_j _ _ _ _ _ (by decide), zu_n _ _ _ q3, zu_n _ _ _ q2]
    exact h44
  · show zPk (zu (zu (zu τ.1 B _ x) C _ y) a 38 _ A) st
    rw [zu_n _ _ _ n1, zu_n _ _ _ m2, zu_n _ _ _ m1]
    exact hp
  · show (zu (zu (zu τ.1 B _ x) C _ y) a 38 _ a 38).toInt = _
    rw [zu_s, zb_add (by rw [e1]; omega) (by rw [e1]; omega), e1, el]
    omega
  · show zu (zu (zu τ.1 B _ x) C _ y) a 38 _ B i = _
    rw [zu_n _ _ _ n2, zu_n _ _ _ m3, zu_j _ _ _ _ _ (by omega)]
  · show zu (zu (zu τ.1 B _ x) C _ y) a 38 _ C i = _
    rw [zu_n _ _ _ n3, zu_j _ _ _ _ _ (by omega), zu_n _ _ _ (fun z => m3 z.symm)]
  · show (zu (zu (zu τ.1 B _ x) C _ y) a 38 _ B _).toInt = _
    rw [zu_n _ _ _ n2, zu_n _ _ _ m3, zu_s]
    exact hx
  · show (zu (zu (zu τ.1 B _ x) C _ y) a 38 _ C _).toInt = _
    rw [zu_n _ _ _ n3, zu_s]
    exact hy
  · show zu (zu (zu τ.1 B _ x) C _ y) a 38 _ B i = _
    rw [zu_n _ _ _ n2, zu_n _ _ _ m3, zu_j _ _ _ _ _ (by omega)]
  · show zu (zu (zu τ.1 B _ x) C _ y) a 38 _ C i = _
    rw [zu_n _ _ _ n3, zu_j _ _ _ _ _ (by omega), zu_n _ _ _ (fun z => m3 z.symm)]
theorem pPush (h : zPi a A B C c0 τ0 τ st out) (hb : st.length ≤ 4000) (x y : Int32) {x' : Int} (hx : x.toInt = x') {i : Nat} (hi : i = (τ.1 a 44).toNatClampNeg) (hy : y = τ.1 a 44 + (1 : Int32)) : zPi a A B C c0 τ0 (zu (zu τ.1 A i x) a 44 y, τ.2.1, τ.2.2) (x' :: st) out := by
  have e1 : (1 : Int32).toInt = 1 := by decide
  obtain ⟨hD, h44, hp, h38, hh, hf⟩ := h
  have n44 : i = st.length := by rw [hi, ztn]; omega
  obtain ⟨-, ⟨n1, n2, n3⟩, m1, m2, m3⟩ := id hD
  refine ⟨hD, ?_, ⟨?_, zPk_cg st (fun j hj => ?_) hp⟩, ?_, zHo_cg out c0 (fun j j1 j2 => ⟨?_, ?_⟩) hh, fun j hj => ⟨Eq.trans ?_ (hf j hj).1, Eq.trans ?_ (hf j hj).2⟩⟩
  · show (zu (zu τ.1 A i x) a 44 y a 44).toInt = _
    rw [zu_s, hy, zb_add (by rw [e1]; omega) (by rw [e1]; omega), e1, h44, List.length_cons]
    omega
  · show (zu (zu τ.1 A i x) a 44 y A st.length).toInt = _
    rw [zu_n _ _ _ n1, n44, zu_s]
    exact hx
  · show zu (zu τ.1 A i x) a 44 y A j = _
    rw [zu_n _ _ _ n1, zu_j _ _ _ _ _ (by omega)]
  · show (zu (zu τ.1 A i x) a 44 y a 38).toInt = _
    rw [zu_j _ _ _ _ _ (by decide), zu_n _ _ _ (fun z => n1 z.symm)]
    exact h38
  · show zu (zu τ.1 A i x) a 44 y B j = _
    rw [zu_n _ _ _ n2, zu_n _ _ _ (fun z => m1 z.symm)]
  · show zu (zu τ.1 A i x) a 44 y C j = _
    rw [zu_n _ _ _ n3, zu_n _ _ _ (fun z => m2 z.symm)]
  · show zu (zu τ.1 A i x) a 44 y B j = _
    rw [zu_n _ _ _ n2, zu_n _ _ _ (fun z => m1 z.symm)]
  · show zu (zu τ.1 A i x) a 44 y C j = _
    rw [zu_n _ _ _ n3, zu_n _ _ _ (fun z => m2 z.symm)]
theorem pPop {x : Int} (h : zPi a A B C c0 τ0 τ (x :: st) out) (hb : st.length ≤ 4000) {y : Int32} (hy : y = τ.1 a 44 - (1 : Int32)) : zPi a A B C c0 τ0 (zu τ.1 a 44 y, τ.2.1, τ.2.2) st out := by
  have e1 : (1 : Int32).toInt = 1 := by decide
  obtain ⟨hD, h44, hp, h38, hh, hf⟩ := h
  rw [List.length_cons] at h44
  obtain ⟨-, ⟨n1, n2, n3⟩, m1, m2, m3⟩ := id hD
  refine ⟨hD, ?_, ?_, ?_, zHo_cg out c0 (fun j j1 j2 => ⟨?_, ?_⟩) hh, fun j hj => ⟨Eq.trans ?_ (hf j hj).1, Eq.trans ?_ (hf j hj).2⟩⟩
  · show (zu τ.1 a 44 y a 44).toInt = _
    rw [zu_s, hy, zb_sub (by rw [e1]; omega) (by rw [e1]; omega), e1, h44]
    omega
  · show zPk (zu τ.1 a 44 y A) st
    rw [zu_n _ _ _ n1]
    exact hp.2
  · show (zu τ.1 a 44 y a 38).toInt = _
    rw [zu_j _ _ _ _ _ (by decide)]
    exact h38
  · show zu τ.1 a 44 y B j = _
    rw [zu_n _ _ _ n2]
  · show zu τ.1 a 44 y C j = _
    rw [zu_n _ _ _ n3]
  · show zu τ.1 a 44 y B j = _
    rw [zu_n _ _ _ n2]
  · show zu τ.1 a 44 y C j = _
    rw [zu_n _ _ _ n3]
theorem pComes0 {p : Int32} {b : Bool} (hpb : b = true ↔ p.toInt ≠ 0) : ∀ (n : Nat) (st : List Int) (out : zCs) (τ : zS), zPi a A B C c0 τ0 τ st out → c0 + out.length + st.length ≤ 4000 → st.length < n → zPi a A B C c0 τ0 (F_X11_comesOut_0 a p n τ) (pl b st out).1 (pl b st out).2 := by
  have e1 : (1 : Int32).toInt = 1 := by decide
  have e6 : (6 : Int32).toInt = 6 := by decide
  have e8 : (8 : Int32).toInt = 8 := by decide
  have e9 : (9 : Int32).toInt = 9 := by decide
  have e10 : (10 : Int32).toInt = 10 := by decide
  intro n
  induction n with
  | zero => intro st out τ _ _ h; exact absurd h (by omega)
  | succ n ih =>
    intro st out τ h hb hn
    have gA := h.1.1.1
    have h44 := h.2.1
    rw [F_X11_comesOut_0]
    simp only [zlt, gA, e6, e8, e9, e10]
    cases st with
    | nil =>
      rw [if_neg (by rw [h44]; decide)]
      exact h
    | cons x st =>
      rw [List.length_cons] at h44 hb hn
      have i1 : (τ.1 a 44 - (1 : Int32)).toInt = st.length := by
        rw [zb_sub (by rw [e1]; omega) (by rw [e1]; omega), e1, h44]
        omega
      have ni : (τ.1 a 44 - (1 : Int32)).toNatClampNeg = st.length := by rw [ztn, i1]; rfl
      have top : (τ.1 A st.length).toInt = x := h.2.2.1.1
      have h2 := pPop h (by omega) rfl
      have el : (out ++ [(opc x, 0)]).length = out.length + 1 := by rw [List.length_append]; rfl
      have em : ∀ u : Int32, u.toInt = opc x → zPi a A B C c0 τ0 (F_X11_comesOut_0 a p n (F_X11_emit a u 0 (zu τ.1 a 44 (τ.1 a 44 - (1 : Int32)), τ.2.1, τ.2.2))) (pl b st (out ++ [(opc x, 0)])).1 (pl b st (out ++ [(opc x, 0)])).2 := fun u hu => ih st _ _ (pEmit h2 (by omega) u 0 hu (by decide)) (by rw [el]; omega) (by omega)
      have fin : zPi a A B C c0 τ0 (if x = 8 then F_X11_comesOut_0 a p n (F_X11_emit a 2 0 (zu τ.1 a 44 (τ.1 a 44 - (1 : Int32)), τ.2.1, τ.2.2)) else if x = 9 then F_X11_comesOut_0 a p n (F_X11_emit a 3 0 (zu τ.1 a 44 (τ.1 a 44 - (1 : Int32)), τ.2.1, τ.2.2)) else if x = 10 then F_X11_comesOut_0 a p n (F_X11_emit a 4 0 (zu τ.1 a 44 (τ.1 a 44 - (1 : Int32)), τ.2.1, τ.2.2)) else F_X11_comesOut_0 a p n (F_X11_emit a 5 0 (zu τ.1 a 44 (τ.1 a 44 - (1 : Int32)), τ.2.1, τ.2.2))) (pl b st (out ++ [(opc x, 0)])).1 (pl b st (out ++ [(opc x, 0)])).2 := by
        by_cases c8 : x = 8
        · rw [if_pos c8]
          exact em 2 (by rw [c8]; decide)
        · rw [if_neg c8]
          by_cases c9 : x = 9
          · rw [if_pos c9]
            exact em 3 (by rw [c9]; decide)
          · rw [if_neg c9]
            by_cases c10 : x = 10
            · rw [if_pos c10]
              exact em 4 (by rw [c10]; decide)
            · rw [if_neg c10]
              exact em 5 (by unfold opc; rw [if_neg c8, if_neg c9, if_neg c10]; decide)
      rw [if_pos (by omega)]
      simp only [ni, top]
      by_cases c6 : x = 6
      · rw [if_pos c6, pl, if_pos c6]
        exact h
      · rw [if_neg c6, pl, if_neg c6]
        by_cases p0 : p.toInt = 0
        · have np : ¬ (b = true ∧ (x = 8 ∨ x = 9)) := fun z => hpb.mp z.1 p0
          rw [if_pos p0, if_neg np]
          exact fin
        · rw [if_neg p0]
          by_cases c8 : x = 8
          · rw [if_pos c8, if_pos ⟨hpb.mpr p0, Or.inl c8⟩]
            exact h
          · by_cases c9 : x = 9
            · rw [if_neg c8, if_pos c9, if_pos ⟨hpb.mpr p0, Or.inr c9⟩]
              exact h
            · rw [if_neg c8, if_neg c9] at fin
              have np : ¬ (b = true ∧ (x = 8 ∨ x = 9)) := fun z => z.2.elim c8 c9
              rw [if_neg np, if_neg c8, if_neg c9, if_neg c8, if_neg c9]
              exact fin
theorem pComes {p : Int32} {b : Bool} (hpb : b = true ↔ p.toInt ≠ 0) (h : zPi a A B C c0 τ0 τ st out) (hb : c0 + out.length + st.length ≤ 4000) : zPi a A B C c0 τ0 (F_X11_comesOut a p τ) (pl b st out).1 (pl b st out).2 := by
  unfold F_X11_comesOut
  exact pComes0 hpb 10000 st out τ h hb (by omega)
end RX1
