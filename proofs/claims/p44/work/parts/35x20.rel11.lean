/-! THE REFERENCE FILLS THE WAYS: bit j of place t: the water of j comes by t -/
theorem nI_t {n : Nat} (h : n < 32) : (nI n).toInt = (n : Int) := by
  have key : ∀ n : Nat, n < 32 → (nI n).toInt = (n : Int) := by decide +kernel
  exact key n h
theorem bt_1 {n i : Nat} (hn : n < 32) (hi : i < 32) : bt ((1 : Int32) <<< (nI n &&& 31)) i = decide (i = n) := by
  rw [b_shl n hn 1 hi, b_one _ (by omega)]
  by_cases c : i = n
  · subst c; simp
  · by_cases c2 : n ≤ i
    · have : i - n ≠ 0 := by omega
      simp [c, this]
    · simp [c, c2]
/-- the bits while place i is under way (E: what its way has come by) -/
def zBi (N : Nat) (r : Nat → Int32) (f : Nat → Int32) (i : Nat) (E : Nat → Prop) : Prop := ∀ t j, t < N → j < 32 → (bt (f t) j = true ↔ (j < i ∧ ∃ k, (pa r k (nI j)).toInt = t) ∨ (j = i ∧ E t))
theorem zBi.add {N i v : Nat} {r f : Nat → Int32} {E : Nat → Prop} (h : zBi N r f i E) (hi : i < 32) : zBi N r (fun j => if j = v then f v ||| ((1 : Int32) <<< (nI i &&& 31)) else f j) i (fun t => E t ∨ t = v) := by
  intro t j ht hj
  show bt (if t = v then f v ||| ((1 : Int32) <<< (nI i &&& 31)) else f t) j = true ↔ (j < i ∧ ∃ k, (pa r k (nI j)).toInt = t) ∨ (j = i ∧ (E t ∨ t = v))
  by_cases c : t = v
  · subst c
    rw [if_pos rfl, b_or, bt_1 hi (by omega), Bool.or_eq_true, h t j ht hj, decide_eq_true_eq]
    constructor
    · rintro ((h | ⟨h, h2⟩) | h)
      · exact Or.inl h
      · exact Or.inr ⟨h, Or.inl h2⟩
      · exact Or.inr ⟨h, Or.inr rfl⟩
    · rintro (h | ⟨h, -⟩)
      · exact Or.inl (Or.inl h)
      · exact Or.inr h
  · rw [if_neg c, h t j ht hj]
    constructor
    · rintro (h | ⟨h, h2⟩)
      · exact Or.inl h
      · exact Or.inr ⟨h, Or.inl h2⟩
    · rintro (h | ⟨h, h2 | h2⟩)
      · exact Or.inl h
      · exact Or.inr ⟨h, h2⟩
      · exact absurd h2 c
theorem zBi.e {N i : Nat} {r f g : Nat → Int32} {E G : Nat → Prop} (h : zBi N r f i E) (e : ∀ j, g j = f j) (eE : ∀ t, t < N → (G t ↔ E t)) : zBi N r g i G := by
  intro t j ht hj
  rw [e t, h t j ht hj, eE t ht]
section FILLS
variable {N m0 a b c w : Nat} {r : Nat → Int32} {s : zS}
/-- what is written: three rows -/
def zAw (a b c : Nat) : Nat → Nat → Prop := fun x _ => x = a ∨ x = b ∨ x = c
theorem mWay1 (ab : a ≠ b) (ac : a ≠ c) (wa : w ≠ a) (wb : w ≠ b) (wc : w ≠ c) (ga : (s.2.2 m0 54).getD 0 = a) (gb : (s.2.2 m0 52).getD 0 = b) (gc : (s.2.2 m0 53).getD 0 = c) (gw : (s.2.2 m0 49).getD 0 = w) (hr : zRow N (s.1 w)) {i : Nat} (hi : i < N) (hN : N ≤ 12) {kA kB : Int32 → zS → zS} {q : Int → Nat} (hq : ∀ c : Nat, 1 ≤ c → c < N → q (s.1 w c).toInt < q c) : ∀ (n k : Nat) (τ : zS), q (pa (s.1 w) k (nI i)).toInt < n → zFr (zAw a b c) s τ → zBi N (s.1 w) (τ.1 a) i (fun t => ∃ k', k' ≤ k ∧ (pa (s.1 w) k' (nI i)).toInt = t) → ∃ τ', zFr (zAw a b c) s τ' ∧ zBi N (s.1 w) (τ'.1 a) (i + 1) (fun _ => False) ∧ F_X11_fillsWays_61 (nI i) m0 kA kB n (pa (s.1 w) k (nI i)) τ = kB (nI i + (1 : Int32)) τ' := by
  have i0 : (nI i).toInt = (i : Int) := nI_t (by omega)
  intro n
  induction n with
  | zero => intro k τ h; exact absurd h (by omega)
  | succ n ih =>
    intro k τ hk g hb
    obtain ⟨z0, z1⟩ := pa_in (p := nI i) hr (by omega) (by omega) k
    have r0 : τ.2.2 = s.2.2 := g.rf
    rw [F_X11_fillsWays_61]
    by_cases cz : 0 < (pa (s.1 w) k (nI i)).toInt
    · rw [if_pos cz]
      simp only [zlt, r0, ga, gb, gc, gw]
      have ep : pa (s.1 w) (k + 1) (nI i) = s.1 w (pa (s.1 w) k (nI i)).toNatClampNeg := by
        show stp _ (pa _ k _) = _
        unfold stp
        rw [if_pos cz]
      obtain ⟨τ3, e3⟩ : ∃ τ3 : zS, τ3 = (zu (zu τ.1 b (nI i).toNatClampNeg (τ.1 b (nI i).toNatClampNeg + τ.1 ((s.2.2 m0 23).getD 0) ((12 : Int32) * τ.1 m0 18 + pa (s.1 w) k (nI i)).toNatClampNeg)) c (nI i).toNatClampNeg (zu τ.1 b (nI i).toNatClampNeg (τ.1 b (nI i).toNatClampNeg + τ.1 ((s.2.2 m0 23).getD 0) ((12 : Int32) * τ.1 m0 18 + pa (s.1 w) k (nI i)).toNatClampNeg) c (nI i).toNatClampNeg + (1 : Int32)), τ.2.1, s.2.2) := ⟨_, rfl⟩
      have g3 : zFr (zAw a b c) s τ3 := by
        rw [e3, ← r0]
        exact (g.w (Or.inr (Or.inl rfl))).w (Or.inr (Or.inr rfl))
      have w3 : τ3.1 w = s.1 w := funext (fun j => g3.2 _ _ (fun z => z.elim wa (fun z => z.elim wb wc)))
      have a3 : τ3.1 a = τ.1 a := by
        rw [e3]
        show zu (zu τ.1 b _ _) c _ _ a = _
        rw [zu_n _ _ _ ac, zu_n _ _ _ ab]
      have E : ∀ (x : Int32) (τ4 : zS), x = pa (s.1 w) (k + 1) (nI i) → τ4 = (zu τ3.1 a x.toNatClampNeg (τ3.1 a x.toNatClampNeg ||| ((1 : Int32) <<< (nI i &&& 31))), τ3.2.1, τ3.2.2) → ∃ τ', zFr (zAw a b c) s τ' ∧ zBi N (s.1 w) (τ'.1 a) (i + 1) (fun _ => False) ∧ F_X11_fillsWays_61 (nI i) m0 kA kB n x τ4 = kB (nI i + (1 : Int32)) τ' := fun x τ4 ex e4 => by
        rw [ex] at e4 ⊢
        obtain ⟨y0, y1⟩ := pa_in (p := nI i) hr (by omega) (by omega) (k + 1)
        refine ih (k + 1) τ4 ?_ (by rw [e4]; exact g3.w (Or.inl rfl)) ((hb.add (v := (pa (s.1 w) (k + 1) (nI i)).toNatClampNeg) (by omega)).e (fun j => ?_) (fun t ht => ?_))
        · have := hq (pa (s.1 w) k (nI i)).toNatClampNeg (by rw [ztn]; omega) (by rw [ztn]; omega)
          rw [show (((pa (s.1 w) k (nI i)).toNatClampNeg : Nat) : Int) = (pa (s.1 w) k (nI i)).toInt by rw [ztn]; omega, ← ep] at this
          omega
        · rw [e4]
          show zu τ3.1 a _ _ a j = _
          by_cases cj : j = (pa (s.1 w) (k + 1) (nI i)).toNatClampNeg
          · rw [if_pos cj, cj, zu_s, a3]
          · rw [if_neg cj, zu_j _ _ _ _ _ (fun z => cj z.symm), a3]
        · constructor
          · rintro ⟨k', k1, k2⟩
            by_cases ck : k' = k + 1
            · subst ck
              exact Or.inr (by rw [ztn]; omega)
            · exact Or.inl ⟨k', by omega, k2⟩
          · rintro (⟨k', k1, k2⟩ | e)
            · exact ⟨k', by omega, k2⟩
            · exact ⟨k + 1, Nat.le_refl _, by rw [e, ztn]; omega⟩
      have Z := E (τ3.1 w (pa (s.1 w) k (nI i)).toNatClampNeg) _ (by rw [w3, ep]) rfl
      rw [e3] at Z
      exact Z
    · rw [if_neg cz]
      simp only [zlt]
      refine ⟨τ, g, fun t j ht hj => ?_, rfl⟩
      rw [hb t j ht hj]
      constructor
      · rintro (⟨h, h2⟩ | ⟨h, k', k1, k2⟩)
        · exact Or.inl ⟨by omega, h2⟩
        · exact Or.inl ⟨by omega, k', by rw [h]; exact k2⟩
      · rintro (⟨h, k', k2⟩ | ⟨-, h⟩)
        · by_cases cj : j < i
          · exact Or.inl ⟨cj, k', k2⟩
          · obtain rfl : j = i := by omega
            by_cases ck : k' ≤ k
            · exact Or.inr ⟨rfl, k', ck, k2⟩
            · refine Or.inr ⟨rfl, k, Nat.le_refl _, ?_⟩
              have := pa_0 (r := s.1 w) (p := nI j) (k := k) (by omega) k' (by omega)
              omega
        · exact h.elim
end FILLS
