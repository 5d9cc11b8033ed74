/-! WAYS: the class asks one place's way to the mouth, the reference fills all of them -/
def stp (r : Nat → Int32) (p : Int32) : Int32 := if 0 < p.toInt then r p.toNatClampNeg else p
def pa (r : Nat → Int32) : Nat → Int32 → Int32
  | 0, p => p
  | k + 1, p => stp r (pa r k p)
/-- a row that leads to the mouth (N places) -/
def zRow (N : Nat) (r : Nat → Int32) : Prop := ∃ q : Int → Nat, (∀ c : Nat, 1 ≤ c → c < N → 0 ≤ (r c).toInt ∧ (r c).toInt < N ∧ q (r c).toInt < q c) ∧ ∀ c, q c ≤ 12
section WAYS
variable {N : Nat} {r r' : Nat → Int32} {p t : Int32} {σ s : zS} {m0 : Nat}
theorem zRow.of (h : gN m0 σ) (hM : zM m0 σ = N) (hN : N ≤ 12) : zRow N (σ.1 (mR σ m0 48)) := by
  unfold gN at h
  rw [hM] at h
  obtain ⟨q, h1, h2⟩ := gRow.rankB (by omega) h
  exact ⟨q, fun c hc1 hc2 => h1 c (by omega) (by omega), h2⟩
theorem zRow.cg (h : zRow N r) (e : ∀ c, 1 ≤ c → c < N → r' c = r c) : zRow N r' := by
  obtain ⟨q, h1, h2⟩ := h
  exact ⟨q, fun c hc1 hc2 => by rw [e c hc1 hc2]; exact h1 c hc1 hc2, h2⟩
theorem stp_in (h : zRow N r) (h0 : 0 ≤ p.toInt) (h1 : p.toInt < N) : 0 ≤ (stp r p).toInt ∧ (stp r p).toInt < N := by
  obtain ⟨q, q1, q2⟩ := h
  unfold stp
  by_cases c : 0 < p.toInt
  · rw [if_pos c]
    have := q1 p.toNatClampNeg (by rw [ztn]; omega) (by rw [ztn]; omega)
    exact ⟨this.1, this.2.1⟩
  · rw [if_neg c]
    exact ⟨h0, h1⟩
theorem pa_in (h : zRow N r) (h0 : 0 ≤ p.toInt) (h1 : p.toInt < N) : ∀ k, 0 ≤ (pa r k p).toInt ∧ (pa r k p).toInt < N
  | 0 => ⟨h0, h1⟩
  | k + 1 => stp_in h (pa_in h h0 h1 k).1 (pa_in h h0 h1 k).2
theorem pa_0 {k : Nat} (h : (pa r k p).toInt = 0) : ∀ j, k ≤ j → (pa r j p).toInt = 0 := by
  intro j hj
  induction j with
  | zero => obtain rfl : k = 0 := by omega
            exact h
  | succ j ih =>
    by_cases c : k = j + 1
    · rw [← c]; exact h
    · have z := ih (by omega)
      show (stp r (pa r j p)).toInt = 0
      unfold stp
      rw [if_neg (by omega)]
      exact z
theorem pa_cg (h : zRow N r) (e : ∀ c, 1 ≤ c → c < N → r' c = r c) (h0 : 0 ≤ p.toInt) (h1 : p.toInt < N) : ∀ k, pa r' k p = pa r k p
  | 0 => rfl
  | k + 1 => by
    show stp r' (pa r' k p) = stp r (pa r k p)
    rw [pa_cg h e h0 h1 k]
    obtain ⟨z0, z1⟩ := pa_in h h0 h1 k
    unfold stp
    by_cases c : 0 < (pa r k p).toInt
    · rw [if_pos c, if_pos c, e _ (by rw [ztn]; omega) (by rw [ztn]; omega)]
    · rw [if_neg c, if_neg c]
/-- what lies on the way lies on its first twelve places -/
theorem pa_12 (h : zRow N r) (h0 : 0 ≤ p.toInt) (h1 : p.toInt < N) {k : Nat} (hk : 0 < (pa r k p).toInt) : k ≤ 12 := by
  obtain ⟨q, q1, q2⟩ := id h
  have key : ∀ k, 0 < (pa r k p).toInt → q (pa r k p).toInt + k ≤ q p.toInt := by
    intro k
    induction k with
    | zero => intro _; exact Nat.le_refl _
    | succ k ih =>
      intro hk
      obtain ⟨z0, z1⟩ := pa_in h h0 h1 k
      have c : 0 < (pa r k p).toInt := by
        apply Classical.byContradiction
        intro n
        have := pa_0 (r := r) (p := p) (k := k) (by omega) (k + 1) (by omega)
        omega
      have e : pa r (k + 1) p = r (pa r k p).toNatClampNeg := by
        show stp r (pa r k p) = _
        unfold stp
        rw [if_pos c]
      have := (q1 (pa r k p).toNatClampNeg (by rw [ztn]; omega) (by rw [ztn]; omega)).2.2
      rw [show (((pa r k p).toNatClampNeg : Nat) : Int) = (pa r k p).toInt by rw [ztn]; omega] at this
      have i2 := ih c
      rw [e]
      omega
  have := key k hk
  have := q2 p.toInt
  omega
/-- the class goes along the way -/
theorem cCom_l {a : Nat} (hr : zRow N (σ.1 ((σ.2.2 a 0).getD 0))) (h0 : 0 ≤ p.toInt) (h1 : p.toInt < N) (ht : 1 ≤ t.toInt) : ∀ (n : Nat) (x : Int32) (i : Nat), x.toInt = i → i ≤ 12 → 12 - i < n → (F_X1_comesBy_5 a p t n x (pa (σ.1 ((σ.2.2 a 0).getD 0)) i p) σ).2 = σ ∧ ((F_X1_comesBy_5 a p t n x (pa (σ.1 ((σ.2.2 a 0).getD 0)) i p) σ).1.toInt = 0 ↔ ∀ k, i ≤ k → k ≤ 12 → (pa (σ.1 ((σ.2.2 a 0).getD 0)) k p).toInt ≠ t.toInt) := by
  intro n
  have e12 : (12 : Int32).toInt = 12 := by decide
  induction n with
  | zero => intro x i _ _ h; exact absurd h (by omega)
  | succ n ih =>
    intro x i hx hi hm
    obtain ⟨z0, z1⟩ := pa_in hr h0 h1 i
    rw [F_X1_comesBy_5]
    simp only [zlt, e12]
    by_cases c : (pa (σ.1 ((σ.2.2 a 0).getD 0)) i p).toInt = t.toInt
    · simp only [if_pos c, ite_self]
      exact ⟨trivial, fun h => absurd h (by decide), fun h => absurd c (h i (Nat.le_refl _) hi)⟩
    · simp only [if_neg c]
      by_cases cx : i < 12
      · rw [if_pos (by omega)]
        by_cases c0 : (pa (σ.1 ((σ.2.2 a 0).getD 0)) i p).toInt = 0
        · rw [if_pos c0]
          refine ⟨rfl, fun _ k k1 _ z => ?_, fun _ => (by decide : (0 : Int32).toInt = 0)⟩
          have := pa_0 c0 k k1
          omega
        · rw [if_neg c0]
          have e : σ.1 ((σ.2.2 a 0).getD 0) (pa (σ.1 ((σ.2.2 a 0).getD 0)) i p).toNatClampNeg = pa (σ.1 ((σ.2.2 a 0).getD 0)) (i + 1) p := by
            show _ = stp _ (pa _ i p)
            unfold stp
            rw [if_pos (by omega)]
          rw [e]
          obtain ⟨q1, q2⟩ := ih (x + (1 : Int32)) (i + 1) (zp1 hx (by omega)) (by omega) (by omega)
          refine ⟨q1, fun h k k1 k2 => ?_, fun h => q2.mpr (fun k k1 k2 => h k (by omega) k2)⟩
          by_cases e : k = i
          · subst e; exact c
          · exact q2.mp h k (by omega) k2
      · rw [if_neg (by omega)]
        exact ⟨rfl, fun _ k k1 k2 => by obtain rfl : k = i := by omega
                                        exact c, fun _ => (by decide : (0 : Int32).toInt = 0)⟩
theorem cCom {a : Nat} (hr : zRow N (σ.1 ((σ.2.2 a 0).getD 0))) (h0 : 0 ≤ p.toInt) (h1 : p.toInt < N) (ht : 1 ≤ t.toInt) : (F_X1_comesBy a p t σ).2 = σ ∧ ((F_X1_comesBy a p t σ).1.toInt = 0 ↔ ¬ ∃ k, (pa (σ.1 ((σ.2.2 a 0).getD 0)) k p).toInt = t.toInt) := by
  unfold F_X1_comesBy
  simp only [zlt]
  obtain ⟨q1, q2⟩ := cCom_l (a := a) hr h0 h1 ht 10000 0 0 (by decide) (by omega) (by omega)
  refine ⟨q1, ?_⟩
  refine q2.trans ⟨fun h ⟨k, hk⟩ => h k (by omega) (pa_12 hr h0 h1 (k := k) (by omega)) hk, fun h k _ _ hk => h ⟨k, hk⟩⟩
end WAYS
