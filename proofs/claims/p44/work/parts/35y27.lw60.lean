/-! SETS OF PLACES AS BITS: which is ahead of which -/
/-- numbers and their bits -/
theorem bt_tb {x : Int32} {s : Nat} (h : x.toInt = s) (j : Nat) : bt x j = s.testBit j := by
  have e : x.toBitVec.toNat = s := by
    have a : x.toInt = x.toBitVec.toInt := rfl
    have b := BitVec.toInt_eq_toNat_cond x.toBitVec
    have c := x.toBitVec.isLt
    split at b <;> omega
  rw [← e, BitVec.testBit_toNat]
  rfl
theorem bt_hi {x : Int32} {s n : Nat} (h : x.toInt = s) (hs : s < 2 ^ n) {j : Nat} (hj : n ≤ j) : bt x j = false := by
  rw [bt_tb h]
  exact Nat.testBit_lt_two_pow (Nat.lt_of_lt_of_le hs (Nat.pow_le_pow_right (by decide) hj))
theorem z_bits {x : Int32} : x.toInt = 0 ↔ ∀ j, j < 32 → bt x j = false := by
  constructor
  · intro h j _
    rw [show x = 0 from Int32.toInt_inj.mp (h.trans (by decide))]
    exact b_0 j
  · intro h
    rw [show x = 0 from b_ext (fun j hj => by rw [h j hj, b_0])]
    decide
theorem sub_le {x y : Int32} {s : Nat} (hx : x.toInt = s) (hy : 0 ≤ y.toInt) (h : ∀ j, j < 32 → bt x j = true → bt y j = true) : (s : Int) ≤ y.toInt := by
  obtain ⟨m, hm⟩ : ∃ m : Nat, y.toInt = m := ⟨y.toInt.toNat, by omega⟩
  have e : s &&& m = s := Nat.eq_of_testBit_eq (fun j => by
    rw [Nat.testBit_and]
    by_cases c : j < 32
    · have a := bt_tb hx j
      have b := bt_tb hm j
      cases d : s.testBit j with
      | false => rfl
      | true =>
        rw [d] at a
        rw [← b, h j c a]
        rfl
    · have a := bt_hi hx (n := 31) (by have := zb_rng x; omega) (j := j) (by omega)
      rw [bt_tb hx] at a
      rw [a]
      rfl)
  have := Nat.and_le_right (n := s) (m := m)
  omega
theorem least {P : Nat → Prop} : ∀ n, (∃ j, j < n ∧ P j) → ∃ d, d < n ∧ P d ∧ ∀ j, j < d → ¬ P j := by
  intro n
  induction n with
  | zero =>
    rintro ⟨j, h, -⟩
    exact absurd h (by omega)
  | succ n ih =>
    rintro ⟨j, h1, h2⟩
    by_cases c : ∃ j, j < n ∧ P j
    · obtain ⟨d, d1, d2, d3⟩ := ih c
      exact ⟨d, by omega, d2, d3⟩
    · have e : j = n := by
        apply Classical.byContradiction
        intro z
        exact c ⟨j, by omega, h2⟩
      rw [e] at h2
      exact ⟨n, by omega, h2, fun i hi z => c ⟨i, hi, z⟩⟩
/-- the lowest bit of a number -/
theorem low_b {y : Int32} {d : Nat} (hd : d < 32) (h1 : bt y d = true) (h2 : ∀ j, j < d → ¬ bt y j = true) {j : Nat} (hj : j < 32) : bt (y &&& -y) j = decide (j = d) := by
  have n : bt (-y) j = (bt y j ^^ decide (∃ i, i < j ∧ bt y i = true)) := by
    unfold bt
    rw [Int32.toBitVec_neg, BitVec.getLsbD_neg, decide_eq_true hj, Bool.true_and]
  rw [b_and, n]
  by_cases c : j = d
  · rw [c, decide_eq_true rfl, h1, decide_eq_false (fun ⟨i, i1, i2⟩ => h2 i i1 i2)]
    rfl
  · rw [decide_eq_false c]
    cases b : bt y j with
    | false => rfl
    | true =>
      have k : d < j := by
        apply Classical.byContradiction
        intro z
        exact h2 j (by omega) b
      rw [decide_eq_true ⟨d, k, h1⟩]
      rfl
section CNT2
variable {P Q : Nat → Prop}
theorem cnt_mno {m : Nat} : ∀ n, m ≤ n → cnt P m ≤ cnt P n := by
  intro n
  induction n with
  | zero =>
    intro h
    rw [show m = 0 by omega]
    exact Nat.le_refl _
  | succ n ih =>
    intro h
    by_cases e : m = n + 1
    · rw [e]
      exact Nat.le_refl _
    · have := ih (by omega)
      rw [cnt]
      omega
theorem cnt_t {n : Nat} (h : P n) : cnt P (n + 1) = cnt P n + 1 := by rw [cnt, if_pos h]
theorem cnt_f {n : Nat} (h : ¬ P n) : cnt P (n + 1) = cnt P n := by
  rw [cnt, if_neg h]
  rfl
theorem cnt_ex {e : Nat} : ∀ n, e < cnt P n → ∃ p, p < n ∧ P p ∧ cnt P p = e := by
  intro n
  induction n with
  | zero => intro h; exact absurd h (by unfold cnt; omega)
  | succ n ih =>
    intro h
    by_cases c : e < cnt P n
    · obtain ⟨p, p1, p2, p3⟩ := ih c
      exact ⟨p, by omega, p2, p3⟩
    · by_cases d : P n
      · rw [cnt_t d] at h
        exact ⟨n, by omega, d, by omega⟩
      · rw [cnt_f d] at h
        exact absurd h c
end CNT2
section ITH
variable {x b : Int32}
/-- the i-th of the bits -/
theorem ithS {r : Int32} {p i : Nat} (hr : r.toInt = i) (hp : p < 12) (h1 : bt x p = true) (h2 : cnt (fun j => bt x j = true) p = i) : (F_X11_ithOf x r).toInt = p := by
  have e12 : (12 : Int32).toInt = 12 := by decide
  have key : ∀ (n : Nat) (y z : Int32) (j : Nat), y.toInt = j → j ≤ p → 13 - j < n → z.toInt = cnt (fun j => bt x j = true) j → (F_X11_ithOf_4 x r n y z).toInt = p := by
    intro n
    induction n with
    | zero => intro y z j _ _ h; exact absurd h (by omega)
    | succ n ih =>
      intro y z j hy hj hn hz
      have cut := bt_cut (x := x) hy (by omega)
      have y1 := zp1 hy (by omega)
      have cl := cnt_le (P := fun j => bt x j = true) j
      rw [F_X11_ithOf_4]
      simp only [↓zlt, e12]
      rw [if_pos (by omega)]
      by_cases c : bt x j = true
      · rw [if_neg (fun k => cut.1.mp k c)]
        by_cases d : j = p
        · rw [if_pos (by rw [hz, d, h2, hr]), hy, d]
        · have m := cnt_mno (P := fun j => bt x j = true) (m := j + 1) p (by omega)
          rw [cnt_t (P := fun j => bt x j = true) (n := j) c] at m
          rw [if_neg (by rw [hz, hr]; omega)]
          refine ih _ _ (j + 1) y1 (by omega) (by omega) ?_
          rw [zp1 hz (by omega), cnt_t (P := fun j => bt x j = true) (n := j) c]
      · rw [if_pos (cut.1.mpr c)]
        have d : j ≠ p := fun e => c (by rw [e]; exact h1)
        refine ih _ _ (j + 1) y1 (by omega) (by omega) ?_
        rw [hz, cnt_f (P := fun j => bt x j = true) (n := j) c]
  unfold F_X11_ithOf
  simp only [zlt]
  exact key 10000 0 0 0 (by decide) (by omega) (by omega) (show (0 : Int32).toInt = ((0 : Nat) : Int) by decide)
/-- the class' i-th bit is the reference's -/
theorem ithE (x r : Int32) : F_X10_bitAt x r = F_X11_ithOf x r := by
  have e12 : (12 : Int32).toInt = 12 := by decide
  have key : ∀ (n : Nat) (y z : Int32) (j : Nat), y.toInt = j → j ≤ 12 → 13 - j < n → F_X10_bitAt_4 x r n y z = F_X11_ithOf_4 x r n y z := by
    intro n
    induction n with
    | zero => intro y z j _ _ h; exact absurd h (by omega)
    | succ n ih =>
      intro y z j hy hj hn
      rw [F_X10_bitAt_4, F_X11_ithOf_4]
      simp only [↓zlt, e12]
      by_cases k : j < 12
      · have cut := bt_cut (x := x) hy (by omega)
        have hs := cHas (x := x) hy (by omega)
        have y1 := zp1 hy (by omega)
        rw [if_pos (show y.toInt < 12 by omega), if_pos (show y.toInt < 12 by omega)]
        by_cases c : bt x j = true
        · rw [if_pos c] at hs
          rw [if_neg (show ¬ (F_X10_has x y).toInt = 0 by omega), if_neg (fun k => cut.1.mp k c)]
          by_cases d : z.toInt = r.toInt
          · rw [if_pos d, if_pos d]
          · rw [if_neg d, if_neg d]
            exact ih _ _ (j + 1) y1 (by omega) (by omega)
        · rw [if_neg c] at hs
          rw [if_pos hs, if_pos (cut.1.mpr c)]
          exact ih _ _ (j + 1) y1 (by omega) (by omega)
      · rw [if_neg (show ¬ y.toInt < 12 by omega), if_neg (show ¬ y.toInt < 12 by omega)]
  unfold F_X10_bitAt F_X11_ithOf
  simp only [zlt]
  exact key 10000 0 0 0 (by decide) (by omega) (by omega)
/-- the first unlike ones decide -/
theorem erlL {e p q : Nat} (h3 : e < 3) (hl : ∀ i, i < e → ∀ r : Int32, r.toInt = i → (F_X11_ithOf x r).toInt = (F_X11_ithOf b r).toInt) (hp : ∀ r : Int32, r.toInt = e → (F_X11_ithOf x r).toInt = p) (hq : ∀ r : Int32, r.toInt = e → (F_X11_ithOf b r).toInt = q) (n : p ≠ q) : ∀ (m : Nat) (r : Int32) (i : Nat), r.toInt = i → i ≤ e → 4 - i < m → (F_X11_isEarlier_2 x b m r).toInt = if p < q then 1 else 0 := by
  have e3 : (3 : Int32).toInt = 3 := by decide
  intro m
  induction m with
  | zero => intro r i _ _ h; exact absurd h (by omega)
  | succ m ih =>
    intro r i hr hi hm
    rw [F_X11_isEarlier_2]
    simp only [↓zlt, e3]
    rw [if_pos (by omega)]
    by_cases c : i = e
    · have a := hp r (by omega)
      have d := hq r (by omega)
      rw [if_neg (by omega)]
      by_cases k : p < q
      · rw [if_pos (by omega), if_pos k]
        decide
      · rw [if_neg (by omega), if_neg k]
        decide
    · rw [if_pos (hl i (by omega) r hr)]
      exact ih _ (i + 1) (zp1 hr (by omega)) (by omega) (by omega)
theorem erlS : ∀ (m : Nat) (r : Int32) (i : Nat), r.toInt = i → i ≤ 3 → 4 - i < m → (F_X11_isEarlier_2 x x m r).toInt = 0 := by
  have e3 : (3 : Int32).toInt = 3 := by decide
  intro m
  induction m with
  | zero => intro r i _ _ h; exact absurd h (by omega)
  | succ m ih =>
    intro r i hr hi hm
    rw [F_X11_isEarlier_2]
    simp only [↓zlt, e3]
    by_cases c : i < 3
    · rw [if_pos (by omega), if_pos trivial]
      exact ih _ (i + 1) (zp1 hr (by omega)) (by omega) (by omega)
    · rw [if_neg (by omega)]
      decide
/-- both tell alike which of two sets of as many is ahead -/
theorem erl (hx : ∀ j, 12 ≤ j → j < 32 → bt x j = false) (hb : ∀ j, 12 ≤ j → j < 32 → bt b j = false) (hc : cnt (fun j => bt x j = true) 12 = cnt (fun j => bt b j = true) 12) (h3 : cnt (fun j => bt x j = true) 12 ≤ 3) : (F_X11_isEarlier x b).toInt = 0 ↔ (x &&& ((x ^^^ b) &&& -(x ^^^ b))).toInt = 0 := by
  have o0 : (0 : Int32).toInt = 0 := by decide
  have z0 : (0 : Int32).toInt = (0 : Nat) := by decide
  unfold F_X11_isEarlier
  simp only [zlt]
  by_cases E : x = b
  · rw [← E, erlS 10000 0 0 z0 (by omega) (by omega)]
    refine ⟨fun _ => z_bits.mpr (fun j hj => ?_), fun _ => rfl⟩
    rw [b_and, b_and, b_xor]
    cases bt x j <;> rfl
  · obtain ⟨d, d1, d2, d3⟩ := least (P := fun j => ¬ bt x j = bt b j) 32 (by
      apply Classical.byContradiction
      intro z
      refine E (b_ext (fun j hj => ?_))
      apply Classical.byContradiction
      intro k
      exact z ⟨j, hj, k⟩)
    have d12 : d < 12 := by
      apply Classical.byContradiction
      intro z
      exact d2 (by rw [hx d (by omega) d1, hb d (by omega) d1])
    have same : ∀ j, j < d → (bt x j = true ↔ bt b j = true) := fun j hj => by
      have k : bt x j = bt b j := by
        apply Classical.byContradiction
        intro k
        exact d3 j hj k
      rw [k]
    have L := fun {j : Nat} (hj : j < 32) => low_b (y := x ^^^ b) (d := d) d1 (by
      rw [b_xor]
      revert d2
      cases bt x d <;> cases bt b d <;> simp) (fun j hj z => by
      rw [b_xor] at z
      have k : bt x j = bt b j := by
        apply Classical.byContradiction
        intro k
        exact d3 j hj k
      rw [k] at z
      revert z
      cases bt b j <;> simp) hj
    have R : (x &&& ((x ^^^ b) &&& -(x ^^^ b))).toInt = 0 ↔ ¬ bt x d = true := by
      rw [z_bits]
      constructor
      · intro z k
        have := z d d1
        rw [b_and, L d1, decide_eq_true rfl, k] at this
        exact absurd this (by decide)
      · intro z j hj
        rw [b_and, L hj]
        by_cases c : j = d
        · rw [c]
          cases k : bt x d with
          | false => rfl
          | true => exact absurd k z
        · rw [decide_eq_false c, Bool.and_false]
    rw [R]
    obtain ⟨e, he⟩ : ∃ e, e = cnt (fun j => bt x j = true) d := ⟨_, rfl⟩
    have he2 : cnt (fun j => bt b j = true) d = e := by
      rw [he]
      exact (cnt_cg d (fun j hj => same j hj)).symm
    have hl : ∀ i, i < e → ∀ r : Int32, r.toInt = i → (F_X11_ithOf x r).toInt = (F_X11_ithOf b r).toInt := fun i hi r hr => by
      obtain ⟨p, p1, p2, p3⟩ := cnt_ex (P := fun j => bt x j = true) (e := i) d (by omega)
      rw [ithS hr (by omega) p2 p3, ithS hr (by omega) ((same p p1).mp p2) (by
        rw [← p3]
        exact (cnt_cg p (fun j hj => same j (by omega))).symm)]
    have other : ∀ {u v : Int32}, cnt (fun j => bt u j = true) d = e → cnt (fun j => bt v j = true) d = e → bt u d = true → ¬ bt v d = true → cnt (fun j => bt u j = true) 12 = cnt (fun j => bt v j = true) 12 → cnt (fun j => bt u j = true) 12 ≤ 3 → e < 3 ∧ (∀ r : Int32, r.toInt = e → (F_X11_ithOf u r).toInt = d) ∧ ∃ q, d < q ∧ ∀ r : Int32, r.toInt = e → (F_X11_ithOf v r).toInt = q := fun {u v} u1 v1 u2 v2 c1 c2 => by
      have a := cnt_mno (P := fun j => bt u j = true) (m := d + 1) 12 (by omega)
      rw [cnt_t (P := fun j => bt u j = true) (n := d) u2] at a
      obtain ⟨q, q1, q2, q3⟩ := cnt_ex (P := fun j => bt v j = true) (e := e) 12 (by omega)
      refine ⟨by omega, fun r hr => ithS hr d12 u2 u1, q, ?_, fun r hr => ithS hr q1 q2 q3⟩
      apply Classical.byContradiction
      intro z
      by_cases k : q = d
      · exact v2 (by rw [← k]; exact q2)
      · have m := cnt_mno (P := fun j => bt v j = true) (m := q + 1) d (by omega)
        rw [cnt_t (P := fun j => bt v j = true) (n := q) q2] at m
        omega
    by_cases X : bt x d = true
    · have Bd : ¬ bt b d = true := fun z => d2 (by rw [X, z])
      obtain ⟨k1, k2, q, k3, k4⟩ := other he.symm he2 X Bd hc h3
      rw [erlL k1 hl k2 k4 (by omega) 10000 0 0 z0 (by omega) (by omega), if_pos k3]
      exact ⟨fun z => absurd z (by decide), fun z => absurd X z⟩
    · have Bd : bt b d = true := by
        revert d2 X
        cases bt x d <;> cases bt b d <;> simp
      obtain ⟨k1, k2, q, k3, k4⟩ := other he2 he.symm Bd X hc.symm (by omega)
      rw [erlL k1 hl k4 k2 (by omega) 10000 0 0 z0 (by omega) (by omega), if_neg (by omega)]
      exact ⟨fun _ => X, fun _ => rfl⟩
end ITH
