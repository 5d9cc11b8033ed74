/-! BITS COUNTED; DEPTH -/
def pcr (n : Nat) : Nat → Nat
  | 0 => 0
  | k + 1 => pcr n k + (n.testBit k).toNat
def bc (x : Int32) : Int32 :=
  let v5 := x - ((x.toUInt32 >>> ((1 : Int32).toUInt32 &&& Int32.toUInt32 31)).toInt32 &&& 1431655765)
  let v12 := (v5 &&& 858993459) + ((v5.toUInt32 >>> ((2 : Int32).toUInt32 &&& Int32.toUInt32 31)).toInt32 &&& 858993459)
  let v17 := (v12 + (v12.toUInt32 >>> ((4 : Int32).toUInt32 &&& Int32.toUInt32 31)).toInt32) &&& 252645135
  let v20 := v17 + (v17.toUInt32 >>> ((8 : Int32).toUInt32 &&& Int32.toUInt32 31)).toInt32
  (v20 + (v20.toUInt32 >>> ((16 : Int32).toUInt32 &&& Int32.toUInt32 31)).toInt32) &&& 63
theorem bc_all : ∀ a b : Fin 64, bc (Int32.ofNat (64 * a.val + b.val)) = Int32.ofNat (pcr (64 * a.val + b.val) 12) := by decide +kernel
theorem bc_e (x : Int32) : F_J6_bitCount_0f7a4 x = bc x := by
  unfold F_J6_bitCount_0f7a4 bc
  simp only [zlt]
theorem pcr_c {x : Int32} {n : Nat} (h : ∀ j, j < 32 → n.testBit j = bt x j) : ∀ k, k ≤ 32 → pcr n k = cnt (fun j => bt x j = true) k := by
  intro k
  induction k with
  | zero => intro _; rfl
  | succ k ih =>
    intro hk
    rw [pcr, cnt, ih (by omega), h k (by omega)]
    cases hb : bt x k with
    | false =>
      rw [if_neg (by decide)]
      rfl
    | true =>
      rw [if_pos rfl]
      rfl
theorem cnt_ext {P : Nat → Prop} {N : Nat} : ∀ M, N ≤ M → (∀ j, N ≤ j → j < M → ¬ P j) → cnt P M = cnt P N := by
  intro M
  induction M with
  | zero => intro h _; rw [show N = 0 by omega]
  | succ M ih =>
    intro h hp
    by_cases c : N = M + 1
    · rw [c]
    · rw [cnt, ih (by omega) (fun j j1 j2 => hp j j1 (by omega)), if_neg (hp M (by omega) (by omega))]
      rfl
/-- the class' count of twelve bits -/
theorem bitC {x : Int32} (h : ∀ j, 12 ≤ j → j < 32 → bt x j = false) : (F_J6_bitCount_0f7a4 x).toInt = cnt (fun j => bt x j = true) 12 := by
  obtain ⟨n, n1, n2, n3, n4⟩ := i12 h
  have q := bc_all ⟨n / 64, by omega⟩ ⟨n % 64, by omega⟩
  have e : 64 * (n / 64) + n % 64 = n := by omega
  rw [show (64 * (⟨n / 64, by omega⟩ : Fin 64).val + (⟨n % 64, by omega⟩ : Fin 64).val) = n from e] at q
  have c := pcr_c n4 12 (by decide)
  have le := cnt_le (P := fun j => bt x j = true) 12
  rw [bc_e, n3, q, ← n3, c]
  exact Int32.toInt_ofNat_of_lt (by omega)
/-- the reference's -/
theorem bitM {x : Int32} : (F_X11_bits x).toInt = cnt (fun j => bt x j = true) 12 := by
  have e12 : (12 : Int32).toInt = 12 := by decide
  have e0 : (0 : Int32).toInt = 0 := by decide
  have key : ∀ (n : Nat) (x3 : Int32) (i : Nat) (y : Int32), x3.toInt = i → i ≤ 12 → 12 - i < n → y.toInt = cnt (fun j => bt x j = true) i → (F_X11_bits_4 x n x3 y).toInt = cnt (fun j => bt x j = true) 12 := by
    intro n
    induction n with
    | zero => intro x3 i y _ _ h; exact absurd h (by omega)
    | succ n ih =>
      intro x3 i y hx hi hm hy
      rw [F_X11_bits_4]
      simp only [zlt, e12]
      by_cases c : i < 12
      · rw [if_pos (by omega)]
        have cut := bt_cut (x := x) hx (by omega)
        have le := cnt_le (P := fun j => bt x j = true) i
        have v : ((x >>> (x3 &&& 31)) &&& (1 : Int32)).toInt = if bt x i = true then 1 else 0 := by
          by_cases b : bt x i = true
          · rw [if_pos b]; exact cut.2.mpr b
          · rw [if_neg b]; exact cut.1.mpr b
        have v2 : 0 ≤ ((x >>> (x3 &&& 31)) &&& (1 : Int32)).toInt ∧ ((x >>> (x3 &&& 31)) &&& (1 : Int32)).toInt ≤ 1 := by rw [v]; split <;> omega
        refine ih _ (i + 1) _ (zp1 hx (by omega)) (by omega) (by omega) ?_
        rw [zb_add (by omega) (by omega), hy, v, cnt]
        by_cases b : bt x i = true
        · rw [if_pos b, if_pos b]; omega
        · rw [if_neg b, if_neg b]; omega
      · rw [if_neg (by omega)]
        have : i = 12 := by omega
        rw [hy, this]
  unfold F_X11_bits
  simp only [zlt]
  exact key 10000 0 0 0 e0 (by omega) (by omega) e0
theorem child {N : Nat} {u : Nat → Nat} (hT : zTr N u) {p : Nat} : ∀ j, j < N → An u p j → j ≠ p → ∃ c, 1 ≤ c ∧ c < N ∧ u c = p := by
  refine hT.ind _ (fun h n => absurd (An_0.mp h).symm n) (fun c h1 h2 ih h n => ?_)
  rcases (An_s (by omega)).mp h with e | e
  · exact absurd e.symm n
  · by_cases w : u c = p
    · exact ⟨c, h1, h2, w⟩
    · exact ih e w
section DEEP
variable {N sh A1 A2 A3 A4 A6 : Nat} {u l : Nat → Nat} {ℓ FR : Nat → Int32} {s : zS}
theorem cDeep (hP : zShp N u ℓ FR sh A1 A2 A3 A4 A6 l s) (hT : zTr N u) (g6 : (s.2.2 sh 6).getD 0 = A6) (hN : N ≤ 12) : ∀ (n : Nat) (x : Int32) (i : Nat) (y : Int32), x.toInt = i → 1 ≤ i → i ≤ 12 → 12 - i < n → 0 ≤ y.toInt → y.toInt ≤ 12 → (y.toInt = 0 ∨ ∃ p, 1 ≤ p ∧ p < N ∧ y.toInt = dep N u p) → (∀ p, 1 ≤ p → p < i → p < N → (dep N u p : Int) ≤ y.toInt) → ∃ z, F_X6_deepest_4 sh n x y s = (z, s) ∧ 0 ≤ z.toInt ∧ (z.toInt = 0 ∨ ∃ p, 1 ≤ p ∧ p < N ∧ z.toInt = dep N u p) ∧ ∀ p, 1 ≤ p → p < N → (dep N u p : Int) ≤ z.toInt := by
  have h0 := hP.1
  intro n
  induction n with
  | zero => intro x i y _ _ _ h; exact absurd h (by omega)
  | succ n ih =>
    intro x i y hx h1 hi hm y0 y12 hy hmax
    have nx : x.toNatClampNeg = i := by rw [ztn, hx]; rfl
    rw [F_X6_deepest_4]
    simp only [zlt, g6, nx]
    by_cases c : i < N
    · rw [if_pos (by omega)]
      have bits := hP.2.1.2.2.1 i c
      have big : ∀ j, 12 ≤ j → j < 32 → bt (s.1 A6 i) j = false := fun j j1 j2 => by
        cases hc : bt (s.1 A6 i) j with
        | false => rfl
        | true => have := hT.lt (by omega) i c j ((bits j j2).mp hc); omega
      have d : (F_J6_bitCount_0f7a4 (s.1 A6 i)).toInt = dep N u i := by
        rw [bitC big, cnt_cg (Q := fun j => An u j i) 12 (fun j hj => bits j (by omega)), cnt_ext (N := N) 12 hN (fun j j1 j2 h => by have := hT.lt (by omega) i c j h; omega)]
        rfl
      have db := dep_b hT i c
      have x1 : (x + (1 : Int32)).toInt = (i + 1 : Nat) := zp1 hx (by omega)
      by_cases c2 : y.toInt ≤ (F_J6_bitCount_0f7a4 (s.1 A6 i)).toInt
      · rw [if_pos c2]
        refine ih _ (i + 1) _ x1 (by omega) (by omega) (by omega) (by omega) (by omega) (Or.inr ⟨i, h1, c, d⟩) (fun p p1 p2 p3 => ?_)
        by_cases e : p = i
        · rw [e]; omega
        · have := hmax p p1 (by omega) p3
          omega
      · rw [if_neg c2]
        refine ih _ (i + 1) y x1 (by omega) (by omega) (by omega) y0 y12 hy (fun p p1 p2 p3 => ?_)
        by_cases e : p = i
        · rw [e]; omega
        · exact hmax p p1 (by omega) p3
    · rw [if_neg (by omega)]
      exact ⟨y, rfl, y0, hy, fun p p1 p2 => hmax p p1 (by omega) p2⟩
end DEEP
section DEEPM
variable {L : List Nat} {kd : Nat → Nat} {m0 N : Nat} {u : Nat → Nat} {FR SR : Nat → Int32} {σ t : zS} {κ : Int}
theorem mDeep (h : zShM N u FR SR m0 σ t) (hJ : zJ κ L kd σ) (hm : zT L kd m0 11) (hM : zM m0 σ = N) (hN : N ≤ 12) (hT : zTr N u) (hS : ∀ c, c < N → (SR c).toInt + 1 = dep N u c) : ∀ (n : Nat) (x : Int32) (i : Nat) (y : Int32), x.toInt = i → 1 ≤ i → i ≤ 12 → 12 - i < n → 0 ≤ y.toInt → (y.toInt = 0 ∨ ∃ p, Src N u p ∧ y.toInt = dep N u p) → (∀ p, Src N u p → p < i → (dep N u p : Int) ≤ y.toInt) → ∃ z, F_X11_depth_8 m0 n x y t = (z, t) ∧ 0 ≤ z.toInt ∧ (z.toInt = 0 ∨ ∃ p, Src N u p ∧ z.toInt = dep N u p) ∧ ∀ p, Src N u p → (dep N u p : Int) ≤ z.toInt := by
  have h0 := h.many hJ hm hM
  have e1 : (1 : Int32).toInt = 1 := by decide
  intro n
  induction n with
  | zero => intro x i y _ _ _ h; exact absurd h (by omega)
  | succ n ih =>
    intro x i y hx h1 hi hm' y0 hy hmax
    have nx : x.toNatClampNeg = i := by rw [ztn, hx]; rfl
    rw [F_X11_depth_8]
    simp only [zlt, h.r 53, nx]
    by_cases c : i < N
    · rw [if_pos (by omega)]
      have x1 : (x + (1 : Int32)).toInt = (i + 1 : Nat) := zp1 hx (by omega)
      have l1 : 1 ≤ i + 1 := by clear hy; omega
      have l2 : i + 1 ≤ 12 := by clear hy; omega
      have l3 : 12 - (i + 1) < n := by clear hy; omega
      have q := mIsS h hJ hm hM hN (x := x)
      rw [hx, show ((i : Int)).toNat = i by omega] at q
      have sd := hS i c
      have db := dep_b hT i c
      have v : (t.1 (mR σ m0 53) i + (1 : Int32)).toInt = dep N u i := by rw [(h.2.2.1 i c).2, zb_add (by rw [e1]; omega) (by rw [e1]; omega), e1]; omega
      by_cases c2 : (F_X11_isSource m0 x t).toInt = 0
      · rw [if_pos c2]
        refine ih _ (i + 1) y x1 l1 l2 l3 y0 hy (fun p p1 p2 => ?_)
        by_cases e : p = i
        · rw [e] at p1
          exact absurd ⟨by omega, p1⟩ (q.mp c2)
        · exact hmax p p1 (by omega)
      · rw [if_neg c2]
        have hs : Src N u i := by
          apply Classical.byContradiction
          intro z
          exact c2 (q.mpr (fun w => z w.2))
        by_cases c3 : y.toInt < (t.1 (mR σ m0 53) i + (1 : Int32)).toInt
        · rw [if_pos c3]
          refine ih _ (i + 1) _ x1 l1 l2 l3 (by clear hy; omega) (Or.inr ⟨i, hs, v⟩) (fun p p1 p2 => ?_)
          by_cases e : p = i
          · rw [e]; omega
          · have := hmax p p1 (by omega)
            omega
        · rw [if_neg c3]
          refine ih _ (i + 1) y x1 l1 l2 l3 y0 hy (fun p p1 p2 => ?_)
          by_cases e : p = i
          · rw [e]; omega
          · exact hmax p p1 (by omega)
    · rw [if_neg (by omega)]
      exact ⟨y, rfl, y0, hy, fun p p1 => hmax p p1 (by have := p1.2.1; omega)⟩
end DEEPM
section DEEPB
variable {κ : Int} {L1 : List Nat} {kd1 : Nat → Nat} {L2 : List Nat} {kd2 : Nat → Nat} {σ1 σ2 τ1 τ2 : zS} {m0 x0 : Nat} {Q : Nat → zCo → (Nat → Int32) → Prop} {V : zWh} {ps pc sl rv sh cd : Nat} {v1 v2 p q r : Int32}
theorem zRL.depth (hG : zGd Q) (h : zRL Q L1 kd1 x0 m0 V ps pc sl rv sh cd σ1 σ2) (hl : zLen x0 m0 σ1 σ2) (hx : zT L1 kd1 x0 10) (hI : zI κ 0 L1 kd1 σ1) (hJ : zJ κ L2 kd2 σ2) (hm : zT L2 kd2 m0 11) (hg : gN m0 σ2) (f1 : (v1, τ1) = F_X10_depth x0 σ1) (f2 : (v2, τ2) = F_X11_depth m0 σ2) : v1.toInt = v2.toInt := by
  obtain ⟨N, M, u, FR, SR, ℓ, l, A1, A2, A3, A4, A6, s, t, hs, ht, ⟨⟨n1, n2, n3, n4⟩, ⟨F0, S0, hF, hS, hℓ⟩, hb, -, hM⟩, ⟨g0, g1, g2, g3, g4, g6⟩, hP, hMN⟩ := h.lk2 hG hl hx hI hJ hm hg
  have e0 : (0 : Int32).toInt = 0 := by decide
  obtain ⟨z, z1, z2, z3, z4⟩ := cDeep hP n4 g6 n1 10000 1 1 0 (by decide) (by omega) (by omega) (by omega) (by omega) (by omega) (Or.inl e0) (fun p p1 p2 => by omega)
  obtain ⟨w, w1, w2, w3, w4⟩ := mDeep hM hJ hm n2 n1 n4 (sr_d n4 n1 S0 hS) 10000 1 1 0 (by decide) (by omega) (by omega) (by omega) (by omega) (Or.inl e0) (fun p p1 p2 => by have := p1.1; omega)
  have e : z.toInt = w.toInt := by
    have a : w.toInt ≤ z.toInt := by
      rcases w3 with w3 | ⟨p, p1, p2⟩
      · omega
      · have := z4 p p1.1 p1.2.1
        omega
    have b : z.toInt ≤ w.toInt := by
      rcases z3 with z3 | ⟨p, p1, p2, p3⟩
      · omega
      · have sp : Src N u p := ⟨p1, p2, fun j hj ha => by
          apply Classical.byContradiction
          intro n
          obtain ⟨c, c1, c2, c3⟩ := child n4 j hj ha n
          have d := dep_s n4 c1 c2
          have := z4 c c1 c2
          rw [c3] at d
          omega⟩
        have := w4 p sp
        omega
    omega
  have eC : F_X6_deepest sh s = (z, s) := by
    unfold F_X6_deepest
    simp only [zlt]
    exact z1
  unfold F_X10_depth at f1
  unfold F_X11_depth at f2
  simp only [zlt, zlt2] at f1 f2
  rw [← hs, g0, eC] at f1
  rw [← ht, w1] at f2
  rw [(zPr2 f1).1, (zPr2 f2).1]
  exact e
end DEEPB
