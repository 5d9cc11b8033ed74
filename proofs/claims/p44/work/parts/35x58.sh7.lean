/-! TOUR, PARTED -/
theorem bt_nat (k : Nat) {i : Nat} (hi : i < 32) : bt (Int32.ofNat k) i = k.testBit i := by
  show (BitVec.ofNat 32 k).getLsbD i = _
  rw [BitVec.getLsbD_ofNat]
  simp [hi]
/-- twelve bits are a number below 4096 -/
theorem i12 {x : Int32} (h : ∀ j, 12 ≤ j → j < 32 → bt x j = false) : ∃ n : Nat, n < 4096 ∧ x.toInt = n ∧ x = Int32.ofNat n ∧ ∀ j, j < 32 → n.testBit j = bt x j := by
  have hl : x.toBitVec.toNat < 2 ^ 12 := Nat.lt_pow_two_of_testBit _ (fun i hi => by
    rw [BitVec.testBit_toNat]
    by_cases c : i < 32
    · exact h i hi c
    · exact BitVec.getLsbD_of_ge _ _ (by omega))
  have e : x.toInt = x.toBitVec.toNat := by
    show x.toBitVec.toInt = _
    exact BitVec.toInt_eq_toNat_of_lt (by omega)
  refine ⟨x.toBitVec.toNat, hl, e, ?_, fun j _ => BitVec.testBit_toNat _⟩
  exact Int32.toInt_inj.mp (e.trans (Int32.toInt_ofNat_of_lt (by omega)).symm)
theorem b_m1 : ∀ i, i < 32 → bt (-1) i = true := by decide +kernel
def mnI (a b : Int32) : Int32 := if a.toInt ≤ b.toInt then a else b
def mxI (a b : Int32) : Int32 := if a.toInt ≤ b.toInt then b else a
noncomputable def pmn (T : Int32 → Int32) (all : Int32) : Nat → Int32
  | 0 => T all
  | k + 1 => @ite Int32 ((Int32.ofNat k &&& all) = Int32.ofNat k) (Classical.propDecidable _) (mnI (pmn T all k) (mxI (T (Int32.ofNat k)) (T (all &&& (Int32.ofNat k ^^^ (-1 : Int32)))))) (pmn T all k)
section PARTED
variable {T : Int32 → Int32} {all : Int32} {k a : Nat}
theorem pmn_s (h : (Int32.ofNat k &&& all) = Int32.ofNat k) : pmn T all (k + 1) = mnI (pmn T all k) (mxI (T (Int32.ofNat k)) (T (all &&& (Int32.ofNat k ^^^ (-1 : Int32))))) := by rw [pmn, if_pos h]
theorem pmn_n (h : ¬ (Int32.ofNat k &&& all) = Int32.ofNat k) : pmn T all (k + 1) = pmn T all k := by rw [pmn, if_neg h]
theorem mnI_le {x y : Int32} : (mnI x y).toInt ≤ x.toInt := by
  unfold mnI
  split
  · exact Int.le_refl _
  · omega
theorem pmn_le : ∀ k, (pmn T all k).toInt ≤ (T all).toInt := by
  intro k
  induction k with
  | zero => exact Int.le_refl _
  | succ k ih =>
    by_cases h : (Int32.ofNat k &&& all) = Int32.ofNat k
    · rw [pmn_s h]
      exact Int.le_trans mnI_le ih
    · rw [pmn_n h]; exact ih
theorem mn_mx {b v w : Int32} : (if v.toInt < w.toInt then (if w.toInt < b.toInt then w else b) else (if v.toInt < b.toInt then v else b)) = mnI b (mxI v w) := by
  have m : mxI v w = if v.toInt < w.toInt then w else v := by unfold mxI; exact mx_e.symm
  rw [m]
  unfold mnI
  by_cases c : v.toInt < w.toInt
  · rw [if_pos c, if_pos c]
    by_cases d : w.toInt < b.toInt
    · rw [if_pos d, if_neg (by omega)]
    · rw [if_neg d, if_pos (by omega)]
  · rw [if_neg c, if_neg c]
    by_cases d : v.toInt < b.toInt
    · rw [if_pos d, if_neg (by omega)]
    · rw [if_neg d, if_pos (by omega)]
/-- within: told two ways -/
theorem sub_e {x : Int32} : (x &&& (all ^^^ (-1 : Int32))).toInt = 0 ↔ (x &&& all) = x := by
  have e0 : (0 : Int32).toInt = 0 := by decide
  constructor
  · intro h
    have h0 : x &&& (all ^^^ (-1 : Int32)) = 0 := Int32.toInt_inj.mp (h.trans e0.symm)
    refine b_ext (fun j hj => ?_)
    have q := b_and x (all ^^^ (-1 : Int32)) j
    rw [h0, b_0, b_xor, b_m1 j hj] at q
    rw [b_and]
    cases h1 : bt x j with
    | false => rfl
    | true =>
      rw [h1] at q
      cases h2 : bt all j with
      | false => rw [h2] at q; cases q
      | true => rfl
  · intro h
    have h0 : x &&& (all ^^^ (-1 : Int32)) = 0 := b_ext (fun j hj => by
      have q := b_and x all j
      rw [h] at q
      rw [b_and, b_0, b_xor, b_m1 j hj]
      cases h1 : bt x j with
      | false => rfl
      | true =>
        rw [h1] at q
        cases h2 : bt all j with
        | false => rw [h2] at q; cases q
        | true => rfl)
    rw [h0]; exact e0
/-- all itself brings nothing new, nor what stands behind it -/
theorem pmn_end (ha : all = Int32.ofNat a) (he : a % 2 = 0) (h0 : bt all 0 = false) : pmn T all (a + 2) = pmn T all a := by
  have odd : ¬ (Int32.ofNat (a + 1) &&& all) = Int32.ofNat (a + 1) := fun h => by
    have q := b_and (Int32.ofNat (a + 1)) all 0
    rw [h, h0, bt_nat _ (by decide), Nat.testBit_zero] at q
    have : (a + 1) % 2 = 1 := by omega
    simp [this] at q
  rw [pmn_n odd]
  have self : (Int32.ofNat a &&& all) = Int32.ofNat a := by
    rw [← ha]
    exact b_ext (fun j _ => by rw [b_and, Bool.and_self])
  rw [pmn_s self, ← ha]
  have l := pmn_le (T := T) (all := all) a
  have m : (T all).toInt ≤ (mxI (T all) (T (all &&& (all ^^^ (-1 : Int32))))).toInt := by
    unfold mxI
    split
    · assumption
    · exact Int.le_refl _
  unfold mnI
  rw [if_pos (by omega)]
end PARTED
section TOURB
variable {κ : Int} {L1 : List Nat} {kd1 : Nat → Nat} {L2 : List Nat} {kd2 : Nat → Nat} {σ1 σ2 τ1 τ2 : zS} {m0 x0 : Nat} {Q : Nat → zCo → (Nat → Int32) → Prop} {V : zWh} {ps pc sl rv sh cd : Nat} {v1 v2 p q r : Int32}
/-- what both looks give, at hand -/
theorem zRL.lk2 (hG : zGd Q) (h : zRL Q L1 kd1 x0 m0 V ps pc sl rv sh cd σ1 σ2) (hl : zLen x0 m0 σ1 σ2) (hx : zT L1 kd1 x0 10) (hI : zI κ 0 L1 kd1 σ1) (hJ : zJ κ L2 kd2 σ2) (hm : zT L2 kd2 m0 11) (hg : gN m0 σ2) : ∃ (N M : Nat) (u : Nat → Nat) (FR SR ℓ : Nat → Int32) (l : Nat → Nat) (A1 A2 A3 A4 A6 : Nat) (s t : zS), s = F_X10_look x0 σ1 ∧ t = F_X11_copies m0 σ2 ∧ zLk N u FR SR ℓ kd1 x0 m0 rv sh l σ1 σ2 s t ∧ ((s.2.2 x0 3).getD 0 = sh ∧ (s.2.2 sh 1).getD 0 = A1 ∧ (s.2.2 sh 2).getD 0 = A2 ∧ (s.2.2 sh 3).getD 0 = A3 ∧ (s.2.2 sh 4).getD 0 = A4 ∧ (s.2.2 sh 6).getD 0 = A6) ∧ zShp N u ℓ FR sh A1 A2 A3 A4 A6 l s ∧ ((M = N ∧ 1 ≤ N) ∨ (M = 1 ∧ N = 0)) := by
  obtain ⟨N, u, FR, SR, ℓ, l, K⟩ := h.lk hG hl hx hI hJ hm hg
  obtain ⟨-, -, -, ⟨C1, -, C3⟩, -⟩ := id K
  have hV := h.2.1
  have nx : x0 ≠ rv := zNk hx hV.2.1.2.1 (by decide)
  have ns : sh ≠ rv := zNk hV.2.1.2.2.1 hV.2.1.2.1 (by decide)
  have e : ∀ j, (F_X10_look x0 σ1).2.2 sh j = σ1.2.2 sh j := fun j => C1 sh j (fun z => ns z.1)
  refine ⟨N, if N = 0 then 1 else N, u, FR, SR, ℓ, l, _, _, _, _, _, _, _, rfl, rfl, K, ⟨by rw [C1 x0 3 (fun z => nx z.1), hV.1.2.1]; rfl, by rw [e], by rw [e], by rw [e], by rw [e], by rw [e]⟩, C3, ?_⟩
  by_cases c : N = 0
  · rw [if_pos c]; exact Or.inr ⟨rfl, c⟩
  · rw [if_neg c]; exact Or.inl ⟨rfl, by omega⟩
theorem zRL.tour (hG : zGd Q) (h : zRL Q L1 kd1 x0 m0 V ps pc sl rv sh cd σ1 σ2) (hl : zLen x0 m0 σ1 σ2) (hx : zT L1 kd1 x0 10) (hI : zI κ 0 L1 kd1 σ1) (hJ : zJ κ L2 kd2 σ2) (hm : zT L2 kd2 m0 11) (hg : gN m0 σ2) (f1 : (v1, τ1) = F_X10_tour x0 σ1) (f2 : (v2, τ2) = F_X11_tour m0 σ2) : v1.toInt = v2.toInt := by
  obtain ⟨N, M, u, FR, SR, ℓ, l, A1, A2, A3, A4, A6, s, t, hs, ht, ⟨⟨n1, n2, n3, n4⟩, -, hb, -, hM⟩, ⟨g0, g1, g2, g3, g4, g6⟩, hP, hMN⟩ := h.lk2 hG hl hx hI hJ hm hg
  obtain ⟨SB, c1, c2⟩ := cSources hP g4 n1
  have m1 := mSources hM hJ hm n2 n1
  have eS : F_X11_sourceBits m0 t = SB := b_ext (fun j hj => by
    have a := m1 j hj
    have b := c2 j hj
    cases h1 : bt (F_X11_sourceBits m0 t) j with
    | false =>
      cases h2 : bt SB j with
      | false => rfl
      | true => rw [b.mp h2 |> a.mpr] at h1; cases h1
    | true => exact (b.mpr (a.mp h1)).symm)
  have T1 := cTour hP g1 g3 g6 n1 hMN SB
  have T2 := mTour hM hJ hm n2 n1 (fun c c1 c2 => (hb c c1 c2).1) hMN SB (fun j hj hz => by
    have := (c2 j hj).mp hz
    exact ⟨this.1, this.2.1⟩)
  unfold F_X10_tour at f1
  unfold F_X11_tour at f2
  simp only [zlt, zlt2] at f1 f2
  rw [← hs, g0, c1, T1] at f1
  rw [← ht, eS, T2] at f2
  rw [(zPr2 f1).1, (zPr2 f2).1]
end TOURB
section PARTB
variable {N M sh A1 A2 A3 A4 A6 x0 m0 : Nat} {u l : Nat → Nat} {ℓ FR SR : Nat → Int32} {s t σ : zS} {L : List Nat} {kd : Nat → Nat} {κ : Int} {all : Int32} {a : Nat} {T : Int32 → Int32}
theorem cPart (hT : ∀ set, F_X6_tourOf sh set s = (T set, s)) (g0 : (s.2.2 x0 3).getD 0 = sh) (ha : all.toInt = a) (ha2 : a < 4096) : ∀ (n : Nat) (x : Int32) (i : Nat) (y : Int32), x = Int32.ofNat i → i ≤ a → a - i < n → y = pmn T all i → F_X10_parted_23 all x0 n x y s = (pmn T all a, s) := by
  intro n
  induction n with
  | zero => intro x i y _ _ h; exact absurd h (by omega)
  | succ n ih =>
    intro x i y hx hi hm hy
    have xi : x.toInt = i := by rw [hx]; exact Int32.toInt_ofNat_of_lt (by omega)
    have e1 : (1 : Int32).toInt = 1 := by decide
    have w1 : (x + (1 : Int32)).toInt = (i : Int) + 1 := by rw [zb_add (by rw [xi, e1]; omega) (by rw [xi, e1]; omega), xi, e1]
    have w2 : (Int32.ofNat (i + 1)).toInt = ((i + 1 : Nat) : Int) := Int32.toInt_ofNat_of_lt (by omega)
    have x1 : x + (1 : Int32) = Int32.ofNat (i + 1) := Int32.toInt_inj.mp (by omega)
    rw [F_X10_parted_23]
    simp only [zlt, zlt2, g0, hT]
    by_cases c : i < a
    · rw [if_pos (by omega)]
      by_cases c2 : (x &&& all).toInt = x.toInt
      · rw [if_pos c2]
        have c3 : (Int32.ofNat i &&& all) = Int32.ofNat i := by rw [← hx]; exact Int32.toInt_inj.mp c2
        refine ih _ (i + 1) _ x1 (by omega) (by omega) ?_
        rw [pmn_s c3, ← hx, ← hy]
        rfl
      · rw [if_neg c2]
        have c3 : ¬ (Int32.ofNat i &&& all) = Int32.ofNat i := fun z => c2 (by rw [← hx] at z; rw [z])
        exact ih _ (i + 1) y x1 (by omega) (by omega) (by rw [pmn_n c3]; exact hy)
    · rw [if_neg (by omega)]
      obtain rfl : i = a := by omega
      rw [hy]
theorem mPart (hT : ∀ set, (set &&& all) = set → F_X11_tourOf m0 set t = T set) (ha : all.toInt = a) (ha2 : a < 4096) (he : a % 2 = 0) (h0 : bt all 0 = false) : ∀ (n : Nat) (x : Int32) (i : Nat) (y : Int32), x = Int32.ofNat i → i % 2 = 0 → i ≤ a + 2 → a + 2 - i < n → y = pmn T all i → F_X11_parted_17 all m0 n x y t = (pmn T all (a + 2), t) := by
  have e2 : (2 : Int32).toInt = 2 := by decide
  intro n
  induction n with
  | zero => intro x i y _ _ _ h; exact absurd h (by omega)
  | succ n ih =>
    intro x i y hx h2 hi hm hy
    have xi : x.toInt = i := by rw [hx]; exact Int32.toInt_ofNat_of_lt (by omega)
    rw [F_X11_parted_17]
    simp only [zlt]
    by_cases c : a < i
    · rw [if_pos (by omega)]
      have : i = a + 2 := by omega
      rw [hy, this]
    · rw [if_neg (by omega)]
      have w1 : (x + (2 : Int32)).toInt = (i : Int) + 2 := by rw [zb_add (by rw [xi, e2]; omega) (by rw [xi, e2]; omega), xi, e2]
      have w2 : (Int32.ofNat (i + 2)).toInt = ((i + 2 : Nat) : Int) := Int32.toInt_ofNat_of_lt (by omega)
      have x2 : x + (2 : Int32) = Int32.ofNat (i + 2) := Int32.toInt_inj.mp (by omega)
      have odd : ¬ (Int32.ofNat (i + 1) &&& all) = Int32.ofNat (i + 1) := fun h => by
        have q := b_and (Int32.ofNat (i + 1)) all 0
        rw [h, h0, bt_nat _ (by decide), Nat.testBit_zero] at q
        have : (i + 1) % 2 = 1 := by omega
        simp [this] at q
      by_cases c2 : (x &&& (all ^^^ (-1 : Int32))).toInt = 0
      · rw [if_pos c2]
        have c3 : (x &&& all) = x := sub_e.mp c2
        have w : (all &&& (x ^^^ (-1 : Int32))) &&& all = all &&& (x ^^^ (-1 : Int32)) := b_ext (fun j _ => by
          rw [b_and, b_and]
          cases bt all j <;> simp)
        rw [hT x c3, hT _ w]
        have fin : ∀ y', y' = mnI y (mxI (T x) (T (all &&& (x ^^^ (-1 : Int32))))) → F_X11_parted_17 all m0 n (x + (2 : Int32)) y' t = (pmn T all (a + 2), t) := fun y' hy' => ih _ (i + 2) y' x2 (by omega) (by omega) (by omega) (by
          rw [pmn_n odd, pmn_s (by rw [← hx]; exact c3), ← hx, ← hy]
          exact hy')
        have key := mn_mx (b := y) (v := T x) (w := T (all &&& (x ^^^ (-1 : Int32))))
        by_cases d1 : (T x).toInt < (T (all &&& (x ^^^ (-1 : Int32)))).toInt
        · rw [if_pos d1] at key ⊢
          by_cases d2 : (T (all &&& (x ^^^ (-1 : Int32)))).toInt < y.toInt
          · rw [if_pos d2] at key ⊢
            exact fin _ key
          · rw [if_neg d2] at key ⊢
            exact fin _ key
        · rw [if_neg d1] at key ⊢
          by_cases d2 : (T x).toInt < y.toInt
          · rw [if_pos d2] at key ⊢
            exact fin _ key
          · rw [if_neg d2] at key ⊢
            exact fin _ key
      · rw [if_neg c2]
        exact ih _ (i + 2) y x2 (by omega) (by omega) (by omega) (by rw [pmn_n odd, pmn_n (fun z => c2 (sub_e.mpr (by rw [hx]; exact z)))]; exact hy)
end PARTB
section PARTC
variable {κ : Int} {L1 : List Nat} {kd1 : Nat → Nat} {L2 : List Nat} {kd2 : Nat → Nat} {σ1 σ2 τ1 τ2 : zS} {m0 x0 : Nat} {Q : Nat → zCo → (Nat → Int32) → Prop} {V : zWh} {ps pc sl rv sh cd : Nat} {v1 v2 p q r : Int32}
theorem zRL.parted (hG : zGd Q) (h : zRL Q L1 kd1 x0 m0 V ps pc sl rv sh cd σ1 σ2) (hl : zLen x0 m0 σ1 σ2) (hx : zT L1 kd1 x0 10) (hI : zI κ 0 L1 kd1 σ1) (hJ : zJ κ L2 kd2 σ2) (hm : zT L2 kd2 m0 11) (hg : gN m0 σ2) (f1 : (v1, τ1) = F_X10_parted x0 σ1) (f2 : (v2, τ2) = F_X11_parted m0 σ2) : v1.toInt = v2.toInt := by
  obtain ⟨N, M, u, FR, SR, ℓ, l, A1, A2, A3, A4, A6, s, t, hs, ht, ⟨⟨n1, n2, n3, n4⟩, -, hb, -, hM⟩, ⟨g0, g1, g2, g3, g4, g6⟩, hP, hMN⟩ := h.lk2 hG hl hx hI hJ hm hg
  obtain ⟨SB, c1, c2⟩ := cSources hP g4 n1
  have m1 := mSources hM hJ hm n2 n1
  have eS : F_X11_sourceBits m0 t = SB := b_ext (fun j hj => by
    have a := m1 j hj
    have b := c2 j hj
    cases h1 : bt (F_X11_sourceBits m0 t) j with
    | false =>
      cases h2 : bt SB j with
      | false => rfl
      | true => rw [b.mp h2 |> a.mpr] at h1; cases h1
    | true => exact (b.mpr (a.mp h1)).symm)
  have in12 : ∀ j, 12 ≤ j → j < 32 → bt SB j = false := fun j j1 j2 => by
    cases hc : bt SB j with
    | false => rfl
    | true => have := ((c2 j j2).mp hc).2.1; omega
  have z0 : bt SB 0 = false := by
    cases hc : bt SB 0 with
    | false => rfl
    | true => have := ((c2 0 (by decide)).mp hc).1; omega
  obtain ⟨a, a1, a2, a3, a4⟩ := i12 in12
  have ev : a % 2 = 0 := by
    have q := a4 0 (by decide)
    rw [z0, Nat.testBit_zero] at q
    have := of_decide_eq_false q
    omega
  obtain ⟨T, hT⟩ : ∃ T : Int32 → Int32, T = fun set => (2 : Int32) * tsm ℓ (fun t => ∃ q, 1 ≤ q ∧ q < N ∧ bt set q = true ∧ An u t q) M - tmx FR (fun q => bt set q = true) M := ⟨_, rfl⟩
  have T1 : ∀ set, F_X6_tourOf sh set s = (T set, s) := fun set => by rw [hT]; exact cTour hP g1 g3 g6 n1 hMN set
  have T2 : ∀ set, (set &&& SB) = set → F_X11_tourOf m0 set t = T set := fun set hw => by
    rw [hT]
    exact mTour hM hJ hm n2 n1 (fun c c1 c2 => (hb c c1 c2).1) hMN set (fun j hj hz => by
      have q := b_and set SB j
      rw [hw, hz] at q
      have w : bt SB j = true := by
        cases hc : bt SB j with
        | true => rfl
        | false => rw [hc] at q; cases q
      have := (c2 j hj).mp w
      exact ⟨this.1, this.2.1⟩)
  have self : (SB &&& SB) = SB := b_ext (fun j _ => by rw [b_and, Bool.and_self])
  have P1 := cPart (x0 := x0) (a := a) T1 g0 a2 a1 4294967299 0 0 (T SB) rfl (by omega) (by omega) rfl
  have P2 := mPart (m0 := m0) (a := a) T2 a2 a1 ev z0 10000 0 0 (T SB) rfl rfl (by omega) (by omega) rfl
  rw [pmn_end a3 ev z0] at P2
  unfold F_X10_parted at f1
  unfold F_X11_parted at f2
  simp only [zlt, zlt2] at f1 f2
  rw [← hs, g0, c1] at f1
  simp only at f1
  rw [g0, T1] at f1
  simp only at f1
  rw [P1] at f1
  rw [← ht, eS, T2 SB self, P2] at f2
  rw [(zPr2 f1).1, (zPr2 f2).1]
end PARTC
