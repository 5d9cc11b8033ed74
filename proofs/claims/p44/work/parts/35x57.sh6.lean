/-! SOURCES, TOURS: on both sides -/
def Src (N : Nat) (u : Nat → Nat) (p : Nat) : Prop := 1 ≤ p ∧ p < N ∧ ∀ j, j < N → An u p j → j = p
theorem cnt_one {N p : Nat} {u : Nat → Nat} (hp : p < N) : cnt (fun j => An u p j) N = 1 ↔ ∀ j, j < N → An u p j → j = p := by
  have e : cnt (fun j => An u p j) N = cnt (fun j => j = p ∨ (An u p j ∧ j ≠ p)) N := cnt_cg N (fun j _ => by
    constructor
    · intro h
      by_cases c : j = p
      · exact Or.inl c
      · exact Or.inr ⟨h, c⟩
    · rintro (h | h)
      · rw [h]; exact An_rf
      · exact h.1)
  rw [e, cnt_or N (fun j _ ⟨h1, h2⟩ => h2.2 h1), cnt_1, if_pos hp]
  constructor
  · intro h j hj ha
    apply Classical.byContradiction
    intro c
    have := cnt_p (P := fun j => An u p j ∧ j ≠ p) N hj ⟨ha, c⟩
    omega
  · intro h
    rw [cnt_0 N (fun j hj ⟨h1, h2⟩ => h2 (h j hj h1))]
noncomputable def tmx (FR : Nat → Int32) (P : Nat → Prop) : Nat → Int32
  | 0 => 0
  | i + 1 => @ite Int32 (1 ≤ i ∧ P i) (Classical.propDecidable _) (if (tmx FR P i).toInt ≤ (FR i).toInt then FR i else tmx FR P i) (tmx FR P i)
noncomputable def tsm (ℓ : Nat → Int32) (P : Nat → Prop) : Nat → Int32
  | 0 => 0
  | i + 1 => @ite Int32 (1 ≤ i ∧ P i) (Classical.propDecidable _) (tsm ℓ P i + ℓ i) (tsm ℓ P i)
section FOLDS
variable {FR ℓ : Nat → Int32} {P Q : Nat → Prop} {i : Nat}
theorem tmx_s (h : 1 ≤ i) (hp : P i) : tmx FR P (i + 1) = if (tmx FR P i).toInt ≤ (FR i).toInt then FR i else tmx FR P i := by rw [tmx, if_pos ⟨h, hp⟩]
theorem tmx_n (hp : ¬ (1 ≤ i ∧ P i)) : tmx FR P (i + 1) = tmx FR P i := by rw [tmx, if_neg hp]
theorem tsm_s (h : 1 ≤ i) (hp : P i) : tsm ℓ P (i + 1) = tsm ℓ P i + ℓ i := by rw [tsm, if_pos ⟨h, hp⟩]
theorem tsm_n (hp : ¬ (1 ≤ i ∧ P i)) : tsm ℓ P (i + 1) = tsm ℓ P i := by rw [tsm, if_neg hp]
theorem tmx_1 : tmx FR P 1 = 0 := by rw [tmx_n (by omega)]; rfl
theorem tsm_1 : tsm ℓ P 1 = 0 := by rw [tsm_n (by omega)]; rfl
theorem mx_e {a b : Int32} : (if a.toInt < b.toInt then b else a) = if a.toInt ≤ b.toInt then b else a := by
  by_cases c : a.toInt < b.toInt
  · rw [if_pos c, if_pos (by omega)]
  · rw [if_neg c]
    by_cases d : a.toInt ≤ b.toInt
    · rw [if_pos d]
      exact Int32.toInt_inj.mp (by omega)
    · rw [if_neg d]
end FOLDS
section SRCC
variable {N M sh A1 A2 A3 A4 A6 : Nat} {u l : Nat → Nat} {ℓ FR : Nat → Int32} {s : zS}
theorem zShp.src (hP : zShp N u ℓ FR sh A1 A2 A3 A4 A6 l s) {p : Nat} (h1 : 1 ≤ p) (h2 : p < N) : (s.1 A4 p).toInt = 0 ↔ Src N u p := by
  have a := hP.2.2.1 p h2
  have c := cnt_one (u := u) h2
  constructor
  · intro z
    exact ⟨h1, h2, c.mp (by omega)⟩
  · rintro ⟨-, -, z⟩
    have := c.mpr z
    omega
theorem cIsS (hP : zShp N u ℓ FR sh A1 A2 A3 A4 A6 l s) (g4 : (s.2.2 sh 4).getD 0 = A4) {x : Int32} : (F_X6_isSource sh x s).2 = s ∧ ((F_X6_isSource sh x s).1.toInt = 0 ↔ ¬ (0 ≤ x.toInt ∧ Src N u x.toInt.toNat)) := by
  have e0 : (0 : Int32).toInt = 0 := by decide
  have e1 : (1 : Int32).toInt = 1 := by decide
  have hN := hP.1
  unfold F_X6_isSource
  simp only [zlt, g4]
  by_cases c : 0 < x.toInt
  · rw [if_pos c]
    by_cases c2 : x.toInt < (s.1 sh 0).toInt
    · rw [if_pos c2]
      have nx : x.toNatClampNeg = x.toInt.toNat := ztn x
      have q := hP.src (p := x.toInt.toNat) (by omega) (by omega)
      rw [nx]
      by_cases c3 : (s.1 A4 x.toInt.toNat).toInt = 0
      · rw [if_pos c3]
        exact ⟨rfl, fun z => absurd (z.symm.trans e1) (by decide), fun z => absurd ⟨by omega, q.mp c3⟩ z⟩
      · rw [if_neg c3]
        exact ⟨rfl, fun _ z => c3 (q.mpr z.2), fun _ => e0⟩
    · rw [if_neg c2]
      exact ⟨rfl, fun _ z => by have := z.2.2.1; omega, fun _ => e0⟩
  · rw [if_neg c]
    exact ⟨rfl, fun _ z => by have := z.2.1; omega, fun _ => e0⟩
theorem cSrc (hP : zShp N u ℓ FR sh A1 A2 A3 A4 A6 l s) (g4 : (s.2.2 sh 4).getD 0 = A4) (hN : N ≤ 12) : ∀ (n : Nat) (x : Int32) (i : Nat) (y : Int32), x.toInt = i → 1 ≤ i → i ≤ 12 → 12 - i < n → (∀ j, j < 32 → (bt y j = true ↔ (Src N u j ∧ j < i))) → ∃ SB, F_X6_sources_4 sh n x y s = (SB, s) ∧ ∀ j, j < 32 → (bt SB j = true ↔ Src N u j) := by
  have h0 := hP.1
  intro n
  induction n with
  | zero => intro x i y _ _ _ h; exact absurd h (by omega)
  | succ n ih =>
    intro x i y hx h1 hi hm hb
    have nx : x.toNatClampNeg = i := by rw [ztn, hx]; rfl
    rw [F_X6_sources_4]
    simp only [zlt, g4, nx]
    by_cases c : i < N
    · rw [if_pos (by omega)]
      have q := hP.src h1 c
      by_cases c2 : (s.1 A4 i).toInt = 0
      · rw [if_pos c2]
        refine ih (x + (1 : Int32)) (i + 1) _ (zp1 hx (by omega)) (by omega) (by omega) (by omega) (fun j hj => ?_)
        rw [b_or, bt_bit hx (by omega) hj, Bool.or_eq_true, hb j hj, decide_eq_true_eq]
        constructor
        · rintro (⟨w1, w2⟩ | w)
          · exact ⟨w1, by omega⟩
          · rw [w]; exact ⟨q.mp c2, by omega⟩
        · rintro ⟨w1, w2⟩
          by_cases e : j = i
          · exact Or.inr e
          · exact Or.inl ⟨w1, by omega⟩
      · rw [if_neg c2]
        refine ih (x + (1 : Int32)) (i + 1) y (zp1 hx (by omega)) (by omega) (by omega) (by omega) (fun j hj => ?_)
        rw [hb j hj]
        constructor
        · rintro ⟨w1, w2⟩
          exact ⟨w1, by omega⟩
        · rintro ⟨w1, w2⟩
          refine ⟨w1, ?_⟩
          by_cases e : j = i
          · rw [e] at w1
            exact absurd (q.mpr w1) c2
          · omega
    · rw [if_neg (by omega)]
      refine ⟨y, rfl, fun j hj => ?_⟩
      rw [hb j hj]
      exact ⟨fun w => w.1, fun w => ⟨w, by have := w.2.1; omega⟩⟩
theorem cSources (hP : zShp N u ℓ FR sh A1 A2 A3 A4 A6 l s) (g4 : (s.2.2 sh 4).getD 0 = A4) (hN : N ≤ 12) : ∃ SB, F_X6_sources sh s = (SB, s) ∧ ∀ j, j < 32 → (bt SB j = true ↔ Src N u j) := by
  obtain ⟨SB, h1, h2⟩ := cSrc hP g4 hN 10000 1 1 0 (by decide) (by omega) (by omega) (by omega) (fun j hj => by
    rw [b_0]
    exact ⟨fun z => absurd z (by decide), fun z => by have := z.1.1; omega⟩)
  refine ⟨SB, ?_, h2⟩
  unfold F_X6_sources
  simp only [zlt]
  exact h1
theorem cTour2 (hP : zShp N u ℓ FR sh A1 A2 A3 A4 A6 l s) (g1 : (s.2.2 sh 1).getD 0 = A1) (hN : N ≤ 12) (hM : (M = N ∧ 1 ≤ N) ∨ (M = 1 ∧ N = 0)) {m seen set : Int32} {P : Nat → Prop} (hs : ∀ j, j < N → (bt seen j = true ↔ P j)) {k : Int32 → Int32 → Int32 → zS → Int32 × zS} : ∀ (n : Nat) (x : Int32) (i : Nat) (y : Int32), x.toInt = i → 1 ≤ i → i ≤ M → M - i < n → y = tsm ℓ P i → F_X6_tourOf_59 m seen sh set k n x y s = ((2 : Int32) * tsm ℓ P M - m, s) := by
  have h0 := hP.1
  intro n
  induction n with
  | zero => intro x i y _ _ _ h; exact absurd h (by omega)
  | succ n ih =>
    intro x i y hx h1 hi hm hy
    have nx : x.toNatClampNeg = i := by rw [ztn, hx]; rfl
    rw [F_X6_tourOf_59]
    simp only [zlt, g1, nx]
    by_cases c : i < N
    · rw [if_pos (by omega)]
      have hh := cHas (x := seen) hx (by omega)
      by_cases c2 : bt seen i = true
      · rw [hh, if_pos c2, if_neg (by decide)]
        exact ih (x + (1 : Int32)) (i + 1) _ (zp1 hx (by omega)) (by omega) (by omega) (by omega) (by rw [tsm_s h1 ((hs i c).mp c2), hy, hP.2.2.2 i h1 c])
      · rw [hh, if_neg c2, if_pos rfl]
        exact ih (x + (1 : Int32)) (i + 1) y (zp1 hx (by omega)) (by omega) (by omega) (by omega) (by rw [tsm_n (fun z => c2 ((hs i c).mpr z.2)), hy])
    · rw [if_neg (by omega)]
      obtain rfl : i = M := by omega
      rw [hy]
theorem cTour1 (hP : zShp N u ℓ FR sh A1 A2 A3 A4 A6 l s) (g1 : (s.2.2 sh 1).getD 0 = A1) (g3 : (s.2.2 sh 3).getD 0 = A3) (g6 : (s.2.2 sh 6).getD 0 = A6) (hN : N ≤ 12) (hM : (M = N ∧ 1 ≤ N) ∨ (M = 1 ∧ N = 0)) {set : Int32} : ∀ (n : Nat) (x : Int32) (i : Nat) (y z : Int32), x.toInt = i → 1 ≤ i → i ≤ M → M - i < n → y = tmx FR (fun q => bt set q = true) i → (∀ t, t < 32 → (bt z t = true ↔ ∃ q, 1 ≤ q ∧ q < i ∧ bt set q = true ∧ An u t q)) → F_X6_tourOf_7 sh set n x y z s = ((2 : Int32) * tsm ℓ (fun t => ∃ q, 1 ≤ q ∧ q < N ∧ bt set q = true ∧ An u t q) M - tmx FR (fun q => bt set q = true) M, s) := by
  have h0 := hP.1
  intro n
  induction n with
  | zero => intro x i y z _ _ _ h; exact absurd h (by omega)
  | succ n ih =>
    intro x i y z hx h1 hi hm hy hz
    have nx : x.toNatClampNeg = i := by rw [ztn, hx]; rfl
    rw [F_X6_tourOf_7]
    simp only [zlt, g3, g6, nx]
    by_cases c : i < N
    · rw [if_pos (by omega)]
      have hh := cHas (x := set) hx (by omega)
      by_cases c2 : bt set i = true
      · rw [hh, if_pos c2, if_neg (by decide)]
        refine ih (x + (1 : Int32)) (i + 1) _ _ (zp1 hx (by omega)) (by omega) (by omega) (by omega) (by rw [tmx_s (P := fun q => bt set q = true) h1 c2, hy, hP.2.1.2.1 i c]) (fun t ht => ?_)
        rw [b_or, Bool.or_eq_true, hz t ht, hP.2.1.2.2.1 i c t ht]
        constructor
        · rintro (⟨q, w1, w2, w3⟩ | w)
          · exact ⟨q, w1, by omega, w3⟩
          · exact ⟨i, h1, by omega, c2, w⟩
        · rintro ⟨q, w1, w2, w3, w4⟩
          by_cases e : q = i
          · rw [e] at w4
            exact Or.inr w4
          · exact Or.inl ⟨q, w1, by omega, w3, w4⟩
      · rw [hh, if_neg c2, if_pos rfl]
        refine ih (x + (1 : Int32)) (i + 1) y z (zp1 hx (by omega)) (by omega) (by omega) (by omega) (by rw [tmx_n (P := fun q => bt set q = true) (fun z => c2 z.2), hy]) (fun t ht => ?_)
        rw [hz t ht]
        constructor
        · rintro ⟨q, w1, w2, w3⟩
          exact ⟨q, w1, by omega, w3⟩
        · rintro ⟨q, w1, w2, w3, w4⟩
          by_cases e : q = i
          · rw [e] at w3
            exact absurd w3 c2
          · exact ⟨q, w1, by omega, w3, w4⟩
    · rw [if_neg (by omega)]
      have hM' : i = M := by omega
      rw [hy, hM']
      refine cTour2 hP g1 hN hM (fun j hj => ?_) 10000 1 1 0 (by decide) (by omega) (by omega) (by omega) tsm_1.symm
      rw [hz j (by omega)]
      constructor
      · rintro ⟨q, w1, w2, w3⟩
        exact ⟨q, w1, by omega, w3⟩
      · rintro ⟨q, w1, w2, w3⟩
        exact ⟨q, w1, by omega, w3⟩
theorem cTour (hP : zShp N u ℓ FR sh A1 A2 A3 A4 A6 l s) (g1 : (s.2.2 sh 1).getD 0 = A1) (g3 : (s.2.2 sh 3).getD 0 = A3) (g6 : (s.2.2 sh 6).getD 0 = A6) (hN : N ≤ 12) (hM : (M = N ∧ 1 ≤ N) ∨ (M = 1 ∧ N = 0)) (set : Int32) : F_X6_tourOf sh set s = ((2 : Int32) * tsm ℓ (fun t => ∃ q, 1 ≤ q ∧ q < N ∧ bt set q = true ∧ An u t q) M - tmx FR (fun q => bt set q = true) M, s) := by
  unfold F_X6_tourOf
  simp only [zlt]
  exact cTour1 hP g1 g3 g6 hN hM 10000 1 1 0 0 (by decide) (by omega) (by omega) (by omega) tmx_1.symm (fun t ht => by
    rw [b_0]
    constructor
    · intro z; cases z
    · rintro ⟨q, w1, w2, -⟩
      omega)
end SRCC
section SRCM
variable {L : List Nat} {kd : Nat → Nat} {m0 N M : Nat} {u : Nat → Nat} {FR SR ℓ : Nat → Int32} {σ t : zS} {κ : Int}
theorem zShM.r (h : zShM N u FR SR m0 σ t) (x : Nat) : (t.2.2 m0 x).getD 0 = mR σ m0 x := by rw [h.1]
theorem zShM.many (h : zShM N u FR SR m0 σ t) (hJ : zJ κ L kd σ) (hm : zT L kd m0 11) (hM : zM m0 σ = N) : (F_X11_many m0 t).toInt = N := by rw [mMany_g hJ hm h.2.2.2.2 (by rfl) (by rfl) (by rfl), hM]
theorem zShM.f18 (h : zShM N u FR SR m0 σ t) (hJ : zJ κ L kd σ) (hm : zT L kd m0 11) : t.1 m0 18 = σ.1 m0 18 := zFm.fld hJ hm h.2.2.2.2 (by rfl) (by rfl)
theorem zShM.row (h : zShM N u FR SR m0 σ t) (hJ : zJ κ L kd σ) (hm : zT L kd m0 11) {x : Nat} (hx : zf 0 11 x = some (100 + x)) (hn : [49, 54, 52, 53, 45, 46, 55].contains x = false) : t.1 (mR σ m0 x) = σ.1 (mR σ m0 x) := zFm.row hJ hm h.2.2.2.2 hx (by rfl) hn
theorem mIsS (h : zShM N u FR SR m0 σ t) (hJ : zJ κ L kd σ) (hm : zT L kd m0 11) (hM : zM m0 σ = N) (hN : N ≤ 12) {x : Int32} : (F_X11_isSource m0 x t).toInt = 0 ↔ ¬ (0 ≤ x.toInt ∧ Src N u x.toInt.toNat) := by
  have e0 : (0 : Int32).toInt = 0 := by decide
  have e1 : (1 : Int32).toInt = 1 := by decide
  have kN := zN1 (x := F_X11_many m0 t) (h.many hJ hm hM) hN
  unfold F_X11_isSource
  simp only [zlt, mBeside, mIn, e1, kN, h.r 54]
  by_cases c : 1 ≤ x.toInt ∧ x.toInt ≤ (N : Int) - 1
  · rw [if_neg (fun z => z c)]
    obtain ⟨p, hp⟩ : ∃ p : Nat, x.toInt = p := ⟨x.toInt.toNat, by omega⟩
    have nx : x.toNatClampNeg = p := by rw [ztn, hp]; rfl
    have ex : x = nI p := zNi hp (by omega)
    have key : (t.1 (mR σ m0 54) p).toInt = ((1 : Int32) <<< (x &&& 31)).toInt ↔ Src N u p := by
      rw [Int32.toInt_inj, ex]
      constructor
      · intro z
        refine ⟨by omega, by omega, fun j hj ha => ?_⟩
        have q := (h.2.1 p j (by omega) (by omega)).mpr ⟨hj, ha⟩
        rw [z, bt_1 (by omega) (by omega), decide_eq_true_eq] at q
        exact q
      · rintro ⟨z1, z2, z3⟩
        refine b_ext (fun j hj => ?_)
        rw [bt_1 (by omega) hj]
        by_cases e : j = p
        · rw [decide_eq_true e]
          exact (h.2.1 p j z2 hj).mpr ⟨by omega, by rw [e]; exact An_rf⟩
        · rw [decide_eq_false e]
          cases hc : bt (t.1 (mR σ m0 54) p) j with
          | false => rfl
          | true =>
            obtain ⟨w1, w2⟩ := (h.2.1 p j z2 hj).mp hc
            exact absurd (z3 j w1 w2) e
    rw [nx, show x.toInt.toNat = p by omega]
    by_cases c2 : (t.1 (mR σ m0 54) p).toInt = ((1 : Int32) <<< (x &&& 31)).toInt
    · rw [if_pos c2]
      exact ⟨fun z => absurd (z.symm.trans e1) (by decide), fun z => absurd ⟨by omega, key.mp c2⟩ z⟩
    · rw [if_neg c2]
      exact ⟨fun _ z => c2 (key.mpr z.2), fun _ => e0⟩
  · rw [if_pos c]
    exact ⟨fun _ z => by have a := z.2.1; have b := z.2.2.1; omega, fun _ => e0⟩
theorem mSrc (h : zShM N u FR SR m0 σ t) (hJ : zJ κ L kd σ) (hm : zT L kd m0 11) (hM : zM m0 σ = N) (hN : N ≤ 12) : ∀ (n : Nat) (x : Int32) (i : Nat) (y : Int32), x.toInt = i → 1 ≤ i → i ≤ 12 → 12 - i < n → (∀ j, j < 32 → (bt y j = true ↔ (Src N u j ∧ j < i))) → ∀ j, j < 32 → (bt (F_X11_sourceBits_4 m0 t n x y) j = true ↔ Src N u j) := by
  have h0 := h.many hJ hm hM
  intro n
  induction n with
  | zero => intro x i y _ _ _ h; exact absurd h (by omega)
  | succ n ih =>
    intro x i y hx h1 hi hm' hb
    rw [F_X11_sourceBits_4]
    simp only [zlt]
    by_cases c : i < N
    · rw [if_pos (by omega)]
      have q := mIsS h hJ hm hM hN (x := x)
      rw [hx, show ((i : Int)).toNat = i by omega] at q
      by_cases c2 : (F_X11_isSource m0 x t).toInt = 0
      · rw [if_pos c2]
        refine ih (x + (1 : Int32)) (i + 1) y (zp1 hx (by omega)) (by omega) (by omega) (by omega) (fun j hj => ?_)
        rw [hb j hj]
        constructor
        · rintro ⟨w1, w2⟩
          exact ⟨w1, by omega⟩
        · rintro ⟨w1, w2⟩
          refine ⟨w1, ?_⟩
          by_cases e : j = i
          · rw [e] at w1
            exact absurd ⟨by omega, w1⟩ (q.mp c2)
          · omega
      · rw [if_neg c2]
        have hs : Src N u i := by
          apply Classical.byContradiction
          intro z
          exact c2 (q.mpr (fun w => z w.2))
        refine ih (x + (1 : Int32)) (i + 1) _ (zp1 hx (by omega)) (by omega) (by omega) (by omega) (fun j hj => ?_)
        rw [b_or, zNi hx (by omega), bt_1 (by omega) hj, Bool.or_eq_true, hb j hj, decide_eq_true_eq]
        constructor
        · rintro (⟨w1, w2⟩ | w)
          · exact ⟨w1, by omega⟩
          · rw [w]; exact ⟨hs, by omega⟩
        · rintro ⟨w1, w2⟩
          by_cases e : j = i
          · exact Or.inr e
          · exact Or.inl ⟨w1, by omega⟩
    · rw [if_neg (by omega)]
      intro j hj
      rw [hb j hj]
      exact ⟨fun w => w.1, fun w => ⟨w, by have := w.2.1; omega⟩⟩
theorem mSources (h : zShM N u FR SR m0 σ t) (hJ : zJ κ L kd σ) (hm : zT L kd m0 11) (hM : zM m0 σ = N) (hN : N ≤ 12) : ∀ j, j < 32 → (bt (F_X11_sourceBits m0 t) j = true ↔ Src N u j) := by
  unfold F_X11_sourceBits
  simp only [zlt]
  exact mSrc h hJ hm hM hN 10000 1 1 0 (by decide) (by omega) (by omega) (by omega) (fun j hj => by
    rw [b_0]
    exact ⟨fun z => absurd z (by decide), fun z => by have := z.1.1; omega⟩)
theorem mTour1 (h : zShM N u FR SR m0 σ t) (hJ : zJ κ L kd σ) (hm : zT L kd m0 11) (hM : zM m0 σ = N) (hN : N ≤ 12) (hl : ∀ c, 1 ≤ c → c < N → σ.1 (mR σ m0 23) (12 * (σ.1 m0 18).toInt.toNat + c) = ℓ c) (hM2 : (M = N ∧ 1 ≤ N) ∨ (M = 1 ∧ N = 0)) {set : Int32} (hset : ∀ j, j < 32 → bt set j = true → 1 ≤ j ∧ j < N) : ∀ (n : Nat) (x : Int32) (i : Nat) (y z : Int32), x.toInt = i → 1 ≤ i → i ≤ M → M - i < n → y = tmx FR (fun q => bt set q = true) i → z = tsm ℓ (fun t => ∃ q, 1 ≤ q ∧ q < N ∧ bt set q = true ∧ An u t q) i → F_X11_tourOf_7 m0 set t n x y z = (2 : Int32) * tsm ℓ (fun t => ∃ q, 1 ≤ q ∧ q < N ∧ bt set q = true ∧ An u t q) M - tmx FR (fun q => bt set q = true) M := by
  have h0 := h.many hJ hm hM
  have r18 : 0 ≤ (σ.1 m0 18).toInt ∧ (σ.1 m0 18).toInt ≤ 1 := zj_get (j := 18) hJ hm (lo := 0) (hi := 1) (by rfl)
  have e12 : (12 : Int32).toInt = 12 := by decide
  have e0 : (0 : Int32).toInt = 0 := by decide
  have e1 : (1 : Int32).toInt = 1 := by decide
  have f23 := h.row hJ hm (x := 23) (by rfl) (by rfl)
  have f18 := h.f18 hJ hm
  intro n
  induction n with
  | zero => intro x i y z _ _ _ h; exact absurd h (by omega)
  | succ n ih =>
    intro x i y z hx h1 hi hm' hy hz
    have nx : x.toNatClampNeg = i := by rw [ztn, hx]; rfl
    rw [F_X11_tourOf_7]
    simp only [zlt, h.r 54, h.r 52, h.r 23, nx]
    by_cases c : i < N
    · rw [if_pos (by omega)]
      have em : ((12 : Int32) * t.1 m0 18).toInt = 12 * (σ.1 m0 18).toInt := by rw [f18, zb_mul (by rw [e12]; omega) (by rw [e12]; omega), e12]
      have ei : ((12 : Int32) * t.1 m0 18 + x).toNatClampNeg = 12 * (σ.1 m0 18).toInt.toNat + i := by rw [ztn, zb_add (by rw [em, hx]; omega) (by rw [em, hx]; omega), em, hx]; omega
      have eℓ : t.1 (mR σ m0 23) ((12 : Int32) * t.1 m0 18 + x).toNatClampNeg = ℓ i := by rw [ei, f23]; exact hl i h1 c
      have ef : t.1 (mR σ m0 52) i = FR i := (h.2.2.1 i c).1
      have cut := (bt_cut (x := set) hx (by omega)).2
      have s1 : (x + (1 : Int32)).toInt = (i + 1 : Nat) := zp1 hx (by omega)
      have s2 : 1 ≤ i + 1 := by omega
      have s3 : i + 1 ≤ M := by omega
      have s4 : M - (i + 1) < n := by omega
      have an : (t.1 (mR σ m0 54) i &&& set).toInt = 0 ↔ ¬ ∃ q, 1 ≤ q ∧ q < N ∧ bt set q = true ∧ An u i q := by
        constructor
        · rintro w ⟨q, w1, w2, w3, w4⟩
          have w0 : t.1 (mR σ m0 54) i &&& set = 0 := Int32.toInt_inj.mp (w.trans e0.symm)
          have b1 := b_and (t.1 (mR σ m0 54) i) set q
          rw [w0, b_0, (h.2.1 i q c (by omega)).mpr ⟨w2, w4⟩, w3] at b1
          cases b1
        · intro w
          have w0 : t.1 (mR σ m0 54) i &&& set = 0 := b_ext (fun j hj => by
            rw [b_and, b_0]
            cases b1 : bt (t.1 (mR σ m0 54) i) j with
            | false => rfl
            | true =>
              cases b2 : bt set j with
              | false => rfl
              | true =>
                obtain ⟨v1, v2⟩ := (h.2.1 i j c hj).mp b1
                obtain ⟨v3, v4⟩ := hset j hj b2
                exact absurd ⟨j, v3, v4, b2, v2⟩ w)
          rw [w0]; exact e0
      rw [eℓ, ef]
      have stepN : ∀ z', z' = tsm ℓ (fun t => ∃ q, 1 ≤ q ∧ q < N ∧ bt set q = true ∧ An u t q) (i + 1) → ¬ bt set i = true → F_X11_tourOf_7 m0 set t n (x + (1 : Int32)) y z' = (2 : Int32) * tsm ℓ (fun t => ∃ q, 1 ≤ q ∧ q < N ∧ bt set q = true ∧ An u t q) M - tmx FR (fun q => bt set q = true) M := fun z' hz' cs => ih (x + (1 : Int32)) (i + 1) y z' s1 s2 s3 s4 (by rw [tmx_n (P := fun q => bt set q = true) (fun w => cs w.2), hy]) hz'
      have stepS : ∀ z' y', z' = tsm ℓ (fun t => ∃ q, 1 ≤ q ∧ q < N ∧ bt set q = true ∧ An u t q) (i + 1) → bt set i = true → y' = (if y.toInt ≤ (FR i).toInt then FR i else y) → F_X11_tourOf_7 m0 set t n (x + (1 : Int32)) y' z' = (2 : Int32) * tsm ℓ (fun t => ∃ q, 1 ≤ q ∧ q < N ∧ bt set q = true ∧ An u t q) M - tmx FR (fun q => bt set q = true) M := fun z' y' hz' cs hy' => ih (x + (1 : Int32)) (i + 1) y' z' s1 s2 s3 s4 (by rw [tmx_s (P := fun q => bt set q = true) h1 cs, hy', hy]) hz'
      by_cases ca : ∃ q, 1 ≤ q ∧ q < N ∧ bt set q = true ∧ An u i q
      · rw [if_neg (fun w => an.mp w ca)]
        have hz' : z + ℓ i = tsm ℓ (fun t => ∃ q, 1 ≤ q ∧ q < N ∧ bt set q = true ∧ An u t q) (i + 1) := by rw [tsm_s (P := fun t => ∃ q, 1 ≤ q ∧ q < N ∧ bt set q = true ∧ An u t q) h1 ca, hz]
        by_cases cs : bt set i = true
        · rw [if_pos (by rw [e1]; exact cut.mpr cs)]
          by_cases cf : y.toInt < (FR i).toInt
          · rw [if_pos cf]
            exact stepS _ _ hz' cs (by rw [← mx_e, if_pos cf])
          · rw [if_neg cf]
            exact stepS _ _ hz' cs (by rw [← mx_e, if_neg cf])
        · rw [if_neg (by rw [e1]; exact fun w => cs (cut.mp w))]
          exact stepN _ hz' cs
      · rw [if_pos (an.mpr ca)]
        have hz' : z = tsm ℓ (fun t => ∃ q, 1 ≤ q ∧ q < N ∧ bt set q = true ∧ An u t q) (i + 1) := by rw [tsm_n (P := fun t => ∃ q, 1 ≤ q ∧ q < N ∧ bt set q = true ∧ An u t q) (fun w => ca w.2), hz]
        by_cases cs : bt set i = true
        · exact absurd ⟨i, h1, c, cs, An_rf⟩ ca
        · rw [if_neg (by rw [e1]; exact fun w => cs (cut.mp w))]
          exact stepN _ hz' cs
    · rw [if_neg (by omega)]
      have hM' : i = M := by omega
      rw [hy, hz, hM']
theorem mTour (h : zShM N u FR SR m0 σ t) (hJ : zJ κ L kd σ) (hm : zT L kd m0 11) (hM : zM m0 σ = N) (hN : N ≤ 12) (hl : ∀ c, 1 ≤ c → c < N → σ.1 (mR σ m0 23) (12 * (σ.1 m0 18).toInt.toNat + c) = ℓ c) (hM2 : (M = N ∧ 1 ≤ N) ∨ (M = 1 ∧ N = 0)) (set : Int32) (hset : ∀ j, j < 32 → bt set j = true → 1 ≤ j ∧ j < N) : F_X11_tourOf m0 set t = (2 : Int32) * tsm ℓ (fun t => ∃ q, 1 ≤ q ∧ q < N ∧ bt set q = true ∧ An u t q) M - tmx FR (fun q => bt set q = true) M := by
  unfold F_X11_tourOf
  simp only [zlt]
  exact mTour1 h hJ hm hM hN hl hM2 hset 10000 1 1 0 0 (by decide) (by omega) (by omega) (by omega) tmx_1.symm tsm_1.symm
end SRCM
