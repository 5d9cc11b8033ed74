/-! WHO IS DYED, by what was told -/
def dCm (u : Nat → Nat) (FR : Nat → Int32) (w a b : Int32) (q : Nat) : Prop := An u w.toInt.toNat q ∧ a.toInt ≤ (FR q - FR w.toInt.toNat).toInt ∧ (FR q - FR w.toInt.toNat).toInt ≤ b.toInt
def dOk (u : Nat → Nat) (FR : Nat → Int32) (w a b c : Int32) (q : Nat) : Prop := (dCm u FR w a b q ∧ c.toInt = 1) ∨ (¬ dCm u FR w a b q ∧ c.toInt = 0)
theorem dOk_e {u : Nat → Nat} {FR : Nat → Int32} {w a b d z : Int32} {q : Nat} (h : (z.toInt = 1 ∧ dCm u FR w a b q) ∨ (z.toInt = 0 ∧ ¬ dCm u FR w a b q)) : z.toInt = d.toInt ↔ dOk u FR w a b d q := by
  unfold dOk
  rcases h with ⟨h1, h2⟩ | ⟨h1, h2⟩
  · constructor
    · intro e
      exact Or.inl ⟨h2, by omega⟩
    · rintro (⟨-, e⟩ | ⟨e, -⟩)
      · omega
      · exact absurd h2 e
  · constructor
    · intro e
      exact Or.inr ⟨h2, by omega⟩
    · rintro (⟨e, -⟩ | ⟨-, e⟩)
      · exact absurd e h2
      · omega
/-- dyed by all that was told -/
def dAll (u : Nat → Nat) (FR W A B C : Nat → Int32) (P q : Nat) : Prop := ∀ j, j < P → dOk u FR (W j) (A j) (B j) (C j) q
section DYEC
variable {N P sh dy A1 A2 A3 A4 A6 q : Nat} {u l r : Nat → Nat} {ℓ FR W A B C : Nat → Int32} {s : zS} {p xq : Int32}
theorem cSo (hP : zShp N u ℓ FR sh A1 A2 A3 A4 A6 l s) (g3 : (s.2.2 sh 3).getD 0 = A3) (g6 : (s.2.2 sh 6).getD 0 = A6) (hN : N ≤ 12) (hr : ∀ k, k < 4 → (s.2.2 dy k).getD 0 = r k) (hz : (P : Int) ≤ (s.1 dy 4).toInt) (hp : p.toInt = P) (h20 : P ≤ 20) (hv : ∀ i, i < P → (s.1 (r 0) i = W i ∧ s.1 (r 1) i = A i ∧ s.1 (r 2) i = B i ∧ s.1 (r 3) i = C i) ∧ 0 ≤ (W i).toInt ∧ (W i).toInt < N) (hq : xq.toInt = q) (hqN : q < N) : ∀ (n : Nat) (x : Int32) (i : Nat) (y : Int32), x.toInt = i → i ≤ P → P - i < n → ((y.toInt = 1 ∧ dAll u FR W A B C i q) ∨ (y.toInt = 0 ∧ ¬ dAll u FR W A B C i q)) → ∃ z, F_X2_isSo_6 dy sh xq p n x y s = (z, s) ∧ ((z.toInt = 1 ∧ dAll u FR W A B C P q) ∨ (z.toInt = 0 ∧ ¬ dAll u FR W A B C P q)) := by
  have e0 : (0 : Int32).toInt = 0 := by decide
  have e1 : (1 : Int32).toInt = 1 := by decide
  have nq : xq.toNatClampNeg = q := by rw [ztn, hq]; rfl
  intro n
  induction n with
  | zero => intro x i y _ _ h; exact absurd h (by omega)
  | succ n ih =>
    intro x i y hx hi hm hy
    have nx : x.toNatClampNeg = i := by rw [ztn, hx]; rfl
    by_cases c : i < P
    · obtain ⟨⟨v0, v1, v2, v3⟩, w1, w2⟩ := hv i c
      obtain ⟨w, hw⟩ : ∃ w : Nat, (W i).toInt = w := ⟨(W i).toInt.toNat, by omega⟩
      have nw : (W i).toNatClampNeg = w := by rw [ztn, hw]; rfl
      have tw : (W i).toInt.toNat = w := by rw [hw]; rfl
      have hh := cHas (x := s.1 A6 q) hw (by omega)
      have x1 : (x + (1 : Int32)).toInt = (i + 1 : Nat) := zp1 hx (by omega)
      have bits := hP.2.1.2.2.1 q hqN w (by omega)
      have F1 := hP.2.1.2.1 q hqN
      have F2 := hP.2.1.2.1 w (by omega)
      have stp : ∀ b : Int32, ((b.toInt = 1 ∧ dCm u FR (W i) (A i) (B i) q) ∨ (b.toInt = 0 ∧ ¬ dCm u FR (W i) (A i) (B i) q)) → ∃ z, (if y.toInt = 0 then F_X2_isSo_6 dy sh xq p n (x + (1 : Int32)) 0 s else if b.toInt = (C i).toInt then F_X2_isSo_6 dy sh xq p n (x + (1 : Int32)) 1 s else F_X2_isSo_6 dy sh xq p n (x + (1 : Int32)) 0 s) = (z, s) ∧ ((z.toInt = 1 ∧ dAll u FR W A B C P q) ∨ (z.toInt = 0 ∧ ¬ dAll u FR W A B C P q)) := fun b hb => by
        have ok := dOk_e (d := C i) hb
        by_cases y0 : y.toInt = 0
        · rw [if_pos y0]
          refine ih _ (i + 1) 0 x1 (by omega) (by omega) (Or.inr ⟨e0, fun z => ?_⟩)
          rcases hy with ⟨h, -⟩ | ⟨-, h⟩
          · omega
          · exact h (fun j hj => z j (by omega))
        · rw [if_neg y0]
          have all : dAll u FR W A B C i q := by
            rcases hy with ⟨-, h⟩ | ⟨h, -⟩
            · exact h
            · exact absurd h y0
          by_cases bc : b.toInt = (C i).toInt
          · rw [if_pos bc]
            refine ih _ (i + 1) 1 x1 (by omega) (by omega) (Or.inl ⟨e1, fun j hj => ?_⟩)
            by_cases e : j = i
            · rw [e]
              exact ok.mp bc
            · exact all j (by omega)
          · rw [if_neg bc]
            exact ih _ (i + 1) 0 x1 (by omega) (by omega) (Or.inr ⟨e0, fun z => bc (ok.mpr (z i (by omega)))⟩)
      rw [F_X2_isSo_6]
      simp only [zlt, hr 0 (by decide), hr 1 (by decide), hr 2 (by decide), hr 3 (by decide), g3, g6, nx, nq, v0, v1, v2, v3, nw, F1, F2, cWithin]
      rw [if_pos (by omega), if_pos (by omega)]
      by_cases h1 : bt (s.1 A6 q) w = true
      · rw [hh, if_pos h1, if_neg (by decide)]
        have an := bits.mp h1
        by_cases h2 : (A i).toInt ≤ (FR q - FR w).toInt ∧ (FR q - FR w).toInt ≤ (B i).toInt
        · rw [if_neg (fun z => z h2)]
          exact stp 1 (Or.inl ⟨e1, by unfold dCm; rw [tw]; exact ⟨an, h2⟩⟩)
        · rw [if_pos h2]
          exact stp 0 (Or.inr ⟨e0, fun z => h2 (by unfold dCm at z; rw [tw] at z; exact z.2)⟩)
      · rw [hh, if_neg h1, if_pos rfl]
        exact stp 0 (Or.inr ⟨e0, fun z => h1 (bits.mpr (by unfold dCm at z; rw [tw] at z; exact z.1))⟩)
    · rw [F_X2_isSo_6, if_neg (by omega)]
      obtain rfl : i = P := by omega
      exact ⟨y, rfl, hy⟩
theorem cLeft (hP : zShp N u ℓ FR sh A1 A2 A3 A4 A6 l s) (g3 : (s.2.2 sh 3).getD 0 = A3) (g4 : (s.2.2 sh 4).getD 0 = A4) (g6 : (s.2.2 sh 6).getD 0 = A6) (hN : N ≤ 12) (hr : ∀ k, k < 4 → (s.2.2 dy k).getD 0 = r k) (hz : (P : Int) ≤ (s.1 dy 4).toInt) (hp : p.toInt = P) (h20 : P ≤ 20) (hv : ∀ i, i < P → (s.1 (r 0) i = W i ∧ s.1 (r 1) i = A i ∧ s.1 (r 2) i = B i ∧ s.1 (r 3) i = C i) ∧ 0 ≤ (W i).toInt ∧ (W i).toInt < N) : ∀ (n : Nat) (x : Int32) (i : Nat) (y : Int32), x.toInt = i → 1 ≤ i → i ≤ 12 → 12 - i < n → (∀ j, j < 32 → (bt y j = true ↔ ((Src N u j ∧ dAll u FR W A B C P j) ∧ j < i))) → ∃ S, F_X2_left_5 dy sh p n x y s = (S, s) ∧ ∀ j, j < 32 → (bt S j = true ↔ (Src N u j ∧ dAll u FR W A B C P j)) := by
  have h0 := hP.1
  have e1 : (1 : Int32).toInt = 1 := by decide
  intro n
  induction n with
  | zero => intro x i y _ _ _ h; exact absurd h (by omega)
  | succ n ih =>
    intro x i y hx h1 hi hm hb
    have q := cIsS hP g4 (x := x)
    rw [hx, show ((i : Int)).toNat = i by omega] at q
    rw [F_X2_left_5]
    simp only [zlt, zlt2, q.1]
    by_cases c : i < N
    · rw [if_pos (by omega)]
      have x1 : (x + (1 : Int32)).toInt = (i + 1 : Nat) := zp1 hx (by omega)
      have skip : ¬ (Src N u i ∧ dAll u FR W A B C P i) → ∃ S, F_X2_left_5 dy sh p n (x + (1 : Int32)) y s = (S, s) ∧ ∀ j, j < 32 → (bt S j = true ↔ (Src N u j ∧ dAll u FR W A B C P j)) := fun hn => ih _ (i + 1) y x1 (by omega) (by omega) (by omega) (fun j hj => by
        rw [hb j hj]
        constructor
        · rintro ⟨w1, w2⟩
          exact ⟨w1, by omega⟩
        · rintro ⟨w1, w2⟩
          refine ⟨w1, ?_⟩
          by_cases e : j = i
          · rw [e] at w1
            exact absurd w1 hn
          · omega)
      by_cases c2 : (F_X6_isSource sh x s).1.toInt = 0
      · rw [if_pos c2]
        exact skip (fun z => (q.2.mp c2) ⟨by omega, z.1⟩)
      · rw [if_neg c2]
        have hs : Src N u i := by
          apply Classical.byContradiction
          intro z
          exact c2 (q.2.mpr (fun w => z w.2))
        obtain ⟨z, z1, z2⟩ := cSo hP g3 g6 hN hr hz hp h20 hv hx c 4294967299 0 0 1 (by decide) (by omega) (by omega) (Or.inl ⟨e1, fun j hj => absurd hj (by omega)⟩)
        have eS : F_X2_isSo dy sh x p s = (z, s) := by
          unfold F_X2_isSo
          simp only [zlt]
          exact z1
        simp only [eS]
        by_cases c3 : z.toInt = 0
        · rw [if_pos c3]
          refine skip (fun w => ?_)
          rcases z2 with ⟨k, -⟩ | ⟨-, k⟩
          · omega
          · exact k w.2
        · rw [if_neg c3]
          have all : dAll u FR W A B C P i := by
            rcases z2 with ⟨-, k⟩ | ⟨k, -⟩
            · exact k
            · exact absurd k c3
          refine ih _ (i + 1) _ x1 (by omega) (by omega) (by omega) (fun j hj => ?_)
          rw [b_or, bt_bit hx (by omega) hj, Bool.or_eq_true, hb j hj, decide_eq_true_eq]
          constructor
          · rintro (⟨w1, w2⟩ | w)
            · exact ⟨w1, by omega⟩
            · rw [w]
              exact ⟨⟨hs, all⟩, by omega⟩
          · rintro ⟨w1, w2⟩
            by_cases e : j = i
            · exact Or.inr e
            · exact Or.inl ⟨w1, by omega⟩
    · rw [if_neg (by omega)]
      refine ⟨y, rfl, fun j hj => ?_⟩
      rw [hb j hj]
      exact ⟨fun w => w.1, fun w => ⟨w, by have := w.1.2.1; omega⟩⟩
end DYEC
section DYEM
variable {L : List Nat} {kd : Nat → Nat} {m0 N P q i : Nat} {u : Nat → Nat} {FR SR W A B C : Nat → Int32} {σ t : zS} {κ : Int} {p xq x : Int32}
theorem mCm (h : zShM N u FR SR m0 σ t) (hN : N ≤ 12) (hv : ∀ i, i < P → (t.1 (mR σ m0 63) i = W i ∧ t.1 (mR σ m0 64) i = A i ∧ t.1 (mR σ m0 65) i = B i ∧ t.1 (mR σ m0 66) i = C i) ∧ 0 ≤ (W i).toInt ∧ (W i).toInt < N) (hq : xq.toInt = q) (hqN : q < N) (hx : x.toInt = i) (hi : i < P) : ((F_X11_comesBy m0 xq x t).toInt = 1 ∧ dCm u FR (W i) (A i) (B i) q) ∨ ((F_X11_comesBy m0 xq x t).toInt = 0 ∧ ¬ dCm u FR (W i) (A i) (B i) q) := by
  have e0 : (0 : Int32).toInt = 0 := by decide
  have e1 : (1 : Int32).toInt = 1 := by decide
  have nq : xq.toNatClampNeg = q := by rw [ztn, hq]; rfl
  have nx : x.toNatClampNeg = i := by rw [ztn, hx]; rfl
  obtain ⟨⟨v0, v1, v2, -⟩, w1, w2⟩ := hv i hi
  obtain ⟨w, hw⟩ : ∃ w : Nat, (W i).toInt = w := ⟨(W i).toInt.toNat, by omega⟩
  have nw : (W i).toNatClampNeg = w := by rw [ztn, hw]; rfl
  have tw : (W i).toInt.toNat = w := by rw [hw]; rfl
  have cut := (bt_cut (x := t.1 (mR σ m0 54) w) hq (by omega)).2
  have bb := h.2.1 w q (by omega) (by omega)
  have F1 := (h.2.2.1 q hqN).1
  have F2 := (h.2.2.1 w (by omega)).1
  have E : F_X11_comesBy m0 xq x t = if ((t.1 (mR σ m0 54) w >>> (xq &&& 31)) &&& (1 : Int32)).toInt = 1 then (if ¬ ((A i).toInt ≤ (FR q - FR w).toInt ∧ (FR q - FR w).toInt ≤ (B i).toInt) then 0 else 1) else 0 := by
    unfold F_X11_comesBy
    simp only [zlt, h.r 63, h.r 54, h.r 52, h.r 64, h.r 65, nx, nq, v0, nw, v1, v2, F1, F2, mIn, e1]
  rw [E]
  by_cases h1 : ((t.1 (mR σ m0 54) w >>> (xq &&& 31)) &&& (1 : Int32)).toInt = 1
  · rw [if_pos h1]
    have an := (bb.mp (cut.mp h1)).2
    by_cases h2 : (A i).toInt ≤ (FR q - FR w).toInt ∧ (FR q - FR w).toInt ≤ (B i).toInt
    · rw [if_neg (fun z => z h2)]
      exact Or.inl ⟨e1, by unfold dCm; rw [tw]; exact ⟨an, h2⟩⟩
    · rw [if_pos h2]
      exact Or.inr ⟨e0, fun z => h2 (by unfold dCm at z; rw [tw] at z; exact z.2)⟩
  · rw [if_neg h1]
    exact Or.inr ⟨e0, fun z => h1 (cut.mpr (bb.mpr ⟨hqN, by unfold dCm at z; rw [tw] at z; exact z.1⟩))⟩
theorem mSo (h : zShM N u FR SR m0 σ t) (hN : N ≤ 12) (hp : p.toInt = P) (h20 : P ≤ 20) (hv : ∀ i, i < P → (t.1 (mR σ m0 63) i = W i ∧ t.1 (mR σ m0 64) i = A i ∧ t.1 (mR σ m0 65) i = B i ∧ t.1 (mR σ m0 66) i = C i) ∧ 0 ≤ (W i).toInt ∧ (W i).toInt < N) (hq : xq.toInt = q) (hqN : q < N) {x6 : Int32} {k : Int32 → Int32 → zS → Int32 × zS} : ∀ (n : Nat) (x : Int32) (i : Nat) (y : Int32), x.toInt = i → i ≤ P → P - i < n → (y.toInt ≠ 0 ↔ (Src N u q ∧ dAll u FR W A B C i q)) → ∃ y', F_X11_dyedBits_26 xq x6 m0 p k n x y t = k (xq + (1 : Int32)) y' t ∧ ((y' = x6 ∧ ¬ (Src N u q ∧ dAll u FR W A B C P q)) ∨ (y' = x6 ||| ((1 : Int32) <<< (xq &&& 31)) ∧ (Src N u q ∧ dAll u FR W A B C P q))) := by
  have e0 : (0 : Int32).toInt = 0 := by decide
  have e1 : (1 : Int32).toInt = 1 := by decide
  intro n
  induction n with
  | zero => intro x i y _ _ h; exact absurd h (by omega)
  | succ n ih =>
    intro x i y hx hi hm hy
    have nx : x.toNatClampNeg = i := by rw [ztn, hx]; rfl
    rw [F_X11_dyedBits_26]
    simp only [zlt, h.r 66, nx]
    by_cases y0 : y.toInt = 0
    · have no : ¬ (Src N u q ∧ dAll u FR W A B C P q) := fun z => (hy.mpr ⟨z.1, fun j hj => z.2 j (by omega)⟩) y0
      by_cases c : i < P
      · rw [if_pos (by omega), if_pos y0, if_pos y0]
        exact ⟨x6, rfl, Or.inl ⟨rfl, no⟩⟩
      · rw [if_neg (by omega), if_pos y0]
        exact ⟨x6, rfl, Or.inl ⟨rfl, no⟩⟩
    · have all := hy.mp y0
      by_cases c : i < P
      · rw [if_pos (by omega), if_neg y0]
        have cm := mCm h hN hv hq hqN hx c
        have ok := dOk_e (d := C i) cm
        have x1 : (x + (1 : Int32)).toInt = (i + 1 : Nat) := zp1 hx (by omega)
        rw [(hv i c).1.2.2.2]
        by_cases bc : (F_X11_comesBy m0 xq x t).toInt = (C i).toInt
        · rw [if_pos bc]
          refine ih _ (i + 1) 1 x1 (by omega) (by omega) ⟨fun _ => ⟨all.1, fun j hj => ?_⟩, fun _ => by rw [e1]; decide⟩
          by_cases e : j = i
          · rw [e]
            exact ok.mp bc
          · exact all.2 j (by omega)
        · rw [if_neg bc]
          exact ih _ (i + 1) 0 x1 (by omega) (by omega) ⟨fun z => absurd e0 z, fun z => absurd (ok.mpr (z.2 i (by omega))) bc⟩
      · rw [if_neg (by omega), if_neg y0]
        obtain rfl : i = P := by omega
        exact ⟨_, rfl, Or.inr ⟨rfl, all⟩⟩
theorem mLeft (h : zShM N u FR SR m0 σ t) (hJ : zJ κ L kd σ) (hm : zT L kd m0 11) (hM : zM m0 σ = N) (hN : N ≤ 12) (hp : p.toInt = P) (h20 : P ≤ 20) (hv : ∀ i, i < P → (t.1 (mR σ m0 63) i = W i ∧ t.1 (mR σ m0 64) i = A i ∧ t.1 (mR σ m0 65) i = B i ∧ t.1 (mR σ m0 66) i = C i) ∧ 0 ≤ (W i).toInt ∧ (W i).toInt < N) : ∀ (n : Nat) (x : Int32) (i : Nat) (y : Int32), x.toInt = i → 1 ≤ i → i ≤ 12 → 12 - i < n → (∀ j, j < 32 → (bt y j = true ↔ ((Src N u j ∧ dAll u FR W A B C P j) ∧ j < i))) → ∃ S, F_X11_dyedBits_8 m0 p n x y t = (S, t) ∧ ∀ j, j < 32 → (bt S j = true ↔ (Src N u j ∧ dAll u FR W A B C P j)) := by
  have h0 := h.many hJ hm hM
  intro n
  induction n with
  | zero => intro x i y _ _ _ h; exact absurd h (by omega)
  | succ n ih =>
    intro x i y hx h1 hi hm' hb
    rw [F_X11_dyedBits_8]
    simp only [zlt]
    by_cases c : i < N
    · rw [if_pos (by omega)]
      have x1 : (x + (1 : Int32)).toInt = (i + 1 : Nat) := zp1 hx (by omega)
      have q := mIsS h hJ hm hM hN (x := x)
      rw [hx, show ((i : Int)).toNat = i by omega] at q
      obtain ⟨y', e, k⟩ := mSo h hN hp h20 hv hx c (x6 := y) (k := F_X11_dyedBits_8 m0 p n) 10000 0 0 (F_X11_isSource m0 x t) (by decide) (by omega) (by omega) ⟨fun z => ⟨Classical.byContradiction (fun w => z (q.mpr (fun v => w v.2))), fun j hj => absurd hj (by omega)⟩, fun z e => (q.mp e) ⟨by omega, z.1⟩⟩
      rw [e]
      rcases k with ⟨k1, k2⟩ | ⟨k1, k2⟩
      · rw [k1]
        refine ih _ (i + 1) y x1 (by omega) (by omega) (by omega) (fun j hj => ?_)
        rw [hb j hj]
        constructor
        · rintro ⟨w1, w2⟩
          exact ⟨w1, by omega⟩
        · rintro ⟨w1, w2⟩
          refine ⟨w1, ?_⟩
          by_cases e : j = i
          · rw [e] at w1
            exact absurd w1 k2
          · omega
      · rw [k1]
        refine ih _ (i + 1) _ x1 (by omega) (by omega) (by omega) (fun j hj => ?_)
        rw [b_or, zNi hx (by omega), bt_1 (by omega) hj, Bool.or_eq_true, hb j hj, decide_eq_true_eq]
        constructor
        · rintro (⟨w1, w2⟩ | w)
          · exact ⟨w1, by omega⟩
          · rw [w]
            exact ⟨k2, by omega⟩
        · rintro ⟨w1, w2⟩
          by_cases e : j = i
          · exact Or.inr e
          · exact Or.inl ⟨w1, by omega⟩
    · rw [if_neg (by omega)]
      refine ⟨y, rfl, fun j hj => ?_⟩
      rw [hb j hj]
      exact ⟨fun w => w.1, fun w => ⟨w, by have := w.1.2.1; omega⟩⟩
end DYEM
section DYEB
variable {κ : Int} {L1 : List Nat} {kd1 : Nat → Nat} {L2 : List Nat} {kd2 : Nat → Nat} {σ1 σ2 τ1 τ2 : zS} {m0 x0 : Nat} {Q : Nat → zCo → (Nat → Int32) → Prop} {V : zWh} {ps pc sl rv sh cd : Nat} {v1 v2 p q : Int32}
theorem zRL.left (hG : zGd Q) (h : zRL Q L1 kd1 x0 m0 V ps pc sl rv sh cd σ1 σ2) (hl : zLen x0 m0 σ1 σ2) (hd : zDy x0 m0 σ1 σ2) (hx : zT L1 kd1 x0 10) (hI : zI κ 0 L1 kd1 σ1) (hJ : zJ κ L2 kd2 σ2) (hm : zT L2 kd2 m0 11) (hg : gN m0 σ2) (hp0 : 0 ≤ p.toInt) (hp1 : p.toInt ≤ (σ2.1 m0 62).toInt) : ∃ (N : Nat) (u : Nat → Nat) (FR SR ℓ : Nat → Int32) (l : Nat → Nat) (A1 A2 A3 A4 A6 : Nat) (s t : zS) (S : Int32), s = F_X10_look x0 σ1 ∧ zLk N u FR SR ℓ kd1 x0 m0 rv sh l σ1 σ2 s t ∧ ((s.2.2 x0 3).getD 0 = sh ∧ (s.2.2 sh 6).getD 0 = A6 ∧ (s.2.2 x0 5).getD 0 = (σ1.2.2 x0 5).getD 0 ∧ (s.2.2 x0 10).getD 0 = (σ1.2.2 x0 10).getD 0 ∧ (s.1 ((σ1.2.2 x0 10).getD 0) 0).toInt = N) ∧ zShp N u ℓ FR sh A1 A2 A3 A4 A6 l s ∧ F_X2_left ((σ1.2.2 x0 5).getD 0) sh p s = (S, s) ∧ F_X11_dyedBits m0 p σ2 = (S, t) ∧ ∀ j, j < 32 → bt S j = true → Src N u j := by
  obtain ⟨N, M, u, FR, SR, ℓ, l, A1, A2, A3, A4, A6, s, t, hs, ht, K, ⟨g0, g1, g2, g3, g4, g6⟩, hP, hMN⟩ := h.lk2 hG hl hx hI hJ hm hg
  obtain ⟨⟨n1, n2, n3, n4⟩, -, -, ⟨C1, C2, -⟩, hM⟩ := id K
  obtain ⟨dy, d1, d2, d3⟩ := zDy_r hI hx
  have a9 : (σ1.1 ((σ1.2.2 x0 5).getD 0) 4).toInt = (σ2.1 m0 62).toInt := by
    obtain ⟨-, -, N, n, u, hn, -⟩ := h
    exact hn.2.2.2.2.2.2.2.2
  have rg := zi_get (j := 4) hI d2 (lo := 0) (hi := 20) (by rfl)
  rw [d1] at a9
  have nx : x0 ≠ rv := zNk hx h.2.1.2.1.2.1 (by decide)
  have nd : dy ≠ rv := zNk d2 h.2.1.2.1.2.1 (by decide)
  have g5 : (s.2.2 x0 5).getD 0 = (σ1.2.2 x0 5).getD 0 := by rw [C1 x0 5 (fun z => nx z.1)]
  have g10 : (s.2.2 x0 10).getD 0 = (σ1.2.2 x0 10).getD 0 := by rw [C1 x0 10 (fun z => nx z.1)]
  obtain ⟨td, d4, d5⟩ := zi_ref (j := 10) (k2 := 9) hI hx (by rfl)
  have gd : (σ1.2.2 x0 10).getD 0 = td := by rw [d4]; rfl
  have g11 : (s.1 ((σ1.2.2 x0 10).getD 0) 0).toInt = N := by
    rw [gd] at n3 ⊢
    rw [C2 td 0 (by unfold zKs; rw [d5.2]; omega)]
    exact n3
  obtain ⟨P, hP'⟩ : ∃ P : Nat, p.toInt = P := ⟨p.toInt.toNat, by omega⟩
  have hr : ∀ k, k < 4 → (s.2.2 dy k).getD 0 = (σ1.2.2 dy k).getD 0 := fun k _ => by rw [C1 dy k (fun z => nd z.1)]
  have cv : ∀ k, k < 4 → ∀ i, s.1 ((σ1.2.2 dy k).getD 0) i = σ1.1 ((σ1.2.2 dy k).getD 0) i := fun k hk i => C2 _ i (by
    unfold zKs
    rw [(d3 k hk).2]
    omega)
  have s4 : s.1 dy 4 = σ1.1 dy 4 := C2 dy 4 (by unfold zKs; rw [d2.2]; omega)
  have mr : ∀ k, k < 4 → t.1 (mR σ2 m0 (63 + k)) = σ2.1 (mR σ2 m0 (63 + k)) := fun k hk => by
    have hk4 : k = 0 ∨ k = 1 ∨ k = 2 ∨ k = 3 := by omega
    rcases hk4 with rfl | rfl | rfl | rfl <;> exact hM.row hJ hm (by rfl) (by rfl)
  have dv : ∀ i, i < P → (∀ k, k < 4 → σ1.1 ((σ1.2.2 dy k).getD 0) i = σ2.1 (mR σ2 m0 (63 + k)) i) ∧ 0 ≤ (σ2.1 (mR σ2 m0 63) i).toInt ∧ (σ2.1 (mR σ2 m0 63) i).toInt < N := fun i hi => by
    have := hd i (by omega)
    rw [d1, n2] at this
    exact this
  obtain ⟨SC, c1, c2⟩ := cLeft (dy := dy) (r := fun k => (σ1.2.2 dy k).getD 0) (W := σ2.1 (mR σ2 m0 63)) (A := σ2.1 (mR σ2 m0 64)) (B := σ2.1 (mR σ2 m0 65)) (C := σ2.1 (mR σ2 m0 66)) (P := P) (p := p) hP g3 g4 g6 n1 hr (by rw [s4]; omega) hP' (by omega) (fun i hi => ⟨⟨(cv 0 (by decide) i).trans ((dv i hi).1 0 (by decide)), (cv 1 (by decide) i).trans ((dv i hi).1 1 (by decide)), (cv 2 (by decide) i).trans ((dv i hi).1 2 (by decide)), (cv 3 (by decide) i).trans ((dv i hi).1 3 (by decide))⟩, (dv i hi).2⟩) 10000 1 1 0 (by decide) (by omega) (by omega) (by omega) (fun j hj => by
    rw [b_0]
    exact ⟨fun z => absurd z (by decide), fun z => by have := z.1.1.1; omega⟩)
  obtain ⟨SM, m1, m2⟩ := mLeft (W := σ2.1 (mR σ2 m0 63)) (A := σ2.1 (mR σ2 m0 64)) (B := σ2.1 (mR σ2 m0 65)) (C := σ2.1 (mR σ2 m0 66)) (P := P) (p := p) hM hJ hm n2 n1 hP' (by omega) (fun i hi => ⟨⟨congrFun (mr 0 (by decide)) i, congrFun (mr 1 (by decide)) i, congrFun (mr 2 (by decide)) i, congrFun (mr 3 (by decide)) i⟩, (dv i hi).2⟩) 10000 1 1 0 (by decide) (by omega) (by omega) (by omega) (fun j hj => by
    rw [b_0]
    exact ⟨fun z => absurd z (by decide), fun z => by have := z.1.1.1; omega⟩)
  have eS : SM = SC := b_ext (fun j hj => by
    have a := m2 j hj
    have b := c2 j hj
    cases h1 : bt SM j with
    | false =>
      cases h2 : bt SC j with
      | false => rfl
      | true => rw [b.mp h2 |> a.mpr] at h1; cases h1
    | true => exact (b.mpr (a.mp h1)).symm)
  refine ⟨N, u, FR, SR, ℓ, l, A1, A2, A3, A4, A6, s, t, SC, hs, K, ⟨g0, g6, g5, g10, g11⟩, hP, ?_, ?_, fun j hj hb => ((c2 j hj).mp hb).1⟩
  · rw [d1]
    unfold F_X2_left
    simp only [zlt]
    exact c1
  · unfold F_X11_dyedBits
    simp only [zlt]
    rw [← ht, ← eS]
    exact m1
theorem zRL.dyed (hG : zGd Q) (h : zRL Q L1 kd1 x0 m0 V ps pc sl rv sh cd σ1 σ2) (hl : zLen x0 m0 σ1 σ2) (hd : zDy x0 m0 σ1 σ2) (hx : zT L1 kd1 x0 10) (hI : zI κ 0 L1 kd1 σ1) (hJ : zJ κ L2 kd2 σ2) (hm : zT L2 kd2 m0 11) (hg : gN m0 σ2) (f1 : (v1, τ1) = F_X10_dyed x0 p q σ1) (f2 : (v2, τ2) = F_X11_dyed m0 p q σ2) : v1.toInt = v2.toInt := by
  have e0 : (0 : Int32).toInt = 0 := by decide
  have e1 : (1 : Int32).toInt = 1 := by decide
  have a9 : (σ1.1 ((σ1.2.2 x0 5).getD 0) 4).toInt = (σ2.1 m0 62).toInt := by
    obtain ⟨-, -, N, n, u, hn, -⟩ := h
    exact hn.2.2.2.2.2.2.2.2
  unfold F_X10_dyed at f1
  unfold F_X11_dyed at f2
  simp only [zlt, zlt2, cWithin, mIn, e0, e1] at f1 f2
  rw [a9] at f1
  by_cases cp : 0 ≤ p.toInt ∧ p.toInt ≤ (σ2.1 m0 62).toInt
  · rw [if_neg (fun z => z cp)] at f1 f2
    by_cases cq : 0 ≤ q.toInt ∧ q.toInt ≤ 1
    · rw [if_neg (fun z => z cq)] at f1 f2
      obtain ⟨N, u, FR, SR, ℓ, l, A1, A2, A3, A4, A6, s, t, S, hs, ⟨⟨n1, -⟩, -⟩, ⟨g0, g6, g5, -⟩, hP, eL, eM, hS⟩ := h.left hG hl hd hx hI hJ hm hg cp.1 cp.2
      rw [← hs, g0, g5, eL] at f1
      rw [eM] at f2
      simp only at f1 f2
      by_cases c0 : q.toInt = 0
      · rw [if_pos c0] at f1 f2
        rw [(zPr2 f1).1, (zPr2 f2).1, bitM, bitC (fun j j1 j2 => by
          cases hc : bt S j with
          | false => rfl
          | true => have := (hS j j2 hc).2.1; omega)]
      · rw [if_neg c0] at f1 f2
        rw [(zPr2 f1).1, (zPr2 f2).1]
    · rw [if_pos cq] at f1 f2
      rw [(zPr2 f1).1, (zPr2 f2).1]
  · rw [if_pos cp] at f1 f2
    rw [(zPr2 f1).1, (zPr2 f2).1]
end DYEB
