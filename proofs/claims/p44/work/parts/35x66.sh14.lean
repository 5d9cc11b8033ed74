/-! WHERE TO WATCH: what is left at worst -/
noncomputable def wst (u : Nat → Nat) (S : Int32) (q : Nat) : Nat := if cnt (fun j => bt S j = true ∧ An u q j) 12 ≤ cnt (fun j => bt S j = true ∧ ¬ An u q j) 12 then cnt (fun j => bt S j = true ∧ ¬ An u q j) 12 else cnt (fun j => bt S j = true ∧ An u q j) 12
theorem wst_sum {u : Nat → Nat} {S : Int32} {q : Nat} : cnt (fun j => bt S j = true) 12 = cnt (fun j => bt S j = true ∧ An u q j) 12 + cnt (fun j => bt S j = true ∧ ¬ An u q j) 12 := by
  rw [← cnt_or 12 (fun j _ ⟨h1, h2⟩ => h2.2 h1.2)]
  refine cnt_cg 12 (fun j _ => ⟨fun h => ?_, fun h => ?_⟩)
  · by_cases c : An u q j
    · exact Or.inl ⟨h, c⟩
    · exact Or.inr ⟨h, c⟩
  · rcases h with h | h
    · exact h.1
    · exact h.1
/-- the best of those before -/
def wBst (u : Nat → Nat) (S : Int32) (i b : Nat) : Prop := b < i ∧ ∀ c, c < i → wst u S b ≤ wst u S c ∧ (wst u S c = wst u S b → b ≤ c)
section WBST
variable {u : Nat → Nat} {S : Int32} {i b b' : Nat}
theorem wBst_t (h : wBst u S i b) (g : wst u S i < wst u S b) : wBst u S (i + 1) i := ⟨by omega, fun c hc => by
  by_cases e : c = i
  · rw [e]
    exact ⟨Nat.le_refl _, fun _ => Nat.le_refl _⟩
  · have := (h.2 c (by omega)).1
    exact ⟨by omega, fun w => by omega⟩⟩
theorem wBst_k (h : wBst u S i b) (g : wst u S b ≤ wst u S i) : wBst u S (i + 1) b := ⟨by have := h.1; omega, fun c hc => by
  by_cases e : c = i
  · rw [e]
    exact ⟨g, fun _ => by have := h.1; omega⟩
  · exact h.2 c (by omega)⟩
theorem wBst_1 : wBst u S 1 0 := ⟨by omega, fun c hc => by
  have : c = 0 := by omega
  rw [this]
  exact ⟨Nat.le_refl _, fun _ => Nat.le_refl _⟩⟩
theorem wBst_u (h : wBst u S i b) (g : wBst u S i b') : b = b' := by
  have a := h.2 b' g.1
  have c := g.2 b h.1
  have e : wst u S b' = wst u S b := by omega
  have := a.2 e
  have := c.2 e.symm
  omega
end WBST
section WATC
variable {N sh x0 td A1 A2 A3 A4 A6 q : Nat} {u l : Nat → Nat} {ℓ FR : Nat → Int32} {s : zS} {xq S p : Int32}
theorem cCmg (hP : zShp N u ℓ FR sh A1 A2 A3 A4 A6 l s) (g6 : (s.2.2 sh 6).getD 0 = A6) (hN : N ≤ 12) (hq : xq.toInt = q) (hq32 : q < 32) : ∀ (n : Nat) (x : Int32) (i : Nat) (y : Int32), x.toInt = i → i ≤ 12 → 12 - i < n → (∀ j, j < 32 → (bt y j = true ↔ ((j < N ∧ An u q j) ∧ j < i))) → ∃ K, F_X6_comingBy_4 sh xq n x y s = (K, s) ∧ ∀ j, j < 32 → (bt K j = true ↔ (j < N ∧ An u q j)) := by
  have h0 := hP.1
  intro n
  induction n with
  | zero => intro x i y _ _ h; exact absurd h (by omega)
  | succ n ih =>
    intro x i y hx hi hm hb
    have nx : x.toNatClampNeg = i := by rw [ztn, hx]; rfl
    rw [F_X6_comingBy_4]
    simp only [zlt, g6, nx]
    by_cases c : i < N
    · rw [if_pos (by omega)]
      have x1 : (x + (1 : Int32)).toInt = (i + 1 : Nat) := zp1 hx (by omega)
      have hh := cHas (x := s.1 A6 i) hq hq32
      have bits := hP.2.1.2.2.1 i c q hq32
      by_cases c2 : bt (s.1 A6 i) q = true
      · rw [hh, if_pos c2, if_neg (by decide)]
        refine ih _ (i + 1) _ x1 (by omega) (by omega) (fun j hj => ?_)
        rw [b_or, bt_bit hx (by omega) hj, Bool.or_eq_true, hb j hj, decide_eq_true_eq]
        constructor
        · rintro (⟨w1, w2⟩ | w)
          · exact ⟨w1, by omega⟩
          · rw [w]
            exact ⟨⟨c, bits.mp c2⟩, by omega⟩
        · rintro ⟨w1, w2⟩
          by_cases e : j = i
          · exact Or.inr e
          · exact Or.inl ⟨w1, by omega⟩
      · rw [hh, if_neg c2, if_pos rfl]
        refine ih _ (i + 1) y x1 (by omega) (by omega) (fun j hj => ?_)
        rw [hb j hj]
        constructor
        · rintro ⟨w1, w2⟩
          exact ⟨w1, by omega⟩
        · rintro ⟨w1, w2⟩
          refine ⟨w1, ?_⟩
          by_cases e : j = i
          · rw [e] at w1
            exact absurd (bits.mpr w1.2) c2
          · omega
    · rw [if_neg (by omega)]
      refine ⟨y, rfl, fun j hj => ?_⟩
      rw [hb j hj]
      exact ⟨fun w => w.1, fun w => ⟨w, by have := w.1; omega⟩⟩
theorem cWst (hP : zShp N u ℓ FR sh A1 A2 A3 A4 A6 l s) (g0 : (s.2.2 x0 3).getD 0 = sh) (g6 : (s.2.2 sh 6).getD 0 = A6) (hN : N ≤ 12) (hS : ∀ j, j < 32 → bt S j = true → j < N) (hq : xq.toInt = q) (hq32 : q < 32) : ∃ z, F_X10_leftAtWorst x0 S xq s = (z, s) ∧ z.toInt = wst u S q := by
  obtain ⟨K, k1, k2⟩ := cCmg hP g6 hN hq hq32 10000 0 0 0 (by decide) (by omega) (by omega) (fun j hj => by
    rw [b_0]
    exact ⟨fun z => absurd z (by decide), fun z => absurd z.2 (by omega)⟩)
  have eK : F_X6_comingBy sh xq s = (K, s) := by
    unfold F_X6_comingBy
    simp only [zlt]
    exact k1
  have big : ∀ y : Int32, ∀ j, 12 ≤ j → j < 32 → bt (S &&& y) j = false := fun y j j1 j2 => by
    rw [b_and]
    cases hc : bt S j with
    | false => rfl
    | true => have := hS j j2 hc; omega
  have a : (F_J6_bitCount_0f7a4 (S &&& K)).toInt = cnt (fun j => bt S j = true ∧ An u q j) 12 := by
    rw [bitC (big K), cnt_cg (Q := fun j => bt S j = true ∧ An u q j) 12 (fun j hj => ?_)]
    rw [b_and, Bool.and_eq_true, k2 j (by omega)]
    exact ⟨fun h => ⟨h.1, h.2.2⟩, fun h => ⟨h.1, hS j (by omega) h.1, h.2⟩⟩
  have b : (F_J6_bitCount_0f7a4 (S &&& ((S &&& K) ^^^ (-1 : Int32)))).toInt = cnt (fun j => bt S j = true ∧ ¬ An u q j) 12 := by
    rw [bitC (big _), cnt_cg (Q := fun j => bt S j = true ∧ ¬ An u q j) 12 (fun j hj => ?_)]
    have kj := k2 j (by omega)
    rw [b_and, b_xor, b_m1 j (by omega), b_and]
    cases h1 : bt S j with
    | false => exact ⟨fun h => absurd h (by simp), fun h => absurd h.1 (by decide)⟩
    | true =>
      cases h2 : bt K j with
      | false => exact ⟨fun _ => ⟨rfl, fun w => by rw [kj.mpr ⟨hS j (by omega) h1, w⟩] at h2; cases h2⟩, fun _ => by simp⟩
      | true => exact ⟨fun h => absurd h (by simp), fun h => absurd (kj.mp h2).2 h.2⟩
  unfold F_X10_leftAtWorst
  simp only [zlt, zlt2, g0, eK]
  refine ⟨_, rfl, ?_⟩
  unfold wst
  by_cases c : cnt (fun j => bt S j = true ∧ An u q j) 12 ≤ cnt (fun j => bt S j = true ∧ ¬ An u q j) 12
  · rw [if_pos (by omega), if_pos c, b]
  · rw [if_neg (by omega), if_neg c, a]
theorem cWat (hP : zShp N u ℓ FR sh A1 A2 A3 A4 A6 l s) (g0 : (s.2.2 x0 3).getD 0 = sh) (g6 : (s.2.2 sh 6).getD 0 = A6) (gt : (s.2.2 x0 10).getD 0 = td) (ht : (s.1 td 0).toInt = N) (hN : N ≤ 12) (hN0 : 0 < N) (hS : ∀ j, j < 32 → bt S j = true → j < N) : ∀ (n : Nat) (x : Int32) (i : Nat) (y : Int32) (b : Nat), x.toInt = i → 1 ≤ i → i ≤ N → N - i < n → y.toInt = b → wBst u S i b → ∃ z b', F_X10_watch_46 S x0 p n x y s = (z, s) ∧ z.toInt = (b' : Nat) ∧ wBst u S N b' := by
  intro n
  induction n with
  | zero => intro x i y b _ _ _ h; exact absurd h (by omega)
  | succ n ih =>
    intro x i y b hx h1 hi hm hy hb
    rw [F_X10_watch_46]
    simp only [zlt, zlt2, gt]
    by_cases c : i < N
    · rw [if_pos (by omega)]
      have bi := hb.1
      obtain ⟨z1, w1, w2⟩ := cWst hP g0 g6 hN hS hx (by omega)
      obtain ⟨z2, w3, w4⟩ := cWst hP g0 g6 hN hS hy (by omega)
      have x1 : (x + (1 : Int32)).toInt = (i + 1 : Nat) := zp1 hx (by omega)
      simp only [w1, w3]
      by_cases d : z1.toInt < z2.toInt
      · rw [if_pos d]
        exact ih _ (i + 1) x i x1 (by omega) (by omega) (by omega) hx (wBst_t hb (by omega))
      · rw [if_neg d]
        exact ih _ (i + 1) y b x1 (by omega) (by omega) (by omega) hy (wBst_k hb (by omega))
    · rw [if_neg (by omega)]
      obtain rfl : i = N := by omega
      exact ⟨y, b, rfl, hy, hb⟩
end WATC
section WATM
variable {L : List Nat} {kd : Nat → Nat} {m0 N q : Nat} {u : Nat → Nat} {FR SR : Nat → Int32} {σ t : zS} {κ : Int} {S p : Int32}
theorem mWat (h : zShM N u FR SR m0 σ t) (hJ : zJ κ L kd σ) (hm : zT L kd m0 11) (hM : zM m0 σ = N) (hN : N ≤ 12) (hS : ∀ j, j < 32 → bt S j = true → j < N) (s0 : ¬ S.toInt = 0) : ∀ (n : Nat) (x : Int32) (i : Nat) (y z : Int32), x.toInt = i → i ≤ N → N - i < n → ((i = 0 ∧ z.toInt < 0) ∨ ∃ b : Nat, z.toInt = b ∧ y.toInt = wst u S b ∧ wBst u S i b) → 0 < N → ∃ v b', F_X11_watch_29 S m0 p n x y z t = (v, t) ∧ v.toInt = (b' : Nat) ∧ wBst u S N b' := by
  have h0 := h.many hJ hm hM
  intro n
  induction n with
  | zero => intro x i y z _ _ h; exact absurd h (by omega)
  | succ n ih =>
    intro x i y z hx hi hm' hb hN0
    have nx : x.toNatClampNeg = i := by rw [ztn, hx]; rfl
    rw [F_X11_watch_29]
    simp only [zlt, h.r 54, nx]
    by_cases c : i < N
    · rw [if_pos (by omega), if_neg s0]
      have x1 : (x + (1 : Int32)).toInt = (i + 1 : Nat) := zp1 hx (by omega)
      have a : (F_X11_bits (S &&& t.1 (mR σ m0 54) i)).toInt = cnt (fun j => bt S j = true ∧ An u i j) 12 := by
        rw [bitM, cnt_cg (Q := fun j => bt S j = true ∧ An u i j) 12 (fun j hj => ?_)]
        rw [b_and, Bool.and_eq_true]
        have := h.2.1 i j c (by omega)
        exact ⟨fun w => ⟨w.1, (this.mp w.2).2⟩, fun w => ⟨w.1, this.mpr ⟨hS j (by omega) w.1, w.2⟩⟩⟩
      have b : (F_X11_bits S).toInt = cnt (fun j => bt S j = true) 12 := bitM
      have sm := wst_sum (u := u) (S := S) (q := i)
      have le := cnt_le (P := fun j => bt S j = true) 12
      have d : (F_X11_bits S - F_X11_bits (S &&& t.1 (mR σ m0 54) i)).toInt = cnt (fun j => bt S j = true ∧ ¬ An u i j) 12 := by
        rw [zb_sub (by omega) (by omega)]
        omega
      have fin : ∀ v : Int32, v.toInt = wst u S i → ∃ v' b', (if z.toInt < 0 then F_X11_watch_29 S m0 p n (x + (1 : Int32)) v x t else if v.toInt < y.toInt then F_X11_watch_29 S m0 p n (x + (1 : Int32)) v x t else F_X11_watch_29 S m0 p n (x + (1 : Int32)) y z t) = (v', t) ∧ v'.toInt = (b' : Nat) ∧ wBst u S N b' := fun v hv => by
        rcases hb with ⟨i0, zn⟩ | ⟨b', hz, hy, hB⟩
        · rw [if_pos zn]
          refine ih _ (i + 1) v x x1 (by omega) (by omega) (Or.inr ⟨i, hx, hv, ?_⟩) hN0
          rw [i0]
          exact wBst_1
        · rw [if_neg (by omega)]
          by_cases g : v.toInt < y.toInt
          · rw [if_pos g]
            exact ih _ (i + 1) v x x1 (by omega) (by omega) (Or.inr ⟨i, hx, hv, wBst_t hB (by omega)⟩) hN0
          · rw [if_neg g]
            exact ih _ (i + 1) y z x1 (by omega) (by omega) (Or.inr ⟨b', hz, hy, wBst_k hB (by omega)⟩) hN0
      by_cases g : cnt (fun j => bt S j = true ∧ An u i j) 12 ≤ cnt (fun j => bt S j = true ∧ ¬ An u i j) 12
      · rw [if_neg (by omega)]
        refine fin _ ?_
        unfold wst
        rw [if_pos g, d]
      · rw [if_pos (by omega)]
        refine fin _ ?_
        unfold wst
        rw [if_neg g, a]
    · rw [if_neg (by omega)]
      obtain rfl : i = N := by omega
      rcases hb with ⟨i0, -⟩ | ⟨b', hz, -, hB⟩
      · omega
      · exact ⟨z, b', rfl, hz, hB⟩
end WATM
section WATB
variable {κ : Int} {L1 : List Nat} {kd1 : Nat → Nat} {L2 : List Nat} {kd2 : Nat → Nat} {σ1 σ2 τ1 τ2 : zS} {m0 x0 : Nat} {Q : Nat → zCo → (Nat → Int32) → Prop} {V : zWh} {ps pc sl rv sh cd : Nat} {v1 v2 p q : Int32}
theorem zRL.watch (hG : zGd Q) (h : zRL Q L1 kd1 x0 m0 V ps pc sl rv sh cd σ1 σ2) (hl : zLen x0 m0 σ1 σ2) (hd : zDy x0 m0 σ1 σ2) (hx : zT L1 kd1 x0 10) (hI : zI κ 0 L1 kd1 σ1) (hJ : zJ κ L2 kd2 σ2) (hm : zT L2 kd2 m0 11) (hg : gN m0 σ2) (f1 : (v1, τ1) = F_X10_watch x0 p σ1) (f2 : (v2, τ2) = F_X11_watch m0 p σ2) : v1.toInt = v2.toInt := by
  have e0 : (0 : Int32).toInt = 0 := by decide
  have a9 : (σ1.1 ((σ1.2.2 x0 5).getD 0) 4).toInt = (σ2.1 m0 62).toInt := by
    obtain ⟨-, -, N, n, u, hn, -⟩ := h
    exact hn.2.2.2.2.2.2.2.2
  unfold F_X10_watch at f1
  unfold F_X11_watch at f2
  simp only [zlt, zlt2, cWithin, mIn, e0] at f1 f2
  rw [a9] at f1
  by_cases cp : 0 ≤ p.toInt ∧ p.toInt ≤ (σ2.1 m0 62).toInt
  · rw [if_neg (fun z => z cp)] at f1 f2
    obtain ⟨N, u, FR, SR, ℓ, l, A1, A2, A3, A4, A6, s, t, S, hs, ⟨⟨n1, n2, -, -⟩, -, -, -, hM⟩, ⟨g0, g6, g5, g10, g11⟩, hP, eL, eM, hS⟩ := h.left hG hl hd hx hI hJ hm hg cp.1 cp.2
    rw [← hs, g0, g5, eL] at f1
    rw [eM] at f2
    simp only at f1 f2
    have hS' : ∀ j, j < 32 → bt S j = true → j < N := fun j hj hb => (hS j hj hb).2.1
    by_cases s0 : S.toInt = 0
    · rw [if_pos s0] at f1
      have r : ∀ n, F_X11_watch_29 S m0 p (n + 1) 0 0 (-2) t = (-2, t) := fun n => by
        rw [F_X11_watch_29]
        simp only [zlt]
        by_cases c : (0 : Int32).toInt < (F_X11_many m0 t).toInt
        · rw [if_pos c, if_pos s0]
        · rw [if_neg c]
      have r' : F_X11_watch_29 S m0 p 10000 0 0 (-2) t = (-2, t) := r 9999
      rw [r'] at f2
      rw [(zPr2 f1).1, (zPr2 f2).1]
    · rw [if_neg s0] at f1
      have hN0 : 0 < N := by
        apply Classical.byContradiction
        intro z
        refine s0 ?_
        rw [show S = 0 from b_ext (fun j hj => by
          rw [b_0]
          cases hc : bt S j with
          | false => rfl
          | true => have := hS' j hj hc; omega)]
        exact e0
      obtain ⟨z, b, w1, w2, w3⟩ := cWat (p := p) hP g0 g6 g10 g11 n1 hN0 hS' 10000 1 1 0 0 (by decide) (by omega) (by omega) (by omega) (by decide) wBst_1
      obtain ⟨z', b', w4, w5, w6⟩ := mWat (p := p) hM hJ hm n2 n1 hS' s0 10000 0 0 0 (-2) (by decide) (by omega) (by omega) (Or.inl ⟨rfl, by decide⟩) hN0
      rw [w1] at f1
      rw [w4] at f2
      rw [(zPr2 f1).1, (zPr2 f2).1, w2, w5, wBst_u w3 w6]
  · rw [if_pos cp] at f1 f2
    rw [(zPr2 f1).1, (zPr2 f2).1]
end WATB
