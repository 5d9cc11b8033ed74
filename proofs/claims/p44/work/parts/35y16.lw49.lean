/-! ANSWERS OF NOW: rank -/
/-- claims of all, -1 for those that can claim nothing -/
noncomputable def wg (S : Nat → Bool) (C : Nat → Int32) (p : Nat) : Int32 := if S p = true then C p else -1
/-- how many stand ahead of p -/
noncomputable def rk (W : Nat → Int32) (p : Nat) : Nat → Nat
  | 0 => 0
  | i + 1 => rk W p i + (if 1 ≤ i ∧ ((W p).toInt < (W i).toInt ∨ ((W i).toInt = (W p).toInt ∧ i < p)) then 1 else 0)
section RK
variable {W W' : Nat → Int32} {p : Nat}
theorem rk_y {i : Nat} (h : 1 ≤ i ∧ ((W p).toInt < (W i).toInt ∨ ((W i).toInt = (W p).toInt ∧ i < p))) : rk W p (i + 1) = rk W p i + 1 := by rw [rk, if_pos h]
theorem rk_n {i : Nat} (h : ¬ (1 ≤ i ∧ ((W p).toInt < (W i).toInt ∨ ((W i).toInt = (W p).toInt ∧ i < p)))) : rk W p (i + 1) = rk W p i := by rw [rk, if_neg h, Nat.add_zero]
theorem rk_1 : rk W p 1 = 0 := by
  rw [rk_n (by omega)]
  rfl
theorem rk_le : ∀ i, rk W p i ≤ i := by
  intro i
  induction i with
  | zero => exact Nat.le_refl _
  | succ i ih =>
    rw [rk]
    split <;> omega
theorem rk_N {N : Nat} : rk W p (if 1 ≤ N then N else 1) = rk W p N := by
  split
  · rfl
  · rw [show N = 0 by omega, rk_1]
    rfl
end RK
section WINC
variable {q : Nat → Nat} {R : Nat → Nat → Option Nat} {s t τ : zS} {g : zGl} {N : Nat} {u : Nat → Nat} {k : Int32} {w : Nat}
theorem cWeighAL (h : zQr q s.2.2) (hg : 0 < N → zL5 q s g) (h0 : (s.1 (q 1) 0).toInt = N) (hN : N ≤ 12) (hI : ∀ x : Int32, (F_X6_isSource (q 1) x s).1.toInt = 0 ↔ ¬ (0 ≤ x.toInt ∧ Src N u x.toInt.toNat)) (hk : k.toInt = w) (hw : w < 3) (F : Nat → Int32) : ∀ (n : Nat) (x : Int32) (i : Nat) (τ : zS), x.toInt = i → 1 ≤ i → 13 - i < n → zFr (zRw q) s τ → (∀ p, p < N → τ.1 (q 6) p = F p) → (∀ p, 1 ≤ p → p < i → p < N → τ.1 (q 7) p = wg (sB N u) (fun p => clC q s g w p (F p)) p) → zFr (zRw q) s (F_X5_weigh_2 (q 0) k n x τ) ∧ zFr (fun c _ => c = q 7 ∨ c = q 8 ∨ c = q 9) τ (F_X5_weigh_2 (q 0) k n x τ) ∧ ∀ p, 1 ≤ p → p < N → (F_X5_weigh_2 (q 0) k n x τ).1 (q 7) p = wg (sB N u) (fun p => clC q s g w p (F p)) p := by
  obtain ⟨⟨g1, -, -, -, -, g6, g7⟩, -⟩ := id h.1
  intro n
  induction n with
  | zero => intro x i τ _ _ h; exact absurd h (by omega)
  | succ n ih =>
    intro x i τ hx hi hn f hF hc
    have rt : τ.2.2 = s.2.2 := f.rf
    have t0 : (τ.1 (q 1) 0).toInt = N := by rw [congrFun (zRw.r h f (i := 1) (by decide) (by omega)) 0]; exact h0
    have nx : x.toNatClampNeg = i := by rw [ztn, hx]; rfl
    rw [F_X5_weigh_2]
    simp only [↓zlt, ↓zlt2, rt, g1, g7, cIsR h f]
    by_cases c : i < N
    · have cx : x.toInt < (τ.1 (q 1) 0).toInt := by omega
      rw [if_pos cx]
      have nI := hI x
      rw [show x.toInt.toNat = i by omega] at nI
      by_cases sx : Src N u i
      · have cz : ¬ (F_X6_isSource (q 1) x s).1.toInt = 0 := fun z => (nI.mp z) ⟨by omega, sx⟩
        rw [if_neg cz]
        obtain ⟨t, e1, e2⟩ := cClaim h (hg (by omega)) f hk hw hx
        rw [e1, nx, hF i c]
        have f2 := f.tr (zTw.up e2)
        have f3 : zFr (fun c _ => c = q 7 ∨ c = q 8 ∨ c = q 9) τ (zu t.1 (q 7) i (clC q s g w i (F i)), t.2.1, t.2.2) := (zFr.up e2 (fun c j z => Or.inr z)).w (Or.inl rfl)
        obtain ⟨a1, a2, a3⟩ := ih _ (i + 1) (zu t.1 (q 7) i (clC q s g w i (F i)), t.2.1, t.2.2) (zp1 hx (by omega)) (by omega) (by omega) (f2.w (Or.inr (Or.inr (Or.inl rfl)))) (fun p hp => by
          rw [f3.2 (q 6) p (by
            rintro (z | z | z)
            · exact h.n (by decide) (by decide) (by decide) z
            · exact h.n (by decide) (by decide) (by decide) z
            · exact h.n (by decide) (by decide) (by decide) z)]
          exact hF p hp) (fun p p1 p2 p3 => by
          show zu t.1 (q 7) i _ (q 7) p = _
          by_cases e : p = i
          · rw [e, zu_s, wg, if_pos (sB_t.mpr sx)]
          · rw [zu_j _ _ _ _ _ (fun z => e z.symm), e2.2 (q 7) p (by
              rintro (z | z)
              · exact h.n (by decide) (by decide) (by decide) z
              · exact h.n (by decide) (by decide) (by decide) z)]
            exact hc p p1 (by omega) p3)
        exact ⟨a1, f3.tr a2, a3⟩
      · have cz : (F_X6_isSource (q 1) x s).1.toInt = 0 := nI.mpr (fun z => sx z.2)
        rw [if_pos cz, nx]
        have f3 : zFr (fun c _ => c = q 7 ∨ c = q 8 ∨ c = q 9) τ (zu τ.1 (q 7) i (-1), τ.2.1, s.2.2) := by
          have z := (zFr.id (A := fun c _ => c = q 7 ∨ c = q 8 ∨ c = q 9) (σ := τ)).w (r := q 7) (j := i) (v := (-1 : Int32)) (Or.inl rfl)
          rw [rt] at z
          exact z
        have f4 : zFr (zRw q) s (zu τ.1 (q 7) i (-1), τ.2.1, s.2.2) := by
          have z := f.w (r := q 7) (j := i) (v := (-1 : Int32)) (Or.inr (Or.inr (Or.inl rfl)))
          rw [rt] at z
          exact z
        obtain ⟨a1, a2, a3⟩ := ih _ (i + 1) (zu τ.1 (q 7) i (-1), τ.2.1, s.2.2) (zp1 hx (by omega)) (by omega) (by omega) f4 (fun p hp => by
          rw [f3.2 (q 6) p (by
            rintro (z | z | z)
            · exact h.n (by decide) (by decide) (by decide) z
            · exact h.n (by decide) (by decide) (by decide) z
            · exact h.n (by decide) (by decide) (by decide) z)]
          exact hF p hp) (fun p p1 p2 p3 => by
          show zu τ.1 (q 7) i _ (q 7) p = _
          by_cases e : p = i
          · rw [e, zu_s, wg, if_neg (fun z => sx (sB_t.mp z))]
          · rw [zu_j _ _ _ _ _ (fun z => e z.symm)]
            exact hc p p1 (by omega) p3)
        exact ⟨a1, f3.tr a2, a3⟩
    · have cx : ¬ x.toInt < (τ.1 (q 1) 0).toInt := by omega
      rw [if_neg cx]
      exact ⟨f, zFr.id, fun p p1 p2 => hc p p1 (by omega) p2⟩
theorem cWeighA (h : zQr q s.2.2) (hg : 0 < N → zL5 q s g) (h0 : (s.1 (q 1) 0).toInt = N) (hN : N ≤ 12) (hI : ∀ x : Int32, (F_X6_isSource (q 1) x s).1.toInt = 0 ↔ ¬ (0 ≤ x.toInt ∧ Src N u x.toInt.toNat)) (hk : k.toInt = w) (hw : w < 3) {F : Nat → Int32} (f : zFr (zRw q) s t) (hF : ∀ p, p < N → t.1 (q 6) p = F p) : zFr (zRw q) s (F_X5_weigh (q 0) k t) ∧ zFr (fun c _ => c = q 7 ∨ c = q 8 ∨ c = q 9) t (F_X5_weigh (q 0) k t) ∧ ∀ p, 1 ≤ p → p < N → (F_X5_weigh (q 0) k t).1 (q 7) p = wg (sB N u) (fun p => clC q s g w p (F p)) p := by
  unfold F_X5_weigh
  simp only [zlt]
  exact cWeighAL h hg h0 hN hI hk hw F 10000 1 1 t (by decide) (by omega) (by omega) f hF (fun p p1 p2 => absurd p2 (by omega))
theorem cRankL (h : zQr q s.2.2) (h0 : (s.1 (q 1) 0).toInt = N) (hN : N ≤ 12) (f : zFr (zRw q) s t) {W : Nat → Int32} (hW : ∀ p, 1 ≤ p → p < N → t.1 (q 7) p = W p) {x : Int32} {P : Nat} (hp : x.toInt = P) (hP : 1 ≤ P ∧ P < N) : ∀ (n : Nat) (y z : Int32) (i : Nat), y.toInt = i → 1 ≤ i → (i ≤ N ∨ i = 1) → 13 - i < n → z.toInt = rk W P i → ∃ v, F_X5_rankOf_4 (q 0) x n y z t = (v, t) ∧ v.toInt = rk W P (if 1 ≤ N then N else 1) := by
  obtain ⟨⟨g1, -, -, -, -, -, g7⟩, -⟩ := id h.1
  have rt : t.2.2 = s.2.2 := f.rf
  have t0 : (t.1 (q 1) 0).toInt = N := by rw [congrFun (zRw.r h f (i := 1) (by decide) (by omega)) 0]; exact h0
  have nP : x.toNatClampNeg = P := by rw [ztn, hp]; rfl
  have wP := hW P hP.1 hP.2
  intro n
  induction n with
  | zero => intro y z i _ _ _ h; exact absurd h (by omega)
  | succ n ih =>
    intro y z i hy hi hi2 hn hz
    have ny : y.toNatClampNeg = i := by rw [ztn, hy]; rfl
    have rb := rk_le (W := W) (p := P) i
    rw [F_X5_rankOf_4]
    simp only [↓zlt, rt, g1, g7, ny, nP, wP]
    by_cases c : i < N
    · rw [if_pos (by omega)]
      have y1 := zp1 hy (by omega)
      have z1 := zp1 hz (by omega)
      have wi := hW i hi c
      rw [wi]
      by_cases d : (W P).toInt < (W i).toInt
      · rw [if_pos d]
        exact ih _ _ (i + 1) y1 (by omega) (by omega) (by omega) (by rw [rk_y ⟨hi, Or.inl d⟩]; exact z1)
      · rw [if_neg d]
        by_cases e : (W i).toInt = (W P).toInt
        · rw [if_pos e]
          by_cases l : i < P
          · rw [if_pos (by omega)]
            exact ih _ _ (i + 1) y1 (by omega) (by omega) (by omega) (by rw [rk_y ⟨hi, Or.inr ⟨e, l⟩⟩]; exact z1)
          · rw [if_neg (by omega)]
            exact ih _ _ (i + 1) y1 (by omega) (by omega) (by omega) (by rw [rk_n (by omega)]; exact hz)
        · rw [if_neg e]
          exact ih _ _ (i + 1) y1 (by omega) (by omega) (by omega) (by rw [rk_n (by omega)]; exact hz)
    · rw [if_neg (by omega)]
      refine ⟨z, rfl, ?_⟩
      rw [hz]
      congr 2
      split <;> omega
theorem cRank (h : zQr q s.2.2) (h0 : (s.1 (q 1) 0).toInt = N) (hN : N ≤ 12) (f : zFr (zRw q) s t) {W : Nat → Int32} (hW : ∀ p, 1 ≤ p → p < N → t.1 (q 7) p = W p) {x : Int32} {P : Nat} (hp : x.toInt = P) (hP : 1 ≤ P ∧ P < N) : ∃ v, F_X5_rankOf (q 0) x t = (v, t) ∧ v.toInt = rk W P N := by
  unfold F_X5_rankOf
  simp only [zlt]
  obtain ⟨v, e1, e2⟩ := cRankL h h0 hN f hW hp hP 10000 1 0 1 (by decide) (by omega) (Or.inr rfl) (by omega) (by rw [rk_1]; decide)
  exact ⟨v, e1, by rw [e2, rk_N]⟩
end WINC
section RANKM
variable {q Y : Nat → Nat} {a b N : Nat} {s1 s τ : zS} {g : zGl} {u l : Nat → Nat} {k : Int32} {w : Nat}
theorem mRankL (S : zSd q Y a b N g u l s1 s) (hk : k.toInt = w) (hw : w < 3) {C : Nat → Int32} (hC : C = fun p => clM Y b s g w p (s.1 (Y 55) p)) (hr : ∀ p, p < N → 0 ≤ (C p).toInt) {x v3 : Int32} {P : Nat} (hp : x.toInt = P) (sp : Src N u P) (hv : v3 = C P) : ∀ (n : Nat) (y z : Int32) (i : Nat) (τ : zS), y.toInt = i → 1 ≤ i → (i ≤ N ∨ i = 1) → 13 - i < n → zFr (zVw Y a) s τ → τ.1 (Y 55) = s.1 (Y 55) → z.toInt = rk (wg (sB N u) C) P i → ∃ v τ', F_X11_rankOf_13 v3 a x k n y z τ = (v, τ') ∧ v.toInt = rk (wg (sB N u) C) P (if 1 ≤ N then N else 1) ∧ zFr (zVw Y a) s τ' ∧ τ'.1 (Y 55) = s.1 (Y 55) := by
  obtain ⟨b1, b2, b3, b4, b5, b6, b7, b8⟩ := S.2.1
  have hN := S.1.2.2.2.1
  subst hv
  have wP : wg (sB N u) C P = C P := if_pos (sB_t.mpr sp)
  have em : (-1 : Int32).toInt = -1 := by decide
  have rP := hr P sp.2.1
  intro n
  induction n with
  | zero => intro y z i τ _ _ _ h; exact absurd h (by omega)
  | succ n ih =>
    intro y z i τ hy hi hi2 hn f f55 hz
    have M : (F_X11_many a τ).toInt = N := by rw [mMany_w b1 f]; exact b5
    have nI := b8 y
    rw [show y.toInt.toNat = i by omega] at nI
    have rb := rk_le (W := wg (sB N u) C) (p := P) i
    rw [F_X11_rankOf_13]
    simp only [↓zlt, ↓zlt2, mIsR b1 f]
    by_cases c : i < N
    · rw [if_pos (show y.toInt < (F_X11_many a τ).toInt by omega)]
      have y1 := zp1 hy (by omega)
      have z1 := zp1 hz (by omega)
      by_cases e : i = P
      · rw [if_pos (show y.toInt = x.toInt by omega)]
        exact ih _ _ (i + 1) τ y1 (by omega) (by omega) (by omega) f f55 (by rw [rk_n (by rw [e]; omega)]; exact hz)
      · rw [if_neg (show ¬ y.toInt = x.toInt by omega)]
        by_cases sx : Src N u i
        · have cz : ¬ (F_X11_isSource a y s).toInt = 0 := fun z => (nI.mp z) ⟨by omega, sx⟩
          have wi : wg (sB N u) C i = C i := if_pos (sB_t.mpr sx)
          rw [if_neg cz]
          obtain ⟨t, e1, e2⟩ := mClaimW b1 b2 b3 (b4 (by omega)) f hk hw hy (by omega)
          have f2 := f.tr (zUw.up e2)
          have t55 : t.1 (Y 55) = s.1 (Y 55) := (zUw.r55 b1 e2).trans f55
          rw [f55, show clM Y b s g w i (s.1 (Y 55) i) = C i by rw [hC]] at e1
          rw [e1]
          by_cases d : (C P).toInt < (C i).toInt
          · rw [if_pos d]
            exact ih _ _ (i + 1) t y1 (by omega) (by omega) (by omega) f2 t55 (by rw [rk_y ⟨hi, Or.inl (by rw [wP, wi]; exact d)⟩]; exact z1)
          · rw [if_neg d]
            by_cases e' : (C i).toInt = (C P).toInt
            · rw [if_pos e']
              by_cases o : i < P
              · rw [if_pos (show y.toInt < x.toInt by omega)]
                exact ih _ _ (i + 1) t y1 (by omega) (by omega) (by omega) f2 t55 (by rw [rk_y ⟨hi, Or.inr ⟨by rw [wP, wi]; exact e', o⟩⟩]; exact z1)
              · rw [if_neg (show ¬ y.toInt < x.toInt by omega)]
                exact ih _ _ (i + 1) t y1 (by omega) (by omega) (by omega) f2 t55 (by rw [rk_n (by rw [wP, wi]; omega)]; exact hz)
            · rw [if_neg e']
              exact ih _ _ (i + 1) t y1 (by omega) (by omega) (by omega) f2 t55 (by rw [rk_n (by rw [wP, wi]; omega)]; exact hz)
        · have cz : (F_X11_isSource a y s).toInt = 0 := nI.mpr (fun z => sx z.2)
          have wi : wg (sB N u) C i = -1 := if_neg (fun z => sx (sB_t.mp z))
          rw [if_pos cz]
          exact ih _ _ (i + 1) τ y1 (by omega) (by omega) (by omega) f f55 (by rw [rk_n (by rw [wP, wi, em]; omega)]; exact hz)
    · rw [if_neg (show ¬ y.toInt < (F_X11_many a τ).toInt by omega)]
      refine ⟨z, τ, rfl, ?_, f, f55⟩
      rw [hz]
      congr 2
      split <;> omega
theorem mRank (S : zSd q Y a b N g u l s1 s) (hk : k.toInt = w) (hw : w < 3) {C : Nat → Int32} (hC : C = fun p => clM Y b s g w p (s.1 (Y 55) p)) (hr : ∀ p, p < N → 0 ≤ (C p).toInt) {x : Int32} {P : Nat} (hp : x.toInt = P) (sp : Src N u P) (f : zFr (zVw Y a) s τ) (f55 : τ.1 (Y 55) = s.1 (Y 55)) : ∃ v τ', F_X11_rankOf a x k τ = (v, τ') ∧ v.toInt = rk (wg (sB N u) C) P N ∧ zFr (zVw Y a) s τ' ∧ τ'.1 (Y 55) = s.1 (Y 55) := by
  have hN := S.1.2.2.2.1
  have := sp.2.1
  obtain ⟨t, e1, e2⟩ := mClaimW S.2.1.1 S.2.1.2.1 S.2.1.2.2.1 (S.2.1.2.2.2.1 (by omega)) f hk hw hp (by omega)
  have f2 := f.tr (zUw.up e2)
  have t55 : t.1 (Y 55) = s.1 (Y 55) := (zUw.r55 S.2.1.1 e2).trans f55
  rw [f55, show clM Y b s g w P (s.1 (Y 55) P) = C P by rw [hC]] at e1
  obtain ⟨v, τ', r1, r2, r3, r4⟩ := mRankL S hk hw hC hr hp sp rfl 10000 1 0 1 t (by decide) (by omega) (Or.inr rfl) (by omega) f2 t55 (by rw [rk_1]; decide)
  refine ⟨v, τ', ?_, by rw [r2, rk_N], r3, r4⟩
  unfold F_X11_rankOf
  simp only [zlt, zlt2, e1]
  exact r1
end RANKM
section NOW3
variable {κ : Int} {L1 : List Nat} {kd1 : Nat → Nat} {L2 : List Nat} {kd2 : Nat → Nat} {σ1 σ2 τ1 τ2 s t : zS} {m0 x0 : Nat} {V : zWh} {ps pc sl rv sh cd : Nat} {v1 v2 p k : Int32}
theorem zRL.rank (h : zRL zQw L1 kd1 x0 m0 V ps pc sl rv sh cd σ1 σ2) (hw : 0 < zM m0 σ2 → zLw x0 m0 σ1 σ2) (hl : zLen x0 m0 σ1 σ2) (hx : zT L1 kd1 x0 10) (hI : zI κ 0 L1 kd1 σ1) (hJ : zJ κ L2 kd2 σ2) (hm : zT L2 kd2 m0 11) (hg : gN m0 σ2) (f1 : (v1, τ1) = F_X10_rank x0 p k σ1) (f2 : (v2, τ2) = F_X11_rank m0 p k σ2) : v1.toInt = v2.toInt := by
  obtain ⟨td, B, N, gl, u, l, q, Y, d1, n2, eL, xr, ⟨hq, hY⟩, ⟨S, Dn, FL, RN⟩, -, -⟩ := h.now hw hl hx hI hJ hm hg
  have q0 : q 0 = rv := by rw [hq]; rfl
  have q1 : q 1 = sh := by rw [hq]; rfl
  have E := S.eq Dn
  have hN := S.1.2.2.2.1
  obtain ⟨w1, e1, i1⟩ := cCt (p := p) (k := k) h.2.1 h.1 d1 eL xr q1 S
  obtain ⟨w2, e2, i2⟩ := mCt (p := p) (k := k) S
  unfold F_X10_rank at f1
  unfold F_X11_rank at f2
  simp only [zlt, zlt2, e1, e2, xr, xrv h.2.1] at f1 f2
  by_cases c : (0 ≤ k.toInt ∧ k.toInt ≤ 2) ∧ 0 ≤ p.toInt ∧ Src N u p.toInt.toNat
  · rw [if_neg (fun z => i1.mp z c)] at f1
    rw [if_neg (fun z => i2.mp z c)] at f2
    obtain ⟨⟨k1, k2⟩, p1, sp⟩ := c
    obtain ⟨P, hp⟩ : ∃ P : Nat, p.toInt = P := ⟨p.toInt.toNat, by omega⟩
    obtain ⟨w, hk⟩ : ∃ w : Nat, k.toInt = w := ⟨k.toInt.toNat, by omega⟩
    rw [show p.toInt.toNat = P by omega] at sp
    obtain ⟨s, hs⟩ : ∃ s, s = F_X10_look x0 σ1 := ⟨_, rfl⟩
    obtain ⟨t, ht⟩ : ∃ t, t = F_X11_copies m0 σ2 := ⟨_, rfl⟩
    rw [← hs] at S FL E f1 xr
    rw [← ht] at S FL E f2
    obtain ⟨C, hC⟩ : ∃ C : Nat → Int32, C = fun p => clM Y B t gl w p (t.1 (Y 55) p) := ⟨_, rfl⟩
    have cC : ∀ p, p < N → clC q s gl w p (s.1 (q 6) p) = C p := fun p hp => by rw [hC, clEq E hp, (FL p hp).1]
    have rC' : ∀ p, p < N → 0 ≤ (C p).toInt := fun p hp => by rw [← cC p hp]; exact clC_r.1
    obtain ⟨c1, c2, c3⟩ := cWeighA S.1.1 S.1.2.1 S.1.2.2.1 hN S.1.2.2.2.2.2.2.2 hk (by omega) (F := fun p => s.1 (q 6) p) zFr.id (fun p _ => rfl)
    have c3' : ∀ p, 1 ≤ p → p < N → (F_X5_weigh (q 0) k s).1 (q 7) p = wg (sB N u) C p := fun p p1 p2 => by
      rw [c3 p p1 p2]
      unfold wg
      show (if sB N u p = true then clC q s gl w p (s.1 (q 6) p) else -1) = _
      rw [cC p p2]
    obtain ⟨x, x1, x2⟩ := cRank S.1.1 S.1.2.2.1 hN c1 c3' hp ⟨sp.1, sp.2.1⟩
    obtain ⟨y, t', y1, y2, -, -⟩ := mRank S hk (by omega) hC rC' hp sp zFr.id rfl
    have xs : ∀ j, (F_X5_weigh (q 0) k s).2.2 x0 j = σ1.2.2 x0 j := fun j => by rw [c1.rf]; exact xr j
    rw [q0] at x1 xs
    simp only [xs, xrv h.2.1, x1] at f1
    rw [y1] at f2
    rw [(zPr2 f1).1, (zPr2 f2).1]
    show x.toInt = y.toInt
    rw [x2, y2]
  · rw [if_pos (i1.mpr c)] at f1
    rw [if_pos (i2.mpr c)] at f2
    rw [(zPr2 f1).1, (zPr2 f2).1]
end NOW3
section RP3
variable {κ : Int} {L1 : List Nat} {kd1 : Nat → Nat} {L2 : List Nat} {kd2 : Nat → Nat} {σ1 σ2 τ1 τ2 : zS} {m0 x0 : Nat} {v1 v2 p q r : Int32}
theorem zRP.rank (h : zRP κ L1 kd1 L2 kd2 x0 m0 σ1 σ2) (hI : zI κ 0 L1 kd1 σ1) (hJ : zJ κ L2 kd2 σ2) (hx : zT L1 kd1 x0 10) (hm : zT L2 kd2 m0 11) (hg : gN m0 σ2) (f1 : (v1, τ1) = F_X10_rank x0 p q σ1) (f2 : (v2, τ2) = F_X11_rank m0 p q σ2) : v1.toInt = v2.toInt := by
  obtain ⟨V, ps, pc, sl, rv, sh, cd, hR⟩ := h.2.2
  exact hR.rank h.2.1 h.1.2 hx hI hJ hm hg f1 f2
end RP3
