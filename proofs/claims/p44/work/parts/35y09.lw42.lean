/-! ANSWERS OF NOW: margin, rank -/
section MARG
variable {q Y : Nat → Nat} {a b N : Nat} {s1 s τ : zS} {g : zGl} {u l : Nat → Nat} {k : Int32} {w : Nat}
theorem clC_r {q : Nat → Nat} {s : zS} {g : zGl} {w p : Nat} {f : Int32} : 0 ≤ (clC q s g w p f).toInt ∧ (clC q s g w p f).toInt ≤ 99999 := by
  have z0 : (0 : Int32).toInt = 0 := by decide
  have z9 : (99999 : Int32).toInt = 99999 := by decide
  have r := held_r (v := vCl q s g (2 + w) p f) (lo := 0) (hi := 99999) (by decide)
  rw [z0, z9] at r
  exact r
theorem mMargL (S : zSd q Y a b N g u l s1 s) (hk : k.toInt = w) (hw : w < 3) {C : Nat → Int32} (hC : C = fun p => clM Y b s g w p (s.1 (Y 55) p)) (hr : ∀ p, p < N → 0 ≤ (C p).toInt) {v6 : Int32} (hv2 : ∀ p, p < N → sB N u p = true → 0 ≤ v6.toInt ∧ v6.toInt < N) : ∀ (n : Nat) (x y : Int32) (i : Nat) (τ : zS), x.toInt = i → 1 ≤ i → (i ≤ N ∨ i = 1) → 13 - i < n → zFr (zVw Y a) s τ → τ.1 (Y 55) = s.1 (Y 55) → (y.toInt = if wn (sB N u) C v6.toInt i < 0 then -2 else (C (wn (sB N u) C v6.toInt i).toNat).toInt) → (F_X11_margin_25 v6 a k n x y τ).1.toInt = if wn (sB N u) C v6.toInt (if 1 ≤ N then N else 1) < 0 then -2 else (C v6.toInt.toNat - C (wn (sB N u) C v6.toInt (if 1 ≤ N then N else 1)).toNat).toInt := by
  obtain ⟨b1, b2, b3, b4, b5, b6, b7, b8⟩ := S.2.1
  have hN := S.1.2.2.2.1
  have em2 : (-2 : Int32).toInt = -2 := by decide
  intro n
  induction n with
  | zero => intro x y i τ _ _ _ h; exact absurd h (by omega)
  | succ n ih =>
    intro x y i τ hx hi hi2 hn f f55 hy
    have M : (F_X11_many a τ).toInt = N := by rw [mMany_w b1 f]; exact b5
    have nI := b8 x
    rw [show x.toInt.toNat = i by omega] at nI
    rw [F_X11_margin_25]
    simp only [↓zlt, ↓zlt2, mIsR b1 f]
    by_cases c : i < N
    · have cx : x.toInt < (F_X11_many a τ).toInt := by omega
      rw [if_pos cx]
      have x1 : (x + (1 : Int32)).toInt = ((i + 1 : Nat) : Int) := zp1 hx (by omega)
      by_cases ev : x.toInt = v6.toInt
      · rw [if_pos ev]
        refine ih _ y (i + 1) τ x1 (by omega) (by omega) (by omega) f f55 ?_
        rw [wn_n (fun z => z.2.1 (by omega))]
        exact hy
      · rw [if_neg ev]
        by_cases sx : Src N u i
        · have cz : ¬ (F_X11_isSource a x s).toInt = 0 := fun z => (nI.mp z) ⟨by omega, sx⟩
          rw [if_neg cz]
          obtain ⟨t, e1, e2⟩ := mClaimW b1 b2 b3 (b4 (by omega)) f hk hw hx (by omega)
          have f2 := f.tr (zUw.up e2)
          have t55 : t.1 (Y 55) = s.1 (Y 55) := (zUw.r55 b1 e2).trans f55
          obtain ⟨t', e1', e2'⟩ := mClaimW b1 b2 b3 (b4 (by omega)) f2 hk hw hx (by omega)
          have f3 := f2.tr (zUw.up e2')
          have t55' : t'.1 (Y 55) = s.1 (Y 55) := (zUw.r55 b1 e2').trans t55
          rw [f55] at e1
          rw [t55] at e1'
          have eC : clM Y b s g w i (s.1 (Y 55) i) = C i := by rw [hC]
          rw [eC] at e1 e1'
          rw [e1]
          simp only [e1']
          have ri := hr i c
          by_cases d : y.toInt < (C i).toInt
          · rw [if_pos d]
            refine ih _ _ (i + 1) t' x1 (by omega) (by omega) (by omega) f3 t55' ?_
            rw [wn_y (sB_t.mpr sx) (by omega) (by
              by_cases z : wn (sB N u) C v6.toInt i < 0
              · exact Or.inl z
              · rw [if_neg z] at hy
                exact Or.inr (by omega)), if_neg (by omega)]
            rfl
          · rw [if_neg d]
            refine ih _ y (i + 1) t x1 (by omega) (by omega) (by omega) f2 t55 ?_
            rw [wn_n (fun z => by
              by_cases z0 : wn (sB N u) C v6.toInt i < 0
              · rw [if_pos z0] at hy
                omega
              · rw [if_neg z0] at hy
                rcases z.2.2 with z1 | z1
                · exact z0 z1
                · omega)]
            exact hy
        · have cz : (F_X11_isSource a x s).toInt = 0 := nI.mpr (fun z => sx z.2)
          rw [if_pos cz]
          refine ih _ y (i + 1) τ x1 (by omega) (by omega) (by omega) f f55 ?_
          rw [wn_n (fun z => sx (sB_t.mp z.1))]
          exact hy
    · have cx : ¬ x.toInt < (F_X11_many a τ).toInt := by omega
      rw [if_neg cx]
      have eN : (if 1 ≤ N then N else 1) = i := by
        split <;> omega
      rw [eN]
      by_cases d : wn (sB N u) C v6.toInt i < 0
      · rw [if_pos d] at hy ⊢
        rw [if_pos (show y.toInt < 0 by omega)]
        exact em2
      · rw [if_neg d] at hy ⊢
        obtain ⟨W, W1, W2, W3, -⟩ := (wn_r (S := sB N u) (C := C) (but := v6.toInt) i).resolve_left (by omega)
        have sW := (sB_t.mp W3).2.1
        have rW := hr W sW
        rw [show (wn (sB N u) C v6.toInt i).toNat = W by omega] at hy ⊢
        obtain ⟨v0, v1⟩ := hv2 W sW W3
        have hv6 : v6.toInt = (v6.toInt.toNat : Nat) := by omega
        obtain ⟨t, e1, e2⟩ := mClaimW b1 b2 b3 (b4 (by omega)) f hk hw hv6 (by omega)
        rw [f55] at e1
        have eC : clM Y b s g w v6.toInt.toNat (s.1 (Y 55) v6.toInt.toNat) = C v6.toInt.toNat := by rw [hC]
        rw [eC] at e1
        rw [if_neg (show ¬ y.toInt < 0 by omega), e1]
        show (C v6.toInt.toNat - y).toInt = _
        rw [Int32.toInt_inj.mp hy]
end MARG
section NOW2
variable {κ : Int} {L1 : List Nat} {kd1 : Nat → Nat} {L2 : List Nat} {kd2 : Nat → Nat} {σ1 σ2 τ1 τ2 s t : zS} {m0 x0 : Nat} {V : zWh} {ps pc sl rv sh cd : Nat} {v1 v2 p k : Int32}
theorem zRL.margin (h : zRL zQw L1 kd1 x0 m0 V ps pc sl rv sh cd σ1 σ2) (hw : 0 < zM m0 σ2 → zLw x0 m0 σ1 σ2) (hl : zLen x0 m0 σ1 σ2) (hx : zT L1 kd1 x0 10) (hI : zI κ 0 L1 kd1 σ1) (hJ : zJ κ L2 kd2 σ2) (hm : zT L2 kd2 m0 11) (hg : gN m0 σ2) (f1 : (v1, τ1) = F_X10_margin x0 k σ1) (f2 : (v2, τ2) = F_X11_margin m0 k σ2) : v1.toInt = v2.toInt := by
  obtain ⟨td, B, N, gl, u, l, q, Y, d1, n2, eL, xr, ⟨hq, hY⟩, ⟨S, Dn, FL, RN⟩, -, -⟩ := h.now hw hl hx hI hJ hm hg
  have e0 : (0 : Int32).toInt = 0 := by decide
  have e2 : (2 : Int32).toInt = 2 := by decide
  have em2 : (-2 : Int32).toInt = -2 := by decide
  have em1 : (-1 : Int32).toInt = -1 := by decide
  have q0 : q 0 = rv := by rw [hq]; rfl
  have E := S.eq Dn
  have hN := S.1.2.2.2.1
  unfold F_X10_margin at f1
  unfold F_X11_margin at f2
  simp only [zlt, zlt2, cLaw, mLaw, cWithin, mIn, e0, e2, xr, xrv h.2.1] at f1 f2
  by_cases c : 0 ≤ k.toInt ∧ k.toInt ≤ 2
  · rw [if_neg (fun z => z c)] at f1 f2
    obtain ⟨w, hk⟩ : ∃ w : Nat, k.toInt = w := ⟨k.toInt.toNat, by omega⟩
    obtain ⟨s, hs⟩ : ∃ s, s = F_X10_look x0 σ1 := ⟨_, rfl⟩
    obtain ⟨t, ht⟩ : ∃ t, t = F_X11_copies m0 σ2 := ⟨_, rfl⟩
    rw [← hs] at S FL E f1 xr
    rw [← ht] at S FL E f2
    obtain ⟨C, hC⟩ : ∃ C : Nat → Int32, C = fun p => clM Y B t gl w p (t.1 (Y 55) p) := ⟨_, rfl⟩
    have cC : ∀ p, p < N → clC q s gl w p (s.1 (q 6) p) = C p := fun p hp => by rw [hC, clEq E hp, (FL p hp).1]
    have rC' : ∀ p, p < N → 0 ≤ (C p).toInt := fun p hp => by rw [← cC p hp]; exact clC_r.1
    -- the class
    obtain ⟨c1, c2, c3⟩ := cWeigh S.1.1 S.1.2.1 S.1.2.2.1 hN S.1.2.2.2.2.2.2.2 hk (by omega) (F := fun p => s.1 (q 6) p) zFr.id (fun p _ => rfl)
    obtain ⟨s6, hs6⟩ : ∃ s6, s6 = F_X5_weigh (q 0) k s := ⟨_, rfl⟩
    rw [← hs6] at c1 c2 c3
    rw [q0] at hs6
    obtain ⟨x, x1, x2⟩ := cGreat S.1.1 S.1.2.2.1 hN S.1.2.2.2.2.2.2.2 c1 (-1)
    obtain ⟨y, y1, y2⟩ := cGreat S.1.1 S.1.2.2.1 hN S.1.2.2.2.2.2.2.2 c1 x
    have cc : ∀ but, wn (sB N u) (fun p => s6.1 (q 7) p) but N = wn (sB N u) C but N := fun but => wn_cg N (fun p hp sp => by
      have sp' := sB_t.mp sp
      show s6.1 (q 7) p = C p
      rw [c3 p sp'.1 hp sp', cC p hp])
    rw [cc, em1] at x2
    rw [cc] at y2
    have xs : ∀ j, s6.2.2 x0 j = σ1.2.2 x0 j := fun j => by rw [c1.rf]; exact xr j
    have g7 : (s6.2.2 rv 4).getD 0 = q 7 := by
      have := S.1.1.1.1.2.2.2.2.2.2
      rw [q0] at this
      rw [c1.rf]
      exact this
    rw [q0] at x1 y1
    rw [← hs6] at f1
    simp only [xs, xrv h.2.1, x1, y1, g7] at f1
    -- the reference
    obtain ⟨v, t', z1, z2, z3, z4⟩ := mWin S.2.1.1 S.2.1.2.1 S.2.1.2.2.1 S.2.1.2.2.2.1 S.2.1.2.2.2.2.1 hN S.2.1.2.2.2.2.2.2.2 hk (by omega) (F := fun p => t.1 (Y 55) p) zFr.id (fun p _ => rfl)
    have z2' : v.toInt = wn (sB N u) C (-1) N := by rw [z2, hC]
    have vx : v.toInt = x.toInt := by rw [z2', x2]
    have hv2 : ∀ p, p < N → sB N u p = true → 0 ≤ v.toInt ∧ v.toInt < N := fun p hp sp => by
      have o := wn_0 (C := C) (but := -1) N p hp sp (by omega)
      rcases wn_r (S := sB N u) (C := C) (but := -1) N with z | ⟨W, W1, W2, -⟩ <;> omega
    have r55 : t'.1 (Y 55) = t.1 (Y 55) := zUw.r55 S.2.1.1 z4
    have L := mMargL S hk (by omega) hC rC' (v6 := v) hv2 10000 1 (-2) 1 t' (by decide) (by omega) (Or.inr rfl) (by omega) z3 r55 (by rw [wn_1 sB_0, if_pos (by decide)]; decide)
    rw [wn_N] at L
    simp only [z1] at f2
    rw [show v2 = (F_X11_margin_25 v m0 k 10000 1 (-2) t').1 from congrArg Prod.fst f2, L]
    by_cases d : wn (sB N u) C v.toInt N < 0
    · rw [if_pos d]
      by_cases dx : x.toInt < 0
      · rw [if_pos dx] at f1
        rw [(zPr2 f1).1]; exact em2
      · rw [if_neg dx, if_pos (by rw [y2, ← vx]; exact d)] at f1
        rw [(zPr2 f1).1]; exact em2
    · rw [if_neg d]
      obtain ⟨W, W1, W2, W3, W4⟩ := (wn_r (S := sB N u) (C := C) (but := v.toInt) N).resolve_left (by omega)
      have sW := sB_t.mp W3
      obtain ⟨o1, o2⟩ := hv2 W W1 W3
      obtain ⟨X, X1, X2, X3, -⟩ := (wn_r (S := sB N u) (C := C) (but := -1) N).resolve_left (by omega)
      have sX := sB_t.mp X3
      have hxX : x.toInt = X := by omega
      have hyW : y.toInt = W := by rw [y2, ← vx]; exact W2
      have nX : x.toNatClampNeg = X := by rw [ztn, hxX]; rfl
      have nW : y.toNatClampNeg = W := by rw [ztn, hyW]; rfl
      rw [if_neg (show ¬ x.toInt < 0 by omega), if_neg (show ¬ y.toInt < 0 by omega)] at f1
      rw [(zPr2 f1).1, nX, nW, c3 X sX.1 sX.2.1 sX, c3 W sW.1 sW.2.1 sW, show v.toInt.toNat = X by omega, show (wn (sB N u) C v.toInt N).toNat = W by omega]
      show (clC q s gl w X (s.1 (q 6) X) - clC q s gl w W (s.1 (q 6) W)).toInt = _
      rw [cC X sX.2.1, cC W sW.2.1]
  · rw [if_pos c] at f1 f2
    rw [(zPr2 f1).1, (zPr2 f2).1]
end NOW2
