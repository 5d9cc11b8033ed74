/-! ANSWERS OF NOW: main -/
/-- of those that run into c the one of which most flows, the first of them; -1: none -/
def gi (u : Nat → Nat) (F : Nat → Int32) (c : Nat) : Nat → Int
  | 0 => -1
  | i + 1 => if 1 ≤ i ∧ u i = c ∧ (gi u F c i < 0 ∨ (F (gi u F c i).toNat).toInt < (F i).toInt) then i else gi u F c i
section GI
variable {u : Nat → Nat} {F G : Nat → Int32} {c : Nat}
theorem gi_y {i : Nat} (h : 1 ≤ i ∧ u i = c ∧ (gi u F c i < 0 ∨ (F (gi u F c i).toNat).toInt < (F i).toInt)) : gi u F c (i + 1) = i := by rw [gi, if_pos h]
theorem gi_n {i : Nat} (h : ¬ (1 ≤ i ∧ u i = c ∧ (gi u F c i < 0 ∨ (F (gi u F c i).toNat).toInt < (F i).toInt))) : gi u F c (i + 1) = gi u F c i := by rw [gi, if_neg h]
theorem gi_1 : gi u F c 1 = -1 := by
  rw [gi_n (by omega)]
  rfl
theorem gi_r : ∀ i, gi u F c i = -1 ∨ ∃ p : Nat, p < i ∧ 1 ≤ p ∧ gi u F c i = p := by
  intro i
  induction i with
  | zero => exact Or.inl rfl
  | succ i ih =>
    by_cases h : 1 ≤ i ∧ u i = c ∧ (gi u F c i < 0 ∨ (F (gi u F c i).toNat).toInt < (F i).toInt)
    · rw [gi_y h]
      exact Or.inr ⟨i, by omega, h.1, rfl⟩
    · rw [gi_n h]
      rcases ih with e | ⟨p, p1, p2, p3⟩
      · exact Or.inl e
      · exact Or.inr ⟨p, by omega, p2, p3⟩
theorem gi_cg : ∀ n, (∀ i, i < n → G i = F i) → gi u G c n = gi u F c n := by
  intro n
  induction n with
  | zero => intro _; rfl
  | succ n ih =>
    intro h
    have e := ih (fun i hi => h i (by omega))
    rw [gi, gi, e, h n (by omega)]
    rcases gi_r (u := u) (F := F) (c := c) n with k | ⟨p, p1, p2, p3⟩
    · have : gi u F c n < 0 := by omega
      simp only [this, true_or]
    · rw [p3, show ((p : Int)).toNat = p by omega, h p (by omega)]
theorem gi_N {N : Nat} : gi u F c (if 1 ≤ N then N else 1) = gi u F c N := by
  split
  · rfl
  · rw [show N = 0 by omega, gi_1]
    rfl
end GI
section MAINR
variable {q Y : Nat → Nat} {a b N : Nat} {s t : zS} {g : zGl} {u l : Nat → Nat}
theorem cInto {x0 td : Nat} (S : zSd q Y a b N g u l s t) (rx : (s.2.2 x0 2).getD 0 = q 0 ∧ (s.2.2 x0 10).getD 0 = td ∧ (s.2.2 x0 6).getD 0 = q 4) (n0 : (s.1 td 0).toInt = N) {x : Int32} {c : Nat} (hx : x.toInt = c) : ∃ v, F_X10_greatestInto x0 x s = (v, s) ∧ v.toInt = gi u (fun p => s.1 (q 6) p) c N := by
  have hN := S.1.2.2.2.1
  have g6 : (s.2.2 (q 0) 3).getD 0 = q 6 := S.1.1.1.1.2.2.2.2.2.1
  have g19 : (s.2.2 (q 4) 0).getD 0 = q 19 := S.1.1.1.2.2.2.2.1
  have em : (-1 : Int32).toInt = -1 := by decide
  have lp : ∀ (n : Nat) (y z : Int32) (i : Nat), y.toInt = i → 1 ≤ i → (i ≤ N ∨ i = 1) → 13 - i < n → z.toInt = gi u (fun p => s.1 (q 6) p) c i → ∃ v, F_X10_greatestInto_4 x0 x n y z s = (v, s) ∧ v.toInt = gi u (fun p => s.1 (q 6) p) c (if 1 ≤ N then N else 1) := by
    intro n
    induction n with
    | zero => intro y z i _ _ _ h; exact absurd h (by omega)
    | succ n ih =>
      intro y z i hy hi hi2 hn hz
      have ny : y.toNatClampNeg = i := by rw [ztn, hy]; rfl
      rw [F_X10_greatestInto_4]
      simp only [↓zlt, rx.1, rx.2.1, rx.2.2, g6, g19, ny, em]
      by_cases d : i < N
      · rw [if_pos (by omega)]
        have y1 := zp1 hy (by omega)
        have hu := S.1.2.2.2.2.2.1 i hi d
        by_cases e : u i = c
        · rw [if_pos (show (s.1 (q 19) i).toInt = x.toInt by omega)]
          rcases gi_r (u := u) (F := fun p => s.1 (q 6) p) (c := c) i with k | ⟨p, p1, p2, p3⟩
          · rw [if_pos (show z.toInt = -1 by omega)]
            exact ih _ _ (i + 1) y1 (by omega) (by omega) (by omega) (by rw [gi_y ⟨hi, e, Or.inl (by omega)⟩]; exact hy)
          · rw [if_neg (show ¬ z.toInt = -1 by omega)]
            have nz : z.toNatClampNeg = p := by rw [ztn, hz, p3]; rfl
            rw [nz]
            by_cases f : (s.1 (q 6) p).toInt < (s.1 (q 6) i).toInt
            · rw [if_pos f]
              exact ih _ _ (i + 1) y1 (by omega) (by omega) (by omega) (by rw [gi_y ⟨hi, e, Or.inr (by rw [p3, show ((p : Int)).toNat = p by omega]; exact f)⟩]; exact hy)
            · rw [if_neg f]
              exact ih _ _ (i + 1) y1 (by omega) (by omega) (by omega) (by
                rw [gi_n (fun k => by
                  rcases k.2.2 with k | k
                  · omega
                  · rw [p3, show ((p : Int)).toNat = p by omega] at k
                    exact f k)]
                exact hz)
        · rw [if_neg (show ¬ (s.1 (q 19) i).toInt = x.toInt by omega)]
          exact ih _ _ (i + 1) y1 (by omega) (by omega) (by omega) (by rw [gi_n (fun k => e k.2.1)]; exact hz)
      · rw [if_neg (by omega)]
        refine ⟨z, rfl, ?_⟩
        rw [hz]
        congr 1
        split <;> omega
  unfold F_X10_greatestInto
  simp only [zlt]
  obtain ⟨v, e1, e2⟩ := lp 10000 1 (-1) 1 (by decide) (by omega) (Or.inr rfl) (by omega) (by rw [gi_1]; exact em)
  exact ⟨v, e1, by rw [e2, gi_N]⟩
theorem mInto (S : zSd q Y a b N g u l s t) {x10 x p : Int32} {c : Nat} (hx : x.toInt = c) {k : Int32 → Int32 → zS → Int32 × zS} : ∀ (n : Nat) (y z : Int32) (i : Nat), y.toInt = i → 1 ≤ i → (i ≤ N ∨ i = 1) → 13 - i < n → z.toInt = gi u (fun p => t.1 (Y 55) p) c i → ∃ v, v.toInt = gi u (fun p => t.1 (Y 55) p) c (if 1 ≤ N then N else 1) ∧ F_X11_main_32 x10 x a p k n y z t = if v.toInt < 0 then (-1, t) else k (x10 + (1 : Int32)) v t := by
  have hN := S.1.2.2.2.1
  have M := S.2.1.2.2.2.2.1
  have g55 := (S.2.1.1.1 55 (by unfold zYj; omega)).1
  have g49 := (S.2.1.1.1 49 (by unfold zYj; omega)).1
  intro n
  induction n with
  | zero => intro y z i _ _ _ h; exact absurd h (by omega)
  | succ n ih =>
    intro y z i hy hi hi2 hn hz
    have ny : y.toNatClampNeg = i := by rw [ztn, hy]; rfl
    rw [F_X11_main_32]
    simp only [↓zlt, g55, g49, ny]
    by_cases d : i < N
    · rw [if_pos (show y.toInt < (F_X11_many a t).toInt by omega)]
      have y1 := zp1 hy (by omega)
      have hu := S.2.1.2.2.2.2.2.1 i hi d
      by_cases e : u i = c
      · rw [if_pos (show (t.1 (Y 49) i).toInt = x.toInt by omega)]
        rcases gi_r (u := u) (F := fun p => t.1 (Y 55) p) (c := c) i with k | ⟨p, p1, p2, p3⟩
        · rw [if_pos (show z.toInt < 0 by omega)]
          exact ih _ _ (i + 1) y1 (by omega) (by omega) (by omega) (by rw [gi_y ⟨hi, e, Or.inl (by omega)⟩]; exact hy)
        · rw [if_neg (show ¬ z.toInt < 0 by omega)]
          have nz : z.toNatClampNeg = p := by rw [ztn, hz, p3]; rfl
          rw [nz]
          by_cases f : (t.1 (Y 55) p).toInt < (t.1 (Y 55) i).toInt
          · rw [if_pos f]
            exact ih _ _ (i + 1) y1 (by omega) (by omega) (by omega) (by rw [gi_y ⟨hi, e, Or.inr (by rw [p3, show ((p : Int)).toNat = p by omega]; exact f)⟩]; exact hy)
          · rw [if_neg f]
            exact ih _ _ (i + 1) y1 (by omega) (by omega) (by omega) (by
              rw [gi_n (fun k => by
                rcases k.2.2 with k | k
                · omega
                · rw [p3, show ((p : Int)).toNat = p by omega] at k
                  exact f k)]
              exact hz)
      · rw [if_neg (show ¬ (t.1 (Y 49) i).toInt = x.toInt by omega)]
        exact ih _ _ (i + 1) y1 (by omega) (by omega) (by omega) (by rw [gi_n (fun k => e k.2.1)]; exact hz)
    · rw [if_neg (show ¬ y.toInt < (F_X11_many a t).toInt by omega)]
      refine ⟨z, ?_, rfl⟩
      rw [hz]
      congr 1
      split <;> omega
theorem mainL {x0 td : Nat} (S : zSd q Y a b N g u l s t) (FL : ∀ p, p < N → s.1 (q 6) p = t.1 (Y 55) p) (rx : (s.2.2 x0 2).getD 0 = q 0 ∧ (s.2.2 x0 10).getD 0 = td ∧ (s.2.2 x0 6).getD 0 = q 4) (n0 : (s.1 td 0).toInt = N) {p : Int32} : ∀ (n : Nat) (x y : Int32) (c : Nat), y.toInt = c → 0 ≤ x.toInt → p.toInt - x.toInt < (n : Int) → 0 < n → (F_X10_main_21 x0 p n x y s).1.toInt = (F_X11_main_21 a p n x y t).1.toInt := by
  have em : (-1 : Int32).toInt = -1 := by decide
  have o1 : (1 : Int32).toInt = 1 := by decide
  intro n
  induction n with
  | zero => intro x y c _ _ _ h; exact absurd h (by omega)
  | succ n ih =>
    intro x y c hy hx hn _
    have bp := zb_rng p
    rw [F_X10_main_21, F_X11_main_21]
    simp only [↓zlt, ↓zlt2, em]
    by_cases d : x.toInt < p.toInt
    · rw [if_pos d, if_pos d, if_neg (show ¬ y.toInt = -1 by omega)]
      have x1 : (x + (1 : Int32)).toInt = x.toInt + 1 := by rw [zb_add (by rw [o1]; omega) (by rw [o1]; omega), o1]
      obtain ⟨v, e1, e2⟩ := cInto S rx n0 hy
      obtain ⟨w, f1, f2⟩ := mInto (x10 := x) (p := p) (k := F_X11_main_21 a p n) S hy 10000 1 (-1) 1 (by decide) (by omega) (Or.inr rfl) (by omega) (by rw [gi_1]; exact em)
      rw [gi_N] at f1
      have vw : v.toInt = w.toInt := by
        rw [e2, f1]
        exact gi_cg N FL
      have ew : v = w := Int32.toInt_inj.mp vw
      rw [e1, f2]
      simp only
      have n1 : 0 < n := by omega
      rcases gi_r (u := u) (F := fun p => t.1 (Y 55) p) (c := c) N with k | ⟨P, p1, p2, p3⟩
      · rw [if_pos (show w.toInt < 0 by omega)]
        obtain ⟨m, rfl⟩ : ∃ m, n = m + 1 := ⟨n - 1, by omega⟩
        rw [F_X10_main_21]
        simp only [↓zlt, ↓zlt2, em]
        have ev : v.toInt = -1 := by omega
        rw [if_pos ev]
        split <;> exact ev.trans em.symm
      · rw [if_neg (show ¬ w.toInt < 0 by omega), ew]
        exact ih _ _ P (by omega) (by omega) (by omega) n1
    · rw [if_neg d, if_neg d]
end MAINR
section NOW5
variable {κ : Int} {L1 : List Nat} {kd1 : Nat → Nat} {L2 : List Nat} {kd2 : Nat → Nat} {σ1 σ2 τ1 τ2 s t : zS} {m0 x0 : Nat} {V : zWh} {ps pc sl rv sh cd : Nat} {v1 v2 p k : Int32}
theorem zRL.main (h : zRL zQw L1 kd1 x0 m0 V ps pc sl rv sh cd σ1 σ2) (hw : 0 < zM m0 σ2 → zLw x0 m0 σ1 σ2) (hl : zLen x0 m0 σ1 σ2) (hx : zT L1 kd1 x0 10) (hI : zI κ 0 L1 kd1 σ1) (hJ : zJ κ L2 kd2 σ2) (hm : zT L2 kd2 m0 11) (hg : gN m0 σ2) (f1 : (v1, τ1) = F_X10_main x0 p σ1) (f2 : (v2, τ2) = F_X11_main m0 p σ2) : v1.toInt = v2.toInt := by
  obtain ⟨td, B, N, gl, u, l, q, Y, d1, n2, eL, xr, ⟨hq, hY⟩, ⟨S, Dn, FL, RN⟩, -, -⟩ := h.now hw hl hx hI hJ hm hg
  have hV := h.2.1
  have hL := h.1
  have e0 : (0 : Int32).toInt = 0 := by decide
  have g10 : (σ1.2.2 x0 10).getD 0 = td := by rw [d1]; rfl
  have g6 : (σ1.2.2 x0 6).getD 0 = V.1 0 := by rw [hL.1.1]; rfl
  obtain ⟨td9, d9, t9⟩ := zi_ref (j := 10) (k2 := 9) hI hx (by rfl)
  obtain rfl : td9 = td := Option.some.inj (d9.symm.trans d1)
  obtain ⟨N', -, -, ⟨n3, n4, -⟩, -⟩ := h.2.2
  rw [g10] at n3
  have LE := h.lookE hl hx hI hJ hm hg td9 9 t9 (by omega)
  have hM : F_X10_hasMouth x0 σ1 = (if 0 < (σ1.1 td9 0).toInt then 1 else 0, σ1) := by
    unfold F_X10_hasMouth
    simp only [zlt, g10]
    split <;> rfl
  unfold F_X10_main at f1
  unfold F_X11_main at f2
  simp only [zlt, zlt2, hM, mMany, n2] at f1 f2
  by_cases hN : 0 < N
  · rw [if_pos (show 0 < (σ1.1 td9 0).toInt by omega), if_neg (by decide)] at f1
    by_cases A : p.toInt < 0
    · rw [if_pos A] at f1 f2
      rw [(zPr2 f1).1, (zPr2 f2).1]
    · rw [if_neg A] at f1 f2
      rw [if_neg (show ¬ (N : Int) = 0 by omega)] at f2
      have bp := zb_rng p
      have q0 : q 0 = rv := by rw [hq]; rfl
      have q4 : q 4 = V.1 0 := by rw [hq]; rfl
      have L := mainL (x0 := x0) (td := td9) (p := p) S (fun p hp => (FL p hp).1) ⟨by rw [xr, q0]; exact xrv hV, by rw [xr]; exact g10, by rw [xr, q4]; exact g6⟩ (by rw [LE]; omega) 4294967299 0 0 0 e0 (by omega) (by omega) (by omega)
      rw [show v1 = _ from congrArg Prod.fst f1, show v2 = _ from congrArg Prod.fst f2]
      exact L
  · rw [if_neg (show ¬ 0 < (σ1.1 td9 0).toInt by omega), if_pos (by decide)] at f1
    rw [(zPr2 f1).1]
    by_cases A : p.toInt < 0
    · rw [if_pos A] at f2
      rw [(zPr2 f2).1]
    · rw [if_neg A, if_pos (show (N : Int) = 0 by omega)] at f2
      rw [(zPr2 f2).1]
theorem zRP.main (h : zRP κ L1 kd1 L2 kd2 x0 m0 σ1 σ2) (hI : zI κ 0 L1 kd1 σ1) (hJ : zJ κ L2 kd2 σ2) (hx : zT L1 kd1 x0 10) (hm : zT L2 kd2 m0 11) (hg : gN m0 σ2) (f1 : (v1, τ1) = F_X10_main x0 p σ1) (f2 : (v2, τ2) = F_X11_main m0 p σ2) : v1.toInt = v2.toInt := by
  obtain ⟨V, ps, pc, sl, rv, sh, cd, hR⟩ := h.2.2
  exact hR.main h.2.1 h.1.2 hx hI hJ hm hg f1 f2
end NOW5
