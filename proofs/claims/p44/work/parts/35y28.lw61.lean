/-! THE FEWEST DAMS: dams -/
theorem p2N : ∀ N : Nat, N ≤ 12 → ((1 : Int32) <<< (nI N &&& 31)).toInt = ((2 ^ N : Nat) : Int) := by decide
theorem mskN : ∀ N : Nat, N ≤ 12 → ∀ j : Nat, j < 32 → bt ((1 : Int32) <<< (nI N &&& 31) - 1) j = decide (j < N) := by decide +kernel
/-- what is told of the set found -/
noncomputable def dAns (r b : Int32) : Int32 := if b.toInt = -1 then -2 else if r.toInt = -1 then F_J6_bitCount_0f7a4 b else F_X10_bitAt b r
def okS (b : Int32) : Prop := b.toInt = -1 ∨ (0 ≤ b.toInt ∧ (∀ j, 12 ≤ j → j < 32 → bt b j = false) ∧ cnt (fun j => bt b j = true) 12 ≤ 3)
section AHEAD
variable {z b r v f dm D0 : Int32} {m0 N H : Nat} {ρ : zS}
theorem ahdS (hz : ∀ j, 12 ≤ j → j < 32 → bt z j = false) (h3 : cnt (fun j => bt z j = true) 12 ≤ 3) (hb : okS b) : (F_X10_isAhead z b).toInt = 0 ↔ ¬ (b.toInt < 0 ∨ cnt (fun j => bt z j = true) 12 < cnt (fun j => bt b j = true) 12 ∨ (cnt (fun j => bt z j = true) 12 = cnt (fun j => bt b j = true) 12 ∧ ¬ (F_X11_isEarlier z b).toInt = 0)) := by
  have m1 : (-1 : Int32).toInt = -1 := by decide
  have n1 : ¬ (1 : Int32).toInt = 0 := by decide
  have e0 : (0 : Int32).toInt = 0 := by decide
  unfold F_X10_isAhead
  simp only [zlt, m1]
  rcases hb with hb | ⟨b1, b2, b3⟩
  · rw [if_pos hb]
    exact ⟨fun k => absurd k n1, fun k => absurd (Or.inl (by omega)) k⟩
  · rw [if_neg (by omega)]
    have cb := bitC b2
    have cz := bitC hz
    have sb : (F_J6_bitCount_0f7a4 b - F_J6_bitCount_0f7a4 z).toInt = (cnt (fun j => bt b j = true) 12 : Int) - cnt (fun j => bt z j = true) 12 := by
      rw [zb_sub (by omega) (by omega), cb, cz]
    by_cases c : 0 < (F_J6_bitCount_0f7a4 b - F_J6_bitCount_0f7a4 z).toInt
    · rw [if_pos c]
      exact ⟨fun k => absurd k n1, fun k => absurd (Or.inr (Or.inl (by omega))) k⟩
    · rw [if_neg c]
      by_cases d : (F_J6_bitCount_0f7a4 b - F_J6_bitCount_0f7a4 z).toInt = 0
      · rw [if_pos d]
        have ec : cnt (fun j => bt z j = true) 12 = cnt (fun j => bt b j = true) 12 := by omega
        have E := erl hz b2 ec h3
        by_cases k : (z &&& ((z ^^^ b) &&& -(z ^^^ b))).toInt = 0
        · rw [if_pos k]
          refine ⟨fun _ => ?_, fun _ => e0⟩
          rintro (w | w | ⟨-, w⟩)
          · omega
          · omega
          · exact w (E.mpr k)
        · rw [if_neg k]
          exact ⟨fun w => absurd w n1, fun w => absurd (Or.inr (Or.inr ⟨ec, fun y => k (E.mp y)⟩)) w⟩
      · rw [if_neg d]
        refine ⟨fun _ => ?_, fun _ => e0⟩
        rintro (w | w | ⟨w, -⟩)
        · omega
        · omega
        · omega
/-- even numbers below 2^N have their bits at places beside the mouth -/
theorem evnB {h : Nat} (hz : z.toInt = ((2 * h : Nat) : Int)) (hh : 2 * h < 2 ^ N) {j : Nat} (k : bt z j = true) : 1 ≤ j ∧ j < N := by
  refine ⟨?_, ?_⟩
  · apply Classical.byContradiction
    intro w
    rw [show j = 0 by omega, bt_tb hz] at k
    rw [Nat.testBit_zero] at k
    simp at k
  · apply Classical.byContradiction
    intro w
    rw [bt_hi hz hh (by omega)] at k
    exact absurd k (by decide)
/-- both ask alike whether a set can be dammed -/
theorem subT (hf : ∀ j, j < 32 → (bt f j = true ↔ 1 ≤ j ∧ j < N ∧ ¬ bt D0 j = true)) : (z &&& (f ^^^ (-1 : Int32))).toInt = 0 ↔ ∀ j, j < 32 → bt z j = true → bt f j = true := by
  rw [z_bits]
  constructor
  · intro w j hj k
    have := w j hj
    rw [b_and, b_xor, b_m1 j hj, k] at this
    revert this
    cases bt f j <;> simp
  · intro w j hj
    rw [b_and, b_xor, b_m1 j hj]
    cases k : bt z j with
    | false => rfl
    | true =>
      rw [w j hj k]
      rfl
theorem dmT {h : Nat} (hz : z.toInt = ((2 * h : Nat) : Int)) (hh : 2 * h < 2 ^ N) (hf : ∀ j, j < 32 → (bt f j = true ↔ 1 ≤ j ∧ j < N ∧ ¬ bt D0 j = true)) (hd : ∀ j, j < 32 → (bt dm j = true ↔ 1 ≤ j ∧ j < N ∧ bt D0 j = true)) : (z &&& dm).toInt = 0 ↔ (z &&& (f ^^^ (-1 : Int32))).toInt = 0 := by
  rw [subT hf, z_bits]
  constructor
  · intro w j hj k
    obtain ⟨j1, j2⟩ := evnB hz hh k
    refine (hf j hj).mpr ⟨j1, j2, fun y => ?_⟩
    have := w j hj
    rw [b_and, k, (hd j hj).mpr ⟨j1, j2, y⟩] at this
    exact absurd this (by decide)
  · intro w j hj
    rw [b_and]
    cases k : bt z j with
    | false => rfl
    | true =>
      cases y : bt dm j with
      | false => rfl
      | true => exact absurd ((hd j hj).mp y).2.2 ((hf j hj).mp (w j hj k)).2.2
/-- the reference's answer at its end -/
theorem dFin (hb : okS b) : (if b.toInt < 0 then (-2 : Int32) else if r.toInt = (-1 : Int32).toInt then F_X11_bits b else F_X11_ithOf b r).toInt = (dAns r b).toInt := by
  have m1 : (-1 : Int32).toInt = -1 := by decide
  unfold dAns
  rw [m1]
  rcases hb with hb | ⟨b1, b2, b3⟩
  · rw [if_pos (by omega), if_pos hb]
  · rw [if_neg (show ¬ b.toInt < 0 by omega), if_neg (show ¬ b.toInt = -1 by omega)]
    by_cases c : r.toInt = -1
    · rw [if_pos c, if_pos c, bitM, bitC b2]
    · rw [if_neg c, if_neg c, ithE]
/-- beyond all that is free, the reference goes by -/
theorem dSkip (hN : N ≤ 12) (hH : 2 ^ N = 2 * H) (f0 : 0 ≤ f.toInt) (hf : ∀ j, j < 32 → (bt f j = true ↔ 1 ≤ j ∧ j < N ∧ ¬ bt D0 j = true)) (hd : ∀ j, j < 32 → (bt dm j = true ↔ 1 ≤ j ∧ j < N ∧ bt D0 j = true)) (hM : (F_X11_many m0 ρ).toInt = N) (hb : okS b) : ∀ (d n : Nat) (z : Int32) (h : Nat), z.toInt = ((2 * h : Nat) : Int) → h + d = H → d < n → f.toInt < 2 * h → (F_X11_dams_40 dm m0 v r n z b ρ).1.toInt = (dAns r b).toInt := by
  have e3 : (3 : Int32).toInt = 3 := by decide
  have o2 : (2 : Int32).toInt = 2 := by decide
  have mN : F_X11_many m0 ρ = nI N := zNi hM (by omega)
  have pN := p2N N hN
  have hH' : H ≤ 2048 := by
    have := Nat.pow_le_pow_right (n := 2) (by decide) hN
    omega
  intro d
  induction d with
  | zero =>
    intro n z h hz hd0 hn hl
    obtain ⟨n, rfl⟩ : ∃ k, n = k + 1 := ⟨n - 1, by omega⟩
    rw [F_X11_dams_40]
    simp only [↓zlt, mN, pN]
    rw [if_neg (by omega), ← dFin hb]
    by_cases c : b.toInt < 0
    · rw [if_pos c, if_pos c]
    · rw [if_neg c, if_neg c]
      by_cases e : r.toInt = (-1 : Int32).toInt
      · rw [if_pos e, if_pos e]
      · rw [if_neg e, if_neg e]
  | succ d ih =>
    intro n z h hz hd0 hn hl
    obtain ⟨n, rfl⟩ : ∃ k, n = k + 1 := ⟨n - 1, by omega⟩
    have z2 : (z + (2 : Int32)).toInt = ((2 * (h + 1) : Nat) : Int) := by
      rw [zb_add (by omega) (by omega), o2]
      omega
    have go := ih n (z + (2 : Int32)) (h + 1) z2 (by omega) (by omega) (by omega)
    rw [F_X11_dams_40]
    simp only [↓zlt, mN, pN, e3]
    rw [if_pos (by omega)]
    by_cases c : 3 < (F_X11_bits z).toInt
    · rw [if_pos c]
      exact go
    · rw [if_neg c]
      have T := dmT hz (by omega) hf hd
      have ns : ¬ (z &&& dm).toInt = 0 := fun w => by
        have s := (subT hf).mp (T.mp w)
        have := sub_le hz f0 s
        omega
      rw [if_neg ns]
      exact go
end AHEAD
section DAMS2
variable {κ : Int} {L1 : List Nat} {kd1 : Nat → Nat} {L2 : List Nat} {kd2 : Nat → Nat} {σ1 σ2 τ1 τ2 s t x ρ : zS} {m0 x0 : Nat} {V : zWh} {ps pc sl rv sh cd td N H : Nat} {v1 v2 v r f dm : Int32} {q Y : Nat → Nat}
theorem zRL.damsL (h : zRL zQw L1 kd1 x0 m0 V ps pc sl rv sh cd σ1 σ2) (hw : 0 < zM m0 σ2 → zLw x0 m0 σ1 σ2) (hl : zLen x0 m0 σ1 σ2) (hx : zT L1 kd1 x0 10) (hI : zI κ 0 L1 kd1 σ1) (hJ : zJ κ L2 kd2 σ2) (hm : zT L2 kd2 m0 11) (hg : gN m0 σ2) (d1 : σ1.2.2 x0 10 = some td) (n2 : zM m0 σ2 = N) (hN : 0 < N) (hN12 : N ≤ 12) (hq : q = qOf σ1.2.2 rv sh cd td V 0) (hY : Y = mR σ2 m0) (eL : F_X5_look rv td (V.1 0) σ1 = F_X10_look x0 σ1) (xr : ∀ j, (F_X10_look x0 σ1).2.2 x0 j = σ1.2.2 x0 j) (g63 : ((F_X10_look x0 σ1).2.2 (q 0) 3).getD 0 = q 6) (n0 : ((F_X10_look x0 σ1).1 td 0).toInt = N) (ntd : ∀ j, ¬ zQ6 q td j) (nA : ∀ j, ¬ zQ6 q (V.1 0) j) (hH : 2 ^ N = 2 * H) (f0 : 0 ≤ f.toInt) (f1 : f.toInt < ((2 ^ N : Nat) : Int)) (hf : ∀ j, j < 32 → (bt f j = true ↔ 1 ≤ j ∧ j < N ∧ ¬ bt (σ1.1 (V.1 0) 3) j = true)) (hd : ∀ j, j < 32 → (bt dm j = true ↔ 1 ≤ j ∧ j < N ∧ bt (σ1.1 (V.1 0) 3) j = true)) : ∀ (d n n' : Nat) (z b : Int32) (e : Nat) (x ρ : zS), z.toInt = ((2 * e : Nat) : Int) → e + d = H → 2 * d + 2 < n → d < n' → zFr (zQ6 q) (F_X10_look x0 σ1) x → zRj m0 σ2 ρ → okS b → (dAns r (F_X10_fewestDams_33 f x0 v n z b x).1).toInt = (F_X11_dams_40 dm m0 v r n' z b ρ).1.toInt := by
  have hL := h.1
  have hV := h.2.1
  have g10 : (σ1.2.2 x0 10).getD 0 = td := by rw [d1]; rfl
  have g6 : (σ1.2.2 x0 6).getD 0 = V.1 0 := by rw [hL.1.1]; rfl
  have q0 : q 0 = rv := by rw [hq]; rfl
  have e3 : (3 : Int32).toInt = 3 := by decide
  have o2 : (2 : Int32).toInt = 2 := by decide
  have o1 : (1 : Int32).toInt = 1 := by decide
  have w0 : (0 : Int32).toNatClampNeg = 0 := by decide
  have pN := p2N N hN12
  have hH' : H ≤ 2048 := by
    have := Nat.pow_le_pow_right (n := 2) (by decide) hN12
    omega
  have f1' : f.toInt < 2 * H := by
    rw [hH] at f1
    omega
  have mM : ∀ {ρ : zS}, zRj m0 σ2 ρ → (F_X11_many m0 ρ).toInt = N := fun R => by rw [mMany_g hJ hm R.2 (by rfl) (by rfl) (by rfl)]; exact n2
  intro d
  induction d with
  | zero =>
    intro n n' z b e x ρ hz hd0 hn hn' fx R hb
    obtain ⟨n, rfl⟩ : ∃ k, n = k + 1 := ⟨n - 1, by omega⟩
    rw [dSkip hN12 hH f0 hf hd (mM R) hb 0 n' z e hz hd0 hn' (by omega), F_X10_fewestDams_33, if_pos (by omega)]
  | succ d ih =>
    intro n n' z b e x ρ hz hd0 hn hn' fx R hb
    obtain ⟨n, rfl⟩ : ∃ k, n = k + 1 + 1 := ⟨n - 2, by omega⟩
    by_cases A : f.toInt < z.toInt
    · rw [dSkip hN12 hH f0 hf hd (mM R) hb (d + 1) n' z e hz hd0 hn' (by omega), F_X10_fewestDams_33, if_pos A]
    obtain ⟨n', rfl⟩ : ∃ k, n' = k + 1 := ⟨n' - 1, by omega⟩
    have z1 : (z + (1 : Int32)).toInt = ((2 * e : Nat) : Int) + 1 := by
      rw [zb_add (by omega) (by omega), o1, hz]
    have z2 : (z + (2 : Int32)).toInt = ((2 * (e + 1) : Nat) : Int) := by
      rw [zb_add (by omega) (by omega), o2]
      omega
    have z12 : z + (1 : Int32) + (1 : Int32) = z + (2 : Int32) := by
      refine Int32.toInt_inj.mp ?_
      rw [zb_add (by omega) (by omega), o1, z1, z2]
      omega
    -- the odd number behind
    have go : ∀ (b : Int32) (x ρ : zS), zFr (zQ6 q) (F_X10_look x0 σ1) x → zRj m0 σ2 ρ → okS b → (dAns r (F_X10_fewestDams_33 f x0 v (n + 1) (z + (1 : Int32)) b x).1).toInt = (F_X11_dams_40 dm m0 v r n' (z + (2 : Int32)) b ρ).1.toInt := fun b x ρ fx R hb => by
      by_cases B : f.toInt < (z + (1 : Int32)).toInt
      · rw [dSkip hN12 hH f0 hf hd (mM R) hb d n' (z + (2 : Int32)) (e + 1) z2 (by omega) (by omega) (by omega), F_X10_fewestDams_33, if_pos B]
      · rw [F_X10_fewestDams_33, if_neg B]
        simp only [↓zlt]
        have ns : ¬ ((z + (1 : Int32)) &&& (f ^^^ (-1 : Int32))).toInt = 0 := fun w => by
          have k := (subT hf).mp w 0 (by decide) (by
            rw [bt_tb (s := 2 * e + 1) (by omega), Nat.testBit_zero]
            simp)
          have := ((hf 0 (by decide)).mp k).1
          omega
        rw [if_neg ns, z12]
        exact ih n n' _ b (e + 1) x ρ z2 (by omega) (by omega) (by omega) fx R hb
    have hzb : ∀ j, 12 ≤ j → j < 32 → bt z j = false := fun j j1 j2 => bt_hi hz (n := 12) (by omega) j1
    have cz := bitC hzb
    have cm : (F_X11_bits z).toInt = cnt (fun j => bt z j = true) 12 := bitM
    have mN : F_X11_many m0 ρ = nI N := zNi (mM R) (by omega)
    have xx : ∀ j, x.2.2 x0 j = σ1.2.2 x0 j := fun j => by rw [fx.rf]; exact xr j
    have xD : x.1 (V.1 0) 3 = σ1.1 (V.1 0) 3 := by rw [fx.2 (V.1 0) 3 (nA 3), h.lookD]
    have T := dmT hz (by omega) hf hd
    rw [F_X10_fewestDams_33, F_X11_dams_40, if_neg A]
    simp only [↓zlt, mN, pN, e3, cz, cm, xx, g6, xD, xrv hV]
    rw [if_pos (show z.toInt < ((2 ^ N : Nat) : Int) by omega)]
    by_cases S : (z &&& (f ^^^ (-1 : Int32))).toInt = 0
    · rw [if_pos S]
      by_cases C : (3 : Int) < (cnt (fun j => bt z j = true) 12 : Nat)
      · rw [if_pos C, if_pos C]
        exact go b x ρ fx R hb
      · rw [if_neg C, if_neg C, if_pos (T.mpr S)]
        have h3 : cnt (fun j => bt z j = true) 12 ≤ 3 := by omega
        have AH := ahdS hzb h3 hb
        have okz : okS z := Or.inr ⟨by omega, hzb, h3⟩
        -- tried
        obtain ⟨a1, a2, a3, -⟩ := h.damS hw hl hx hI hJ hm hg d1 n2 hq hY eL fx R.1 R.2 (mask := z) (D := σ1.1 (V.1 0) 3 ||| z) (fun c c1 c2 => by rw [b_or, h.lookD]) (k := 0) (w := 0) (by decide) (by decide)
        obtain ⟨y, hy⟩ : ∃ y, y = F_X5_run rv (σ1.1 (V.1 0) 3 ||| z) x := ⟨_, rfl⟩
        obtain ⟨t, ht⟩ : ∃ t, t = F_X11_damsAll m0 z ρ := ⟨_, rfl⟩
        rw [← hy] at a1 a2 ⊢
        rw [← ht] at a1 a3 ⊢
        have MF := cMouthF (q := q) (x0 := x0) (t1 := y) (td := td) (by rw [a2.rf, xr 2, q0]; exact xrv hV) (by rw [a2.rf, xr 10]; exact g10) (by rw [a2.rf]; exact g63) (by rw [a2.2 td 0 (ntd 0), n0]; omega)
        have t55 : (t.2.2 m0 55).getD 0 = Y 55 := by rw [show t.2.2 = σ2.2.2 by rw [a3.1], hY]
        have RUN : (dAns r (if v.toInt < (y.1 (q 6) 0).toInt then F_X10_fewestDams_33 f x0 v (n + 1) (z + (1 : Int32)) b y else F_X10_fewestDams_33 f x0 v (n + 1) (z + (1 : Int32)) z y).1).toInt = (if v.toInt < (t.1 (Y 55) 0).toInt then F_X11_dams_40 dm m0 v r n' (z + (2 : Int32)) b t else F_X11_dams_40 dm m0 v r n' (z + (2 : Int32)) z t).1.toInt := by
          rw [a1 0 hN]
          by_cases k : v.toInt < (t.1 (Y 55) 0).toInt
          · rw [if_pos k, if_pos k]
            exact go b y t a2 a3 hb
          · rw [if_neg k, if_neg k]
            exact go z y t a2 a3 okz
        simp only [t55, w0, MF, ↓zlt2]
        by_cases G : (F_X10_isAhead z b).toInt = 0
        · rw [if_pos G]
          have G' := AH.mp G
          rw [if_neg (show ¬ b.toInt < 0 from fun k => G' (Or.inl k))]
          have bb : okS b := hb
          rcases bb with bb | ⟨b1, b2, b3⟩
          · exact absurd (Or.inl (by omega)) G'
          · have cb : (F_X11_bits b).toInt = cnt (fun j => bt b j = true) 12 := bitM
            simp only [cb]
            by_cases k : ((cnt (fun j => bt b j = true) 12 : Nat) : Int) < (cnt (fun j => bt z j = true) 12 : Nat)
            · rw [if_pos k]
              exact go b x ρ fx R hb
            · rw [if_neg k]
              have ec : cnt (fun j => bt z j = true) 12 = cnt (fun j => bt b j = true) 12 := by
                apply Classical.byContradiction
                intro w
                exact G' (Or.inr (Or.inl (by omega)))
              rw [if_pos (show ((cnt (fun j => bt z j = true) 12 : Nat) : Int) = (cnt (fun j => bt b j = true) 12 : Nat) by omega)]
              have er : (F_X11_isEarlier z b).toInt = 0 := by
                apply Classical.byContradiction
                intro w
                exact G' (Or.inr (Or.inr ⟨ec, w⟩))
              rw [if_pos er]
              exact go b x ρ fx R hb
        · rw [if_neg G]
          have G' : b.toInt < 0 ∨ cnt (fun j => bt z j = true) 12 < cnt (fun j => bt b j = true) 12 ∨ (cnt (fun j => bt z j = true) 12 = cnt (fun j => bt b j = true) 12 ∧ ¬ (F_X11_isEarlier z b).toInt = 0) := by
            apply Classical.byContradiction
            intro w
            exact G (AH.mpr w)
          by_cases k : b.toInt < 0
          · rw [if_pos k]
            exact RUN
          · rw [if_neg k]
            have cb : (F_X11_bits b).toInt = cnt (fun j => bt b j = true) 12 := bitM
            simp only [cb]
            rcases G' with G' | G' | ⟨G1, G2⟩
            · exact absurd G' k
            · rw [if_neg (show ¬ ((cnt (fun j => bt b j = true) 12 : Nat) : Int) < (cnt (fun j => bt z j = true) 12 : Nat) by omega), if_neg (show ¬ ((cnt (fun j => bt z j = true) 12 : Nat) : Int) = (cnt (fun j => bt b j = true) 12 : Nat) by omega)]
              exact RUN
            · rw [if_neg (show ¬ ((cnt (fun j => bt b j = true) 12 : Nat) : Int) < (cnt (fun j => bt z j = true) 12 : Nat) by omega), if_pos (show ((cnt (fun j => bt z j = true) 12 : Nat) : Int) = (cnt (fun j => bt b j = true) 12 : Nat) by omega), if_neg G2]
              exact RUN
    · rw [if_neg S]
      by_cases C : (3 : Int) < (cnt (fun j => bt z j = true) 12 : Nat)
      · rw [if_pos C]
        exact go b x ρ fx R hb
      · rw [if_neg C, if_neg (fun w => S (T.mp w))]
        exact go b x ρ fx R hb
/-- what is dammed, as bits of the reference -/
theorem zRL.dmB (h : zRL zQw L1 kd1 x0 m0 V ps pc sl rv sh cd σ1 σ2) (n2 : zM m0 σ2 = N) (hN12 : N ≤ 12) : ∀ j, j < 32 → (bt (F_X11_dammedBits m0 σ2) j = true ↔ 1 ≤ j ∧ j < N ∧ bt (σ1.1 (V.1 0) 3) j = true) := by
  have e12 : (12 : Int32).toInt = 12 := by decide
  have mN : (F_X11_many m0 σ2).toInt = N := by rw [mMany]; exact n2
  have rg : ∀ j, (σ2.2.2 m0 j).getD 0 = mR σ2 m0 j := fun _ => rfl
  have key : ∀ (n : Nat) (x y : Int32) (i : Nat), x.toInt = i → 1 ≤ i → 13 - i < n → (∀ j, j < 32 → (bt y j = true ↔ 1 ≤ j ∧ j < i ∧ j < N ∧ bt (σ1.1 (V.1 0) 3) j = true)) → ∀ j, j < 32 → (bt (F_X11_dammedBits_4 m0 σ2 n x y) j = true ↔ 1 ≤ j ∧ j < N ∧ bt (σ1.1 (V.1 0) 3) j = true) := by
    intro n
    induction n with
    | zero => intro x y i _ _ h; exact absurd h (by omega)
    | succ n ih =>
      intro x y i hx hi hn hy j hj
      rw [F_X11_dammedBits_4]
      simp only [↓zlt, rg]
      by_cases d : i < N
      · rw [if_pos (by omega), ixN (m := 12) (p := x) (M := 12) (P := i) e12 (by decide) hx (by omega)]
        have x1 := zp1 hx (by omega)
        refine ih _ _ (i + 1) x1 (by omega) (by omega) (fun k hk => ?_) j hj
        have a := hy k hk
        rw [b_or, Bool.or_eq_true, zNi hx (by omega)]
        rcases h.damN hi (by omega) with ⟨b1, b2⟩ | ⟨b1, b2⟩
        · rw [b2, bt_1 (by omega) hk, decide_eq_true_eq]
          by_cases c : k = i
          · rw [c] at a ⊢
            exact ⟨fun _ => ⟨hi, by omega, d, b1⟩, fun _ => Or.inr rfl⟩
          · constructor
            · rintro (w | w)
              · obtain ⟨w1, w2, w3, w4⟩ := a.mp w
                exact ⟨w1, by omega, w3, w4⟩
              · exact absurd w c
            · rintro ⟨w1, w2, w3, w4⟩
              exact Or.inl (a.mpr ⟨w1, by omega, w3, w4⟩)
        · have z : bt ((0 : Int32) <<< (nI i &&& 31)) k = false := by
            rw [b_shl i (by omega) 0 hk, b_0, Bool.and_false]
          rw [b2, z]
          constructor
          · rintro (w | w)
            · obtain ⟨w1, w2, w3, w4⟩ := a.mp w
              exact ⟨w1, by omega, w3, w4⟩
            · exact absurd w (by decide)
          · rintro ⟨w1, w2, w3, w4⟩
            have : k ≠ i := fun e => by
              rw [e, b1] at w4
              exact absurd w4 (by decide)
            exact Or.inl (a.mpr ⟨w1, by omega, w3, w4⟩)
      · rw [if_neg (by omega)]
        have a := hy j hj
        exact ⟨fun w => by
          obtain ⟨w1, w2, w3, w4⟩ := a.mp w
          exact ⟨w1, w3, w4⟩, fun ⟨w1, w2, w3⟩ => a.mpr ⟨w1, by omega, w2, w3⟩⟩
  unfold F_X11_dammedBits
  simp only [zlt]
  refine key 10000 1 0 1 (by decide) (by omega) (by omega) (fun j hj => ?_)
  rw [b_0]
  exact ⟨fun w => absurd w (by decide), fun w => absurd w.2.1 (by omega)⟩
theorem zRL.dams (h : zRL zQw L1 kd1 x0 m0 V ps pc sl rv sh cd σ1 σ2) (hw : 0 < zM m0 σ2 → zLw x0 m0 σ1 σ2) (hl : zLen x0 m0 σ1 σ2) (hx : zT L1 kd1 x0 10) (hI : zI κ 0 L1 kd1 σ1) (hJ : zJ κ L2 kd2 σ2) (hm : zT L2 kd2 m0 11) (hg : gN m0 σ2) (f1 : (v1, τ1) = F_X10_dams x0 v r σ1) (f2 : (v2, τ2) = F_X11_dams m0 v r σ2) : v1.toInt = v2.toInt := by
  obtain ⟨td, B, N, gl, u, l, q, Y, d1, n2, eL, xr, ⟨hq, hY⟩, ⟨S, Dn, FL, RN⟩, -, -⟩ := h.now hw hl hx hI hJ hm hg
  have hL := h.1
  have hV := h.2.1
  have q3 : q 3 = td := by rw [hq]; rfl
  have q4 : q 4 = V.1 0 := by rw [hq]; rfl
  have g10 : (σ1.2.2 x0 10).getD 0 = td := by rw [d1]; rfl
  have g6 : (σ1.2.2 x0 6).getD 0 = V.1 0 := by rw [hL.1.1]; rfl
  obtain ⟨td9, d9, t9⟩ := zi_ref (j := 10) (k2 := 9) hI hx (by rfl)
  obtain rfl : td9 = td := Option.some.inj (d9.symm.trans d1)
  obtain ⟨N', -, -, ⟨n3, n4, n5, -⟩, -⟩ := h.2.2
  rw [g10] at n3
  obtain rfl : N' = N := by omega
  have e0 : (0 : Int32).toInt = 0 := by decide
  have m1 : (-1 : Int32).toInt = -1 := by decide
  have o2 : (2 : Int32).toInt = 2 := by decide
  have o9 : (9999 : Int32).toInt = 9999 := by decide
  have hM : F_X10_hasMouth x0 σ1 = (if 0 < (σ1.1 td9 0).toInt then 1 else 0, σ1) := by
    unfold F_X10_hasMouth
    simp only [zlt, g10]
    split <;> rfl
  unfold F_X10_dams at f1
  unfold F_X11_dams at f2
  simp only [zlt, zlt2, hM, cWithin, mIn, e0, m1, o2, o9, mMany, n2] at f1 f2
  by_cases hN : 0 < N'
  · rw [if_pos (show 0 < (σ1.1 td9 0).toInt by omega), if_neg (by decide)] at f1
    by_cases A : 0 ≤ v.toInt ∧ v.toInt ≤ 9999
    · rw [if_neg (fun z => z A)] at f1 f2
      by_cases C : -1 ≤ r.toInt ∧ r.toInt ≤ 2
      · rw [if_neg (fun z => z C)] at f1 f2
        rw [if_neg (show ¬ (N' : Int) = 0 by omega)] at f2
        have n0 : ((F_X10_look x0 σ1).1 td9 0).toInt = N' := by
          rw [h.lookE hl hx hI hJ hm hg td9 9 t9 (by omega)]
          omega
        have hQ := S.1.1
        have n6 : ∀ {i j : Nat}, i < 6 → ¬ zQ6 q (q i) j := fun hi => by
          rintro (z | z | z | z)
          · exact hQ.n (by omega) (by decide) (by omega) z
          · exact hQ.n (by omega) (by decide) (by omega) z
          · exact hQ.n (by omega) (by decide) (by omega) z
          · exact hQ.n (by omega) (by decide) (by omega) z
        have g63 : ((F_X10_look x0 σ1).2.2 (q 0) 3).getD 0 = q 6 := S.1.1.1.1.2.2.2.2.2.1
        have lD := h.lookD
        obtain ⟨s, hs⟩ : ∃ s, s = F_X10_look x0 σ1 := ⟨_, rfl⟩
        have iN : s.1 td9 0 = nI N' := by rw [hs]; exact zNi n0 (by omega)
        obtain ⟨f, hf⟩ : ∃ f : Int32, f = ((1 : Int32) <<< (nI N' &&& 31) - 1) &&& ((σ1.1 (V.1 0) 3 ||| 1) ^^^ (-1 : Int32)) := ⟨_, rfl⟩
        have fB : ∀ j, j < 32 → (bt f j = true ↔ 1 ≤ j ∧ j < N' ∧ ¬ bt (σ1.1 (V.1 0) 3) j = true) := fun j hj => by
          rw [hf, b_and, b_xor, b_or, b_one j hj, b_m1 j hj, mskN N' n5 j hj]
          by_cases z : j = 0
          · rw [decide_eq_true z]
            constructor
            · intro w
              revert w
              cases bt (σ1.1 (V.1 0) 3) j <;> simp
            · intro w
              omega
          · rw [decide_eq_false z]
            by_cases y : j < N'
            · rw [decide_eq_true y]
              constructor
              · intro w
                refine ⟨by omega, y, fun k => ?_⟩
                rw [k] at w
                exact absurd w (by decide)
              · rintro ⟨-, -, w⟩
                rw [show bt (σ1.1 (V.1 0) 3) j = false by simpa using w]
                rfl
            · rw [decide_eq_false y]
              exact ⟨fun w => absurd (show (false : Bool) = true from w) (by decide), fun w => absurd w.2.1 y⟩
        obtain ⟨H, hH⟩ : ∃ H, 2 ^ N' = 2 * H := ⟨2 ^ (N' - 1), by
          obtain ⟨k, rfl⟩ : ∃ k, N' = k + 1 := ⟨N' - 1, by omega⟩
          rw [Nat.pow_succ, Nat.add_sub_cancel]
          omega⟩
        obtain ⟨fn, fn1, fn2, -, fn4⟩ := i12 (x := f) (fun j j1 j2 => by
          cases w : bt f j with
          | false => rfl
          | true => exact absurd ((fB j j2).mp w).2.1 (by omega))
        have flt : fn < 2 ^ N' := Nat.lt_pow_two_of_testBit _ (fun j hj => by
          by_cases c : j < 32
          · rw [fn4 j c]
            cases w : bt f j with
            | false => rfl
            | true => exact absurd ((fB j c).mp w).2.1 (by omega)
          · exact Nat.testBit_lt_two_pow (Nat.lt_of_lt_of_le fn1 (by
              have := Nat.pow_le_pow_right (n := 2) (by decide) (show 12 ≤ j by omega)
              omega)))
        have eB : F_X10_bit (s.1 td9 0) = (1 : Int32) <<< (nI N' &&& 31) := by
          unfold F_X10_bit
          simp only [zlt]
          rw [iN]
        have eB0 : F_X10_bit 0 = 1 := by
          unfold F_X10_bit
          simp only [zlt]
          decide
        have sr : ∀ j, s.2.2 x0 j = σ1.2.2 x0 j := fun j => by rw [hs]; exact xr j
        have sD : s.1 (V.1 0) 3 = σ1.1 (V.1 0) 3 := by rw [hs]; exact lD
        have eF : F_X10_fewestDams x0 v s = F_X10_fewestDams_33 f x0 v 4294967299 0 (-1) s := by
          unfold F_X10_fewestDams
          simp only [zlt, sr, g10, eB, eB0, g6, sD]
          rw [← hf]
        rw [← hs, eF] at f1
        have flt' : f.toInt < ((2 ^ N' : Nat) : Int) := by
          rw [fn2]
          exact Int.ofNat_lt.mpr flt
        have R := h.damsL (r := r) (v := v) hw hl hx hI hJ hm hg d1 n2 hN n5 hq hY eL xr g63 n0 (fun j => by rw [← q3]; exact n6 (by decide)) (fun j => by rw [← q4]; exact n6 (by decide)) hH (by omega) flt' fB (h.dmB n2 n5) H 4294967299 10000 0 (-1) 0 s σ2 (by decide) (by omega) (by
          have := Nat.pow_le_pow_right (n := 2) (by decide) n5
          omega) (by
          have := Nat.pow_le_pow_right (n := 2) (by decide) n5
          omega) (by rw [hs]; exact zFr.id) ⟨rfl, zFr.id⟩ (Or.inl m1)
        rw [show v2 = _ from congrArg Prod.fst f2, ← R]
        obtain ⟨p, hp⟩ : ∃ p, p = F_X10_fewestDams_33 f x0 v 4294967299 0 (-1) s := ⟨_, rfl⟩
        rw [← hp] at f1 ⊢
        unfold dAns
        by_cases c : p.1.toInt = -1
        · rw [if_pos c] at f1 ⊢
          rw [(zPr2 f1).1]
        · rw [if_neg c] at f1 ⊢
          by_cases e : r.toInt = -1
          · rw [if_pos e] at f1 ⊢
            rw [(zPr2 f1).1]
          · rw [if_neg e] at f1 ⊢
            rw [(zPr2 f1).1]
      · rw [if_pos C] at f1 f2
        rw [(zPr2 f1).1, (zPr2 f2).1]
    · rw [if_pos A] at f1 f2
      rw [(zPr2 f1).1, (zPr2 f2).1]
  · rw [if_neg (show ¬ 0 < (σ1.1 td9 0).toInt by omega), if_pos (by decide)] at f1
    rw [(zPr2 f1).1]
    by_cases A : 0 ≤ v.toInt ∧ v.toInt ≤ 9999
    · rw [if_neg (fun z => z A)] at f2
      by_cases C : -1 ≤ r.toInt ∧ r.toInt ≤ 2
      · rw [if_neg (fun z => z C), if_pos (show (N' : Int) = 0 by omega)] at f2
        rw [(zPr2 f2).1]
      · rw [if_pos C] at f2
        rw [(zPr2 f2).1]
    · rw [if_pos A] at f2
      rw [(zPr2 f2).1]
theorem zRP.dams (h : zRP κ L1 kd1 L2 kd2 x0 m0 σ1 σ2) (hI : zI κ 0 L1 kd1 σ1) (hJ : zJ κ L2 kd2 σ2) (hx : zT L1 kd1 x0 10) (hm : zT L2 kd2 m0 11) (hg : gN m0 σ2) (f1 : (v1, τ1) = F_X10_dams x0 v r σ1) (f2 : (v2, τ2) = F_X11_dams m0 v r σ2) : v1.toInt = v2.toInt := by
  obtain ⟨V, ps, pc, sl, rv, sh, cd, hR⟩ := h.2.2
  exact hR.dams h.2.1 h.1.2 hx hI hJ hm hg f1 f2
end DAMS2
