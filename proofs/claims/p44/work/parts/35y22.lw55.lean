/-! ANSWERS OF NOW: basin -/
section BASIN
variable {κ : Int} {L1 : List Nat} {kd1 : Nat → Nat} {L2 : List Nat} {kd2 : Nat → Nat} {σ1 σ2 τ1 τ2 s t : zS} {m0 x0 : Nat} {V : zWh} {ps pc sl rv sh cd : Nat} {v1 v2 p k x : Int32} {q Y : Nat → Nat} {B N : Nat} {gl : zGl} {u l : Nat → Nat}
/-- who comes by, bit by bit alike -/
theorem zRL.comeE (h : zRL zQw L1 kd1 x0 m0 V ps pc sl rv sh cd σ1 σ2) (hl : zLen x0 m0 σ1 σ2) (hx : zT L1 kd1 x0 10) (hI : zI κ 0 L1 kd1 σ1) (hJ : zJ κ L2 kd2 σ2) (hm : zT L2 kd2 m0 11) (hg : gN m0 σ2) {P : Nat} (hp : x.toInt = P) (hP : (P : Int) < zM m0 σ2) : F_X6_comingBy sh x (F_X10_look x0 σ1) = ((F_X11_copies m0 σ2).1 (mR σ2 m0 54) P, F_X10_look x0 σ1) := by
  obtain ⟨N, M, u, FR, SR, ℓ, l, A1, A2, A3, A4, A6, s, t, hs, ht, ⟨⟨n1, n2, n3, n4⟩, -, hb, -, hM⟩, ⟨g0, g1, g2, g3, g4, g6⟩, hS, hMN⟩ := h.lk2 zGd.q1 hl hx hI hJ hm hg
  obtain ⟨K, e1, e2⟩ := cCmg (xq := x) (q := P) hS g6 n1 hp (by omega) 10000 0 0 0 (by decide) (by omega) (by omega) (fun j hj => by
    rw [b_0]
    exact ⟨fun z => (by cases z), fun z => absurd z.2 (by omega)⟩)
  have eK : t.1 (mR σ2 m0 54) P = K := b_ext (fun j hj => by
    have a := e2 j hj
    have b := hM.2.1 P j (by omega) hj
    cases h1 : bt (t.1 (mR σ2 m0 54) P) j with
    | true =>
      rw [h1] at b
      exact (a.mpr (b.mp rfl)).symm
    | false =>
      cases h2 : bt K j with
      | false => rfl
      | true =>
        rw [h1] at b
        have := b.mpr (a.mp h2)
        cases this)
  rw [← hs, ← ht, eK]
  unfold F_X6_comingBy
  simp only [zlt]
  exact e1
theorem basinL (S : zSd q Y m0 B N gl u l s t) (Dn : zDn q Y N s t) (RN : ∀ p, p < N → s.1 (q 5) p = rCl q s gl 0 p) {K : Int32} {P : Nat} (hp : p.toInt = P) (hK : t.1 (Y 54) P = K) : ∀ (n n' : Nat) (y z : Int32) (i : Nat) (τ : zS), y.toInt = i → 13 - i < n → 13 - i < n' → zFr (zVw Y m0) t τ → (F_X5_rainsOf_4 (q 0) K n y z s).1 = (F_X11_basin_39 m0 p k n' y z τ).1 := by
  have E := S.eq Dn
  have hN := S.1.2.2.2.1
  have M := S.2.1.2.2.2.2.1
  have g54 := (S.2.1.1.1 54 (by unfold zYj; omega)).1
  have g1 : (s.2.2 (q 0) 0).getD 0 = q 1 := S.1.1.1.1.1
  have g5 : (s.2.2 (q 0) 2).getD 0 = q 5 := S.1.1.1.1.2.2.2.2.1
  have h0 := S.1.2.2.1
  have o1 : (1 : Int32).toInt = 1 := by decide
  have nP : p.toNatClampNeg = P := by rw [ztn, hp]; rfl
  intro n
  induction n with
  | zero => intro n' y z i τ _ h; exact absurd h (by omega)
  | succ n ih =>
    intro n' y z i τ hy hn hn' f
    obtain ⟨n', rfl⟩ : ∃ k, n' = k + 1 := ⟨n' - 1, by omega⟩
    have ny : y.toNatClampNeg = i := by rw [ztn, hy]; rfl
    have r54 : τ.1 (Y 54) = t.1 (Y 54) := zVw.r S.2.1.1 f (by unfold zYj; omega) (by decide)
    rw [F_X5_rainsOf_4, F_X11_basin_39]
    simp only [↓zlt, ↓zlt2, g1, g5, f.rf, g54, mMany_w S.2.1.1 f, r54, nP, hK, o1, ny]
    by_cases c : i < N
    · rw [if_pos (show y.toInt < (s.1 (q 1) 0).toInt by omega), if_pos (show y.toInt < (F_X11_many m0 t).toInt by omega)]
      have y1 := zp1 hy (by omega)
      have cut := bt_cut (x := K) hy (by omega)
      have hs := cHas (x := K) hy (by omega)
      by_cases d : bt K i = true
      · rw [if_pos d] at hs
        rw [if_neg (show ¬ (F_X10_has K y).toInt = 0 by omega), if_pos (cut.2.mpr d)]
        obtain ⟨τ', e1, e2⟩ := mRainW S.2.1.1 S.2.1.2.1 S.2.1.2.2.1 (S.2.1.2.2.2.1 (by omega)) f hy (by omega)
        rw [e1]
        have er : s.1 (q 5) i = F_X11_within (vMl Y B t gl 0 i 0) 0 999 := by
          rw [RN i c, rEq E c]
          unfold rMl
          rw [Int32.add_zero]
        rw [er]
        exact ih n' _ _ (i + 1) τ' y1 (by omega) (by omega) (f.tr (zUw.up e2))
      · rw [if_neg d] at hs
        rw [if_pos hs, if_neg (fun z => d (cut.2.mp z))]
        exact ih n' _ _ (i + 1) τ y1 (by omega) (by omega) f
    · rw [if_neg (show ¬ y.toInt < (s.1 (q 1) 0).toInt by omega), if_neg (show ¬ y.toInt < (F_X11_many m0 t).toInt by omega)]
theorem zRL.basin (h : zRL zQw L1 kd1 x0 m0 V ps pc sl rv sh cd σ1 σ2) (hw : 0 < zM m0 σ2 → zLw x0 m0 σ1 σ2) (hl : zLen x0 m0 σ1 σ2) (hx : zT L1 kd1 x0 10) (hI : zI κ 0 L1 kd1 σ1) (hJ : zJ κ L2 kd2 σ2) (hm : zT L2 kd2 m0 11) (hg : gN m0 σ2) (f1 : (v1, τ1) = F_X10_basin x0 p k σ1) (f2 : (v2, τ2) = F_X11_basin m0 p k σ2) : v1.toInt = v2.toInt := by
  obtain ⟨td, B, N, gl, u, l, q, Y, d1, n2, eL, xr, ⟨hq, hY⟩, ⟨S, Dn, FL, RN⟩, -, -⟩ := h.now hw hl hx hI hJ hm hg
  have e0 : (0 : Int32).toInt = 0 := by decide
  have o1 : (1 : Int32).toInt = 1 := by decide
  have hV := h.2.1
  have g3 : (σ1.2.2 x0 3).getD 0 = sh := by rw [hV.1.2.1]; rfl
  have q0 : q 0 = rv := by rw [hq]; rfl
  obtain ⟨N', -, -, ⟨n3, n4, n5, -⟩, -⟩ := h.2.2
  have xN : (σ1.1 ((σ1.2.2 x0 10).getD 0) 0 - (1 : Int32)).toInt = (N' : Int) - 1 := by rw [zb_sub (by rw [o1]; omega) (by rw [o1]; omega), o1, n3]
  have xM : (F_X11_many m0 σ2 - (1 : Int32)).toInt = (N' : Int) - 1 := by
    have : (F_X11_many m0 σ2).toInt = N' := by rw [mMany]; exact n4
    rw [zb_sub (by rw [o1]; omega) (by rw [o1]; omega), o1, this]
  unfold F_X10_basin at f1
  unfold F_X11_basin at f2
  simp only [zlt, zlt2, cPlace, mPlc, cWithin, mIn, e0, o1, xN, xM, xr, g3] at f1 f2
  have CE0 := fun (P : Nat) (hp : p.toInt = P) (hP : (P : Int) < zM m0 σ2) => h.comeE hl hx hI hJ hm hg hp hP
  obtain ⟨s, hs⟩ : ∃ s, s = F_X10_look x0 σ1 := ⟨_, rfl⟩
  obtain ⟨t, ht⟩ : ∃ t, t = F_X11_copies m0 σ2 := ⟨_, rfl⟩
  rw [← hs] at S Dn FL RN f1 xr
  rw [← ht] at S Dn FL f2
  rw [← hs, ← ht] at CE0
  clear eL hs ht
  by_cases c : 0 ≤ p.toInt ∧ p.toInt ≤ (N' : Int) - 1
  · rw [if_neg (fun z => z c)] at f1 f2
    obtain ⟨P, hp⟩ : ∃ P : Nat, p.toInt = P := ⟨p.toInt.toNat, by omega⟩
    have nP : p.toNatClampNeg = P := by rw [ztn, hp]; rfl
    have CE := CE0 P hp (by omega)
    by_cases d : 0 ≤ k.toInt ∧ k.toInt ≤ 1
    · rw [if_neg (fun z => z d)] at f1 f2
      rw [← hY] at CE
      simp only [CE, xr, xrv hV] at f1
      have g54 : (t.2.2 m0 54).getD 0 = Y 54 := (S.2.1.1.1 54 (by unfold zYj; omega)).1
      by_cases z : k.toInt = 0
      · rw [if_pos z] at f1 f2
        rw [(zPr2 f1).1, (zPr2 f2).1, g54, nP]
      · rw [if_neg z] at f1 f2
        have L := basinL (k := k) S Dn RN hp rfl 10000 10000 0 0 0 t (by decide) (by omega) (by omega) zFr.id
        have eR : (F_X5_rainsOf (q 0) (t.1 (Y 54) P) s).1 = (F_X5_rainsOf_4 (q 0) (t.1 (Y 54) P) 10000 0 0 s).1 := by
          unfold F_X5_rainsOf
          simp only [zlt]
        rw [q0] at eR L
        rw [show v1 = _ from congrArg Prod.fst f1, show v2 = _ from congrArg Prod.fst f2]
        exact congrArg Int32.toInt (eR.trans L)
    · rw [if_pos d] at f1 f2
      rw [(zPr2 f1).1, (zPr2 f2).1]
  · rw [if_pos c] at f1 f2
    rw [(zPr2 f1).1, (zPr2 f2).1]
theorem zRP.basin (h : zRP κ L1 kd1 L2 kd2 x0 m0 σ1 σ2) (hI : zI κ 0 L1 kd1 σ1) (hJ : zJ κ L2 kd2 σ2) (hx : zT L1 kd1 x0 10) (hm : zT L2 kd2 m0 11) (hg : gN m0 σ2) (f1 : (v1, τ1) = F_X10_basin x0 p k σ1) (f2 : (v2, τ2) = F_X11_basin m0 p k σ2) : v1.toInt = v2.toInt := by
  obtain ⟨V, ps, pc, sl, rv, sh, cd, hR⟩ := h.2.2
  exact hR.basin h.2.1 h.1.2 hx hI hJ hm hg f1 f2
end BASIN
