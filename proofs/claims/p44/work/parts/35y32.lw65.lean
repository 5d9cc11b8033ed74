/-! WHO HAS MOST MONEY: richest -/
section RICH
variable {κ : Int} {L1 : List Nat} {kd1 : Nat → Nat} {L2 : List Nat} {kd2 : Nat → Nat} {σ1 σ2 τ1 τ2 : zS} {m0 x0 : Nat} {V : zWh} {ps pc sl rv sh cd : Nat} {v1 v2 p : Int32}
theorem zRL.richest (h : zRL zQx L1 kd1 x0 m0 V ps pc sl rv sh cd σ1 σ2) (f1 : (v1, τ1) = F_X10_richest x0 p σ1) (f2 : v2 = F_X11_richest m0 p σ2) : v1.toInt = v2.toInt := by
  have hL := h.1
  obtain ⟨-, -, N, n, uu, ⟨a1, a2, a3, -⟩, ⟨hq, hm0', -⟩, -⟩ := id h
  obtain ⟨td, htd⟩ : ∃ td, (σ1.2.2 x0 10).getD 0 = td := ⟨_, rfl⟩
  rw [htd] at a1
  have e0 : (0 : Int32).toInt = 0 := by decide
  have e1 : (1 : Int32).toInt = 1 := by decide
  have e36 : (36 : Int32).toInt = 36 := by decide
  have em2 : (-2 : Int32).toInt = -2 := by decide
  have g6 : (σ1.2.2 x0 6).getD 0 = V.1 0 := by rw [hL.1.1]; rfl
  have gM : (σ1.2.2 (V.1 0) 2).getD 0 = V.2.2.2 0 := (hL.gA (k := 0) (by decide)).2.2
  have gR : (σ2.2.2 m0 48).getD 0 = mR σ2 m0 48 := rfl
  obtain ⟨M, hM⟩ : ∃ M, M = σ1.1 (V.2.2.2 0) := ⟨_, rfl⟩
  obtain ⟨R, hR⟩ : ∃ R, R = σ2.1 (mR σ2 m0 48) := ⟨_, rfl⟩
  have mN : (F_X11_many m0 σ2).toInt = N := by rw [mMany]; exact a2
  have E : ∀ j, j < N → M j = R (36 + j) := fun j hj => by
    have y := (hq.2.1 j hj).2.1
    rw [rC_i (by omega), Nat.zero_add] at y
    have z : (zcc V σ1.1 0).2.2.1 j = σ1.1 (V.2.2.2 0) j := if_pos (by omega)
    rw [z] at y
    rw [hM, hR]
    exact y
  have M0 : (M 0).toInt = 0 := by
    have z : (zcc V σ1.1 0).2.2.1 0 = σ1.1 (V.2.2.2 0) 0 := rfl
    rw [z] at hm0'
    rw [hM, hm0']
    exact e0
  have key : ∀ (n : Nat) (x b c : Int32) (i j : Nat), x.toInt = i → 1 ≤ i → 13 - i < n → b.toInt = j → ((c.toInt = -2 ∧ j = 0) ∨ (c.toInt = j ∧ 1 ≤ j ∧ j < N ∧ 0 < (M j).toInt)) → (F_X10_richest_15 x0 p n x b σ1).1.toInt = (F_X11_richest_16 m0 p σ2 n x c).toInt := by
    intro n
    induction n with
    | zero => intro x b c i j _ _ h; exact absurd h (by omega)
    | succ n ih =>
      intro x b c i j hx hi hn hb hc
      have nx : x.toNatClampNeg = i := by rw [ztn, hx]; rfl
      have nb : b.toNatClampNeg = j := by rw [ztn, hb]; rfl
      rw [F_X10_richest_15, F_X11_richest_16]
      simp only [↓zlt, htd, g6, gM, gR, ← hM, ← hR, nx, nb, e0]
      by_cases d : i < N
      · rw [if_pos (show x.toInt < (σ1.1 td 0).toInt by omega), if_pos (show x.toInt < (F_X11_many m0 σ2).toInt by omega), ixN (m := 36) (p := x) (M := 36) (P := i) e36 (by decide) hx (by omega), ← E i d]
        have y1 := zp1 hx (by omega)
        rcases hc with ⟨c1, c2⟩ | ⟨c1, c2, c3, c4⟩
        · rw [if_pos (show c.toInt < 0 by omega), c2]
          by_cases k : 0 < (M i).toInt
          · rw [if_pos (show (M 0).toInt < (M i).toInt by omega), if_pos k]
            exact ih _ x x (i + 1) i y1 (by omega) (by omega) hx (Or.inr ⟨hx, hi, d, k⟩)
          · rw [if_neg (show ¬ (M 0).toInt < (M i).toInt by omega), if_neg k]
            exact ih _ b c (i + 1) j y1 (by omega) (by omega) hb (Or.inl ⟨c1, c2⟩)
        · rw [if_neg (show ¬ c.toInt < 0 by omega), ixN (m := 36) (p := c) (M := 36) (P := j) e36 (by decide) c1 (by omega), ← E j c3]
          by_cases k : (M j).toInt < (M i).toInt
          · rw [if_pos k, if_pos k]
            exact ih _ x x (i + 1) i y1 (by omega) (by omega) hx (Or.inr ⟨hx, hi, d, by omega⟩)
          · rw [if_neg k, if_neg k]
            exact ih _ b c (i + 1) j y1 (by omega) (by omega) hb (Or.inr ⟨c1, c2, c3, c4⟩)
      · rw [if_neg (show ¬ x.toInt < (σ1.1 td 0).toInt by omega), if_neg (show ¬ x.toInt < (F_X11_many m0 σ2).toInt by omega)]
        rcases hc with ⟨c1, c2⟩ | ⟨c1, c2, c3, c4⟩
        · rw [c2, if_pos M0, if_pos (show c.toInt < 0 by omega), c1]
          exact em2
        · rw [if_neg (show ¬ (M j).toInt = 0 by omega), if_neg (show ¬ c.toInt < 0 by omega)]
          by_cases k : p.toInt = 0
          · rw [if_pos k, if_pos k, c1]
            exact hb
          · rw [if_neg k, if_neg k, ixN (m := 36) (p := c) (M := 36) (P := j) e36 (by decide) c1 (by omega), ← E j c3]
  unfold F_X10_richest at f1
  unfold F_X11_richest at f2
  simp only [zlt, cWithin, mIn, e0, e1] at f1 f2
  by_cases A : 0 ≤ p.toInt ∧ p.toInt ≤ 1
  · rw [if_neg (fun z => z A)] at f1 f2
    rw [show v1 = _ from congrArg Prod.fst f1, f2]
    exact key 10000 1 0 (-2) 1 0 (by decide) (by omega) (by omega) (by decide) (Or.inl ⟨em2, rfl⟩)
  · rw [if_pos A] at f1 f2
    rw [(zPr2 f1).1, f2]
theorem zRQ.richest (h : zRQ κ L1 kd1 L2 kd2 x0 m0 σ1 σ2) (f1 : (v1, τ1) = F_X10_richest x0 p σ1) (f2 : v2 = F_X11_richest m0 p σ2) : v1.toInt = v2.toInt := by
  obtain ⟨V, ps, pc, sl, rv, sh, cd, hR⟩ := h.2.2.2
  exact hR.richest f1 f2
end RICH
