/-! tellings: how tokens, codes and faults go together (e: 1 from the first fault on) -/
section ZFE
variable {a0 : Nat} {σ σ2 : zS} {e : Int}
theorem zfe_must (h1 : e ≤ 1) (h2 : e ≤ (σ.1 a0 13).toInt) (h : (0 < (σ2.1 a0 13).toInt ∧ (σ.1 a0 11).toInt ≤ (σ2.1 a0 11).toInt ∧ (σ2.1 a0 11).toInt ≤ (σ.1 a0 11).toInt + 1) ∨ ((σ.1 a0 13).toInt = 0 ∧ (σ2.1 a0 13).toInt = 0 ∧ (σ2.1 a0 11).toInt = (σ.1 a0 11).toInt + 1)) : ∃ e' : Int, e ≤ e' ∧ 0 ≤ e' ∧ e' ≤ 1 ∧ e' ≤ (σ2.1 a0 13).toInt ∧ (σ2.1 a0 13).toInt ≤ 2147483647 * e' ∧ (σ.1 a0 11).toInt ≤ (σ2.1 a0 11).toInt ∧ (σ2.1 a0 11).toInt ≤ (σ.1 a0 11).toInt + 1 ∧ (σ.1 a0 11).toInt + 1 ≤ (σ2.1 a0 11).toInt + e' := by
  have zb := zb_rng (σ2.1 a0 13)
  rcases h with ⟨q1, q2, q3⟩ | ⟨q1, q2, q3⟩
  · exact ⟨1, h1, by omega, by omega, by omega, by omega, by omega, by omega, by omega⟩
  · exact ⟨0, by omega, by omega, by omega, by omega, by omega, by omega, by omega, by omega⟩
theorem zfe_go (h1 : e ≤ 1) (h0 : 0 ≤ e) (h2 : e ≤ (σ.1 a0 13).toInt) (hB : (σ.1 a0 13).toInt ≤ 2147483647 * e) (h : ((σ.1 a0 11).toInt = 400 ∧ 0 < (σ2.1 a0 13).toInt ∧ (σ2.1 a0 11).toInt = (σ.1 a0 11).toInt) ∨ ((σ.1 a0 11).toInt < 400 ∧ (σ2.1 a0 11).toInt = (σ.1 a0 11).toInt + 1 ∧ (σ2.1 a0 13).toInt = (σ.1 a0 13).toInt)) : ∃ e' : Int, e ≤ e' ∧ 0 ≤ e' ∧ e' ≤ 1 ∧ e' ≤ (σ2.1 a0 13).toInt ∧ (σ2.1 a0 13).toInt ≤ 2147483647 * e' ∧ (σ.1 a0 11).toInt ≤ (σ2.1 a0 11).toInt ∧ (σ2.1 a0 11).toInt ≤ (σ.1 a0 11).toInt + 1 ∧ (σ.1 a0 11).toInt + 1 ≤ (σ2.1 a0 11).toInt + e' := by
  have zb := zb_rng (σ2.1 a0 13)
  rcases h with ⟨q1, q2, q3⟩ | ⟨q1, q2, q3⟩
  · exact ⟨1, h1, by omega, by omega, by omega, by omega, by omega, by omega, by omega⟩
  · exact ⟨e, by omega, by omega, by omega, by omega, by omega, by omega, by omega, by omega⟩
theorem zfe_ex (hO : 0 ≤ (σ.1 a0 12).toInt) (hO2 : (σ2.1 a0 12).toInt ≤ 7) (h1 : e ≤ 1) (h0 : 0 ≤ e) (h2 : e ≤ (σ.1 a0 13).toInt) (g : (σ.1 a0 11).toInt ≤ (σ2.1 a0 11).toInt ∧ (σ.1 a0 38).toInt ≤ (σ2.1 a0 38).toInt ∧ (σ2.1 a0 38).toInt ≤ (σ.1 a0 38).toInt + (σ2.1 a0 11).toInt - (σ.1 a0 11).toInt + 1 ∧ ((σ.1 a0 13).toInt = 0 ∨ (1 ≤ (σ2.1 a0 13).toInt ∧ (σ2.1 a0 38).toInt = (σ.1 a0 38).toInt))) (h : 1 ≤ (σ2.1 a0 13).toInt ∨ ((σ.1 a0 13).toInt = 0 ∧ (σ2.1 a0 13).toInt = 0 ∧ (σ2.1 a0 38).toInt ≤ (σ.1 a0 38).toInt + (σ2.1 a0 11).toInt - (σ.1 a0 11).toInt ∧ (σ.1 a0 11).toInt < (σ2.1 a0 11).toInt ∧ (σ2.1 a0 12).toInt = (σ.1 a0 12).toInt)) : ∃ e' : Int, e ≤ e' ∧ 0 ≤ e' ∧ e' ≤ 1 ∧ e' ≤ (σ2.1 a0 13).toInt ∧ (σ2.1 a0 13).toInt ≤ 2147483647 * e' ∧ (σ.1 a0 11).toInt ≤ (σ2.1 a0 11).toInt ∧ (σ.1 a0 11).toInt + 1 ≤ (σ2.1 a0 11).toInt + e' ∧ (σ.1 a0 38).toInt ≤ (σ2.1 a0 38).toInt ∧ (σ2.1 a0 38).toInt ≤ (σ.1 a0 38).toInt + (σ2.1 a0 11).toInt - (σ.1 a0 11).toInt + e' - e ∧ (σ2.1 a0 12).toInt ≤ (σ.1 a0 12).toInt + 7 * e' := by
  have zb := zb_rng (σ2.1 a0 13)
  rcases h with q1 | ⟨q1, q2, q3, q4, q5⟩
  · refine ⟨1, h1, by omega, by omega, by omega, by omega, by omega, by omega, by omega, ?_, by omega⟩
    rcases g.2.2.2 with z | z <;> omega
  · exact ⟨0, by omega, by omega, by omega, by omega, by omega, by omega, by omega, by omega, by omega, by omega⟩
end ZFE
theorem gBr.kept {a0 : Nat} {σ σ2 : zS} {lo hi hi' b : Int} (h : gBr a0 σ lo hi b) (e39 : ∀ j : Int, lo ≤ j → j < hi → zp a0 σ2 39 j = zp a0 σ 39 j ∧ zp a0 σ2 40 j = zp a0 σ 40 j) (e33 : zp a0 σ2 33 b = zp a0 σ 33 b ∧ zp a0 σ2 34 b = zp a0 σ 34 b ∧ zp a0 σ2 35 b = zp a0 σ 35 b ∧ zp a0 σ2 36 b = zp a0 σ 36 b ∧ zp a0 σ2 37 b = zp a0 σ 37 b) (hh : hi ≤ hi') : gBr a0 σ2 lo hi' b := by
  obtain ⟨r1, r2, r3, r4⟩ := h
  obtain ⟨f1, f2, f3, f4, f5⟩ := e33
  have c3 := r2.2.1
  unfold gBr
  rw [f1, f2, f3, f4, f5]
  refine ⟨fun ht => ?_, r2.congr (fun j g3 g4 => e39 j (by omega) (by omega)), r3, by omega⟩
  obtain ⟨u1, u2, u3⟩ := r1 ht
  have c1 := u1.2.1
  have c2 := u2.2.1
  exact ⟨u1.congr (fun j g3 g4 => e39 j (by omega) (by omega)), u2.congr (fun j g3 g4 => e39 j (by omega) (by omega)), u3⟩
/-- rows of branches but for five from B on -/
def zRk (a0 : Nat) (σ σ2 : zS) (B : Int) : Prop := ∀ b : Int, 0 ≤ b → (b < B ∨ B + 5 ≤ b) → zp a0 σ2 33 b = zp a0 σ 33 b ∧ zp a0 σ2 34 b = zp a0 σ 34 b ∧ zp a0 σ2 35 b = zp a0 σ 35 b ∧ zp a0 σ2 36 b = zp a0 σ 36 b ∧ zp a0 σ2 37 b = zp a0 σ 37 b
theorem gL.region {a0 : Nat} {σ σ2 : zS} {s : Int} (h : gL a0 σ) (e18 : (σ2.1 a0 18).toInt = (σ.1 a0 18).toInt) (hV : 0 ≤ (σ.1 a0 18).toInt ∧ (σ.1 a0 18).toInt ≤ 1) (hs : s + (σ.1 a0 18).toInt = 1) (hk : zKc a0 σ σ2) (hr : zRk a0 σ σ2 (σ.1 a0 32).toInt) (h1 : 420 * s ≤ (σ.1 a0 38).toInt) (h2 : (σ2.1 a0 38).toInt ≤ 420 * s + 420) (h3 : 130 * s ≤ (σ.1 a0 32).toInt) (h4 : (σ.1 a0 32).toInt + 5 ≤ 130 * s + 130) (e30 : ∀ k : Int, 0 ≤ k → k < 5 → zp a0 σ2 30 (5 * (σ.1 a0 18).toInt + k) = zp a0 σ 30 (5 * (σ.1 a0 18).toInt + k) ∧ zp a0 σ2 31 (5 * (σ.1 a0 18).toInt + k) = zp a0 σ 31 (5 * (σ.1 a0 18).toInt + k)) : gL a0 σ2 := by
  unfold gL
  rw [e18]
  intro k h0 h5
  exact gLw.kept h (Int.le_refl _) (Int.le_refl _) (fun j g1 g2 => hk j (by omega) (by omega)) (fun b g1 g2 => hr b (by omega) (by omega)) k h0 h5 (e30 k h0 h5)
theorem gL.rw {κ : Int} {L : List Nat} {kd : Nat → Nat} {σ σ2 : zS} {a0 : Nat} {Wf Wa : List Nat} (hI : zJ κ L kd σ2) (ha : zT L kd a0 11) (g : zSame a0 Wf Wa L kd σ σ2) (hd : (!Wf.contains 18 && (!Wa.contains 133 && (!Wa.contains 134 && (!Wa.contains 135 && (!Wa.contains 136 && (!Wa.contains 137 && (!Wa.contains 139 && !Wa.contains 140))))))) = true) (h : gL a0 σ) (e30 : ∀ k : Int, 0 ≤ k → k < 5 → zp a0 σ2 30 (5 * (σ.1 a0 18).toInt + k) = zp a0 σ 30 (5 * (σ.1 a0 18).toInt + k) ∧ zp a0 σ2 31 (5 * (σ.1 a0 18).toInt + k) = zp a0 σ 31 (5 * (σ.1 a0 18).toInt + k)) : gL a0 σ2 := by
  simp only [Bool.and_eq_true, Bool.not_eq_true'] at hd
  obtain ⟨h1, h4, h5, h6, h7, h8, h9, h10⟩ := hd
  unfold gL
  rw [zfl_same g 18 h1]
  intro k h0 hk5
  exact gLw.kept h (Int.le_refl _) (Int.le_refl _) (fun j _ _ => by rw [zp_same hI ha g 39 rfl (by decide) h9, zp_same hI ha g 40 rfl (by decide) h10]; exact ⟨rfl, rfl⟩) (fun b _ _ => by rw [zp_same hI ha g 33 rfl (by decide) h4, zp_same hI ha g 34 rfl (by decide) h5, zp_same hI ha g 35 rfl (by decide) h6, zp_same hI ha g 36 rfl (by decide) h7, zp_same hI ha g 37 rfl (by decide) h8]; exact ⟨rfl, rfl, rfl, rfl, rfl⟩) k h0 hk5 (e30 k h0 hk5)
/-- the laws of the side that is live are kept -/
def zLkp (a0 : Nat) (σ σ2 : zS) : Prop := (∀ j : Int, 420 * (σ.1 a0 18).toInt ≤ j → j < 420 * (σ.1 a0 18).toInt + 420 → zp a0 σ2 39 j = zp a0 σ 39 j ∧ zp a0 σ2 40 j = zp a0 σ 40 j) ∧ (∀ b : Int, 130 * (σ.1 a0 18).toInt ≤ b → b < 130 * (σ.1 a0 18).toInt + 130 → zp a0 σ2 33 b = zp a0 σ 33 b ∧ zp a0 σ2 34 b = zp a0 σ 34 b ∧ zp a0 σ2 35 b = zp a0 σ 35 b ∧ zp a0 σ2 36 b = zp a0 σ 36 b ∧ zp a0 σ2 37 b = zp a0 σ 37 b) ∧ ∀ k : Int, 0 ≤ k → k < 5 → zp a0 σ2 30 (5 * (σ.1 a0 18).toInt + k) = zp a0 σ 30 (5 * (σ.1 a0 18).toInt + k) ∧ zp a0 σ2 31 (5 * (σ.1 a0 18).toInt + k) = zp a0 σ 31 (5 * (σ.1 a0 18).toInt + k)
theorem zLkp.region {a0 : Nat} {σ σ2 : zS} {s : Int} (hV : 0 ≤ (σ.1 a0 18).toInt ∧ (σ.1 a0 18).toInt ≤ 1) (hs : s + (σ.1 a0 18).toInt = 1) (hk : zKc a0 σ σ2) (hr : zRk a0 σ σ2 (σ.1 a0 32).toInt) (h1 : 420 * s ≤ (σ.1 a0 38).toInt) (h2 : (σ2.1 a0 38).toInt ≤ 420 * s + 420) (h3 : 130 * s ≤ (σ.1 a0 32).toInt) (h4 : (σ.1 a0 32).toInt + 5 ≤ 130 * s + 130) (e30 : ∀ k : Int, 0 ≤ k → k < 5 → zp a0 σ2 30 (5 * (σ.1 a0 18).toInt + k) = zp a0 σ 30 (5 * (σ.1 a0 18).toInt + k) ∧ zp a0 σ2 31 (5 * (σ.1 a0 18).toInt + k) = zp a0 σ 31 (5 * (σ.1 a0 18).toInt + k)) : zLkp a0 σ σ2 := ⟨fun j g1 g2 => hk j (by omega) (by omega), fun b g1 g2 => hr b (by omega) (by omega), e30⟩
theorem zLkp.eq {a0 : Nat} {σ σ2 : zS} (e30 : zp a0 σ2 30 = zp a0 σ 30) (e31 : zp a0 σ2 31 = zp a0 σ 31) (e33 : zp a0 σ2 33 = zp a0 σ 33) (e34 : zp a0 σ2 34 = zp a0 σ 34) (e35 : zp a0 σ2 35 = zp a0 σ 35) (e36 : zp a0 σ2 36 = zp a0 σ 36) (e37 : zp a0 σ2 37 = zp a0 σ 37) (e39 : zp a0 σ2 39 = zp a0 σ 39) (e40 : zp a0 σ2 40 = zp a0 σ 40) : zLkp a0 σ σ2 := ⟨fun j _ _ => ⟨congrFun e39 j, congrFun e40 j⟩, fun b _ _ => ⟨congrFun e33 b, congrFun e34 b, congrFun e35 b, congrFun e36 b, congrFun e37 b⟩, fun _ _ _ => ⟨congrFun e30 _, congrFun e31 _⟩⟩
theorem zLkp.tr {a0 : Nat} {σ σ2 σ3 : zS} (h : zLkp a0 σ σ2) (g : zLkp a0 σ2 σ3) (e : (σ2.1 a0 18).toInt = (σ.1 a0 18).toInt) : zLkp a0 σ σ3 := by
  obtain ⟨g1, g2, g3⟩ := g
  rw [e] at g1 g2 g3
  exact ⟨fun j j1 j2 => ⟨(g1 j j1 j2).1.trans (h.1 j j1 j2).1, (g1 j j1 j2).2.trans (h.1 j j1 j2).2⟩, fun b b1 b2 => ⟨(g2 b b1 b2).1.trans (h.2.1 b b1 b2).1, (g2 b b1 b2).2.1.trans (h.2.1 b b1 b2).2.1, (g2 b b1 b2).2.2.1.trans (h.2.1 b b1 b2).2.2.1, (g2 b b1 b2).2.2.2.1.trans (h.2.1 b b1 b2).2.2.2.1, (g2 b b1 b2).2.2.2.2.trans (h.2.1 b b1 b2).2.2.2.2⟩, fun k k1 k2 => ⟨(g3 k k1 k2).1.trans (h.2.2 k k1 k2).1, (g3 k k1 k2).2.trans (h.2.2 k k1 k2).2⟩⟩
theorem zLkp.st {a0 : Nat} {σ σ2 σ3 : zS} (h : zLkp a0 σ σ2) (e30 : zp a0 σ3 30 = zp a0 σ2 30) (e31 : zp a0 σ3 31 = zp a0 σ2 31) (e33 : zp a0 σ3 33 = zp a0 σ2 33) (e34 : zp a0 σ3 34 = zp a0 σ2 34) (e35 : zp a0 σ3 35 = zp a0 σ2 35) (e36 : zp a0 σ3 36 = zp a0 σ2 36) (e37 : zp a0 σ3 37 = zp a0 σ2 37) (e39 : zp a0 σ3 39 = zp a0 σ2 39) (e40 : zp a0 σ3 40 = zp a0 σ2 40) : zLkp a0 σ σ3 := by
  unfold zLkp
  rw [e30, e31, e33, e34, e35, e36, e37, e39, e40]
  exact h
