/-! A LAW ASKED: both sides -/
section LAWM
variable {a : Nat} {Y : Nat → Nat} {ft : Nat → Int32} {p1 p2 v4 : Int32} {N cl bl : Nat}
theorem zMc.fr {t t' : zS} (M : zMc a Y ft t) (g : zFr (fun c j => c = Y 46 ∨ (c = a ∧ j = 47)) t t') : zMc a Y ft t' := ⟨fun j hj => by
  rw [g.rf]
  exact M.1 j hj, fun i hi => by
  have m := (M.1 45 (by unfold zMj; omega)).2
  rw [g.2 (Y 45) i (fun z => z.elim (m.2 (by decide)) (fun w => m.1 w.1))]
  exact M.2 i hi⟩
theorem zMc_r {t t' : zS} (M : zMc a Y ft t) (g : zFr (fun c j => c = Y 46 ∨ (c = a ∧ j = 47)) t t') {j : Nat} (hj : zMj j) (h46 : j ≠ 46) : t'.1 (Y j) = t.1 (Y j) := funext (fun i => g.2 _ _ (fun z => z.elim ((M.1 j hj).2.2 h46) (fun w => (M.1 j hj).2.1 w.1)))
theorem mLawV {v : Nat} (hv4 : v4.toNatClampNeg = v) (hN : N ≤ 4000) : ∀ (B : List zBr) (b n : Nat) (x17 : Int32) (t : zS), zMc a Y ft t → okB B → zBz Y cl t N b B → b + B.length ≤ 3000 → x17.toInt = b → (t.1 (Y 31) v).toInt = b + B.length → B.length < n → (t.1 a 47).toInt = 0 → ∃ t', F_X11_lawTells_39 v4 a p1 p2 n x17 t = (evB ft B, t') ∧ zFr (fun c j => c = Y 46 ∨ (c = a ∧ j = 47)) t t' := by
  intro B
  induction B with
  | nil => intro b n x17 t _ h; exact h.elim
  | cons x B ih =>
    intro b n x17 t M ho hB hb hx h31 hn h47
    obtain ⟨n, rfl⟩ : ∃ q, n = q + 1 := ⟨n - 1, by omega⟩
    rw [List.length_cons] at h31 hn hb
    have g31 := (M.1 31 (by unfold zMj; omega)).1
    have g33 := (M.1 33 (by unfold zMj; omega)).1
    have g34 := (M.1 34 (by unfold zMj; omega)).1
    have g35 := (M.1 35 (by unfold zMj; omega)).1
    have g36 := (M.1 36 (by unfold zMj; omega)).1
    have g37 := (M.1 37 (by unfold zMj; omega)).1
    have nb : x17.toNatClampNeg = b := by rw [ztn, hx]; rfl
    rw [F_X11_lawTells_39]
    simp only [zlt, zlt2, g31, g33, g34, g35, g36, g37, nb, hv4]
    rw [if_pos (by omega)]
    obtain ⟨hB1, hB2⟩ := hB
    obtain ⟨o, w⟩ := x
    cases o with
    | none =>
      obtain ⟨k1, k2⟩ := hB1
      obtain ⟨τ, e1, e2, e3, e4⟩ := mTerm M k2 hN ho
      rw [if_pos k1]
      simp only [e1]
      refine ⟨τ, ?_, e2⟩
      show _ = ((vlC ft w).getD 0, τ)
      by_cases z : vlC ft w = none
      · rw [if_neg (by rw [e3 z]; decide), z]
        rfl
      · rw [if_pos (by rw [e4 z]; exact h47)]
    | some lr =>
      obtain ⟨l, r⟩ := lr
      obtain ⟨o1, o2, o3, o4⟩ := ho
      obtain ⟨k1, k2, k3, k4⟩ := hB1
      rw [if_neg (by rw [k1]; decide)]
      obtain ⟨τ1, e1, e2, e3, e4⟩ := mTerm M k2 hN o1
      have M1 := M.fr e2
      have q39 : ∀ i, cl ≤ i → i < N → τ1.1 (Y 39) i = t.1 (Y 39) i ∧ τ1.1 (Y 40) i = t.1 (Y 40) i := fun i _ _ => ⟨congrFun (zMc_r M e2 (by unfold zMj; omega) (by decide)) i, congrFun (zMc_r M e2 (by unfold zMj; omega) (by decide)) i⟩
      have c35 := congrFun (zMc_r M e2 (j := 35) (by unfold zMj; omega) (by decide)) b
      have c36 := congrFun (zMc_r M e2 (j := 36) (by unfold zMj; omega) (by decide)) b
      have c37 := congrFun (zMc_r M e2 (j := 37) (by unfold zMj; omega) (by decide)) b
      obtain ⟨τ2, f1, f2, f3, f4⟩ := mTerm M1 (k3.cg (Nat.le_refl _) q39) hN o2
      have M2 := M1.fr f2
      have g2 := e2.tr f2
      have q39' : ∀ i, cl ≤ i → i < N → τ2.1 (Y 39) i = t.1 (Y 39) i ∧ τ2.1 (Y 40) i = t.1 (Y 40) i := fun i _ _ => ⟨congrFun (zMc_r M g2 (by unfold zMj; omega) (by decide)) i, congrFun (zMc_r M g2 (by unfold zMj; omega) (by decide)) i⟩
      have d36 := congrFun (zMc_r M g2 (j := 36) (by unfold zMj; omega) (by decide)) b
      have d37 := congrFun (zMc_r M g2 (j := 37) (by unfold zMj; omega) (by decide)) b
      have h35 := (M1.1 35 (by unfold zMj; omega)).1
      have h36 := (M1.1 36 (by unfold zMj; omega)).1
      have i36 := (M2.1 36 (by unfold zMj; omega)).1
      have i37 := (M2.1 37 (by unfold zMj; omega)).1
      simp only [e1, h35, h36, c35, c36, f1, i36, i37, d36, d37]
      by_cases zl : vlC ft l = none
      · have p1' : (τ1.1 a 47).toInt = 1 := e3 zl
        have p2' : ¬ (τ2.1 a 47).toInt = 0 := by
          by_cases zr : vlC ft r = none
          · rw [f3 zr]; decide
          · rw [f4 zr, p1']; decide
        rw [if_neg p2']
        refine ⟨τ2, ?_, g2⟩
        rw [evB, zl]
      · obtain ⟨xl, hl⟩ : ∃ y, vlC ft l = some y := by
          cases h : vlC ft l with
          | none => exact absurd h zl
          | some y => exact ⟨y, rfl⟩
        by_cases zr : vlC ft r = none
        · rw [if_neg (by rw [f3 zr]; decide)]
          refine ⟨τ2, ?_, g2⟩
          rw [evB, hl, zr]
        · obtain ⟨xr, hr⟩ : ∃ y, vlC ft r = some y := by
            cases h : vlC ft r with
            | none => exact absurd h zr
            | some y => exact ⟨y, rfl⟩
          have z47 : (τ2.1 a 47).toInt = 0 := by rw [f4 zr, e4 zl]; exact h47
          rw [if_pos z47, hl, hr, evB, hl, hr]
          show ∃ t', (if xl.toInt < xr.toInt then _ else _) = ((if xl.toInt < xr.toInt then (vlC ft w).getD 0 else evB ft B), t') ∧ _
          by_cases c : xl.toInt < xr.toInt
          · rw [if_pos c, if_pos c]
            obtain ⟨τ3, u1, u2, u3, u4⟩ := mTerm M2 (k4.cg (Nat.le_refl _) q39') hN o3
            simp only [u1]
            refine ⟨τ3, ?_, g2.tr u2⟩
            by_cases z : vlC ft w = none
            · rw [if_neg (by rw [u3 z]; decide), z]
              rfl
            · rw [if_pos (by rw [u4 z]; exact z47)]
          · rw [if_neg c, if_neg c]
            have rows : ∀ j i, 33 ≤ j → j ≤ 37 → b + 1 ≤ i → i < b + 1 + B.length → τ2.1 (Y j) i = t.1 (Y j) i := fun j i j1 j2 _ _ => congrFun (zMc_r M g2 (by unfold zMj; omega) (by omega)) i
            obtain ⟨t', u1, u2⟩ := ih (b + 1) n (x17 + (1 : Int32)) τ2 M2 o4 (zBz_cg (Nat.le_refl _) q39' B (b + 1) rows hB2) (by omega) (zp1 hx (by omega)) (by rw [congrFun (zMc_r M g2 (j := 31) (by unfold zMj; omega) (by decide)) v, h31]; omega) (by omega) z47
            exact ⟨t', u1, g2.tr u2⟩
/-- what is asked where a law may not be told -/
def lwV (ft : Nat → Int32) (d : Int32) : Option (List zBr) → Int32
  | none => d
  | some B => evB ft B
/-- how the reference holds a law -/
def zLm (Y : Nat → Nat) (cl bl : Nat) (t : zS) (N Nb v : Nat) : Option (List zBr) → Prop
  | none => (t.1 (Y 30) v).toInt = (t.1 (Y 31) v).toInt
  | some B => ∃ b : Nat, (t.1 (Y 30) v).toInt = b ∧ (t.1 (Y 31) v).toInt = b + B.length ∧ b + B.length ≤ Nb ∧ bl ≤ b ∧ zBz Y cl t N b B
theorem mLawA {t : zS} {Nb : Nat} (M : zMc a Y ft t) (hN : N ≤ 4000) (hNb : Nb ≤ 2000) {k b : Nat} (h18 : (t.1 a 18).toInt = b) (hb : b ≤ 1) (hp : p1.toInt = k) (hk : k < 5) {g : Option (List zBr)} (hg : zLm Y cl bl t N Nb (5 * b + k) g) (ho : ∀ B, g = some B → okB B) : ∃ t', F_X11_lawTells a p1 p2 t = (lwV ft p2 g, t') ∧ zFr (fun c j => c = Y 46 ∨ (c = a ∧ j = 47)) t t' := by
  have e5 : (5 : Int32).toInt = 5 := by decide
  have g30 := (M.1 30 (by unfold zMj; omega)).1
  have g31 := (M.1 31 (by unfold zMj; omega)).1
  have n30 := (M.1 30 (by unfold zMj; omega)).2.1
  have v1 : ((5 : Int32) * t.1 a 18).toInt = 5 * (b : Int) := by rw [zb_mul (by rw [e5, h18]; omega) (by rw [e5, h18]; omega), e5, h18]
  have v2 : ((5 : Int32) * t.1 a 18 + p1).toInt = ((5 * b + k : Nat) : Int) := by rw [zb_add (by rw [v1]; omega) (by rw [v1]; omega), v1, hp]; omega
  have w : ((5 : Int32) * t.1 a 18 + p1).toNatClampNeg = 5 * b + k := by rw [ztn, v2]; rfl
  unfold F_X11_lawTells
  simp only [zlt, g30, g31, w]
  cases g with
  | none =>
    have hg' : (t.1 (Y 30) (5 * b + k)).toInt = (t.1 (Y 31) (5 * b + k)).toInt := hg
    rw [if_pos hg']
    exact ⟨t, rfl, zFr.id⟩
  | some B =>
    obtain ⟨b0, h30, h31, hB2k, -, hB⟩ := hg
    have ho := ho B rfl
    have h0 : 0 < B.length := by
      cases B with
      | nil => exact ho.elim
      | cons x B => rw [List.length_cons]; omega
    rw [if_neg (by omega)]
    have g0 : zFr (fun c j => c = Y 46 ∨ (c = a ∧ j = 47)) t (zu t.1 a 47 0, t.2.1, t.2.2) := zFr.id.w (Or.inr ⟨rfl, rfl⟩)
    have M0 := M.fr g0
    have q : ∀ i, cl ≤ i → i < N → (zu t.1 a 47 (0 : Int32)) (Y 39) i = t.1 (Y 39) i ∧ (zu t.1 a 47 (0 : Int32)) (Y 40) i = t.1 (Y 40) i := fun i _ _ => ⟨congrFun (zMc_r M g0 (by unfold zMj; omega) (by decide)) i, congrFun (zMc_r M g0 (by unfold zMj; omega) (by decide)) i⟩
    have c30 : zu t.1 a 47 (0 : Int32) (Y 30) (5 * b + k) = t.1 (Y 30) (5 * b + k) := congrFun (zMc_r M g0 (j := 30) (by unfold zMj; omega) (by decide)) _
    have c31 : zu t.1 a 47 (0 : Int32) (Y 31) (5 * b + k) = t.1 (Y 31) (5 * b + k) := congrFun (zMc_r M g0 (j := 31) (by unfold zMj; omega) (by decide)) _
    obtain ⟨t', u1, u2⟩ := mLawV (p1 := p1) (p2 := p2) w hN B b0 4294967299 (zu t.1 a 47 (0 : Int32) (Y 30) (5 * b + k)) _ M0 ho (zBz_cg (Nat.le_refl _) q B b0 (fun j i j1 j2 _ _ => congrFun (zMc_r M g0 (by unfold zMj; omega) (by omega)) i) hB) (by omega) (by rw [c30]; exact h30) ((congrArg Int32.toInt c31).trans h31) (by omega) (by show (zu t.1 a 47 (0 : Int32) a 47).toInt = 0; rw [zu_s]; decide)
    exact ⟨t', u1, g0.tr u2⟩
end LAWM
