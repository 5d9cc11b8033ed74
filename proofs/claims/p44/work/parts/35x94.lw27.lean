/-! THE CLASS' RIVER: what a law tells of a place -/
theorem pEta {α β : Type} (p : α × β) : (p.1, p.2) = p := rfl
/-- where all lies: 0 river 1 shape 2 code 3 told 4 course 5 rains 6 flow 7 claims 8 vars 9 kept 10 length 11 rain 12 tale 13 steps 14 values 15 start 16 line 17 far 18 above 19 into 20 won 21 money -/
def zQr (q : Nat → Nat) (R : Nat → Nat → Option Nat) : Prop := (((R (q 0) 0).getD 0 = q 1 ∧ (R (q 0) 1).getD 0 = q 2 ∧ (R (q 0) 5).getD 0 = q 3 ∧ (R (q 0) 6).getD 0 = q 4 ∧ (R (q 0) 2).getD 0 = q 5 ∧ (R (q 0) 3).getD 0 = q 6 ∧ (R (q 0) 4).getD 0 = q 7) ∧ ((R (q 2) 0).getD 0 = q 8 ∧ (R (q 2) 1).getD 0 = q 9) ∧ ((R (q 3) 3).getD 0 = q 10 ∧ (R (q 3) 4).getD 0 = q 11 ∧ (R (q 3) 5).getD 0 = q 12 ∧ (R (q 3) 6).getD 0 = q 13 ∧ (R (q 3) 7).getD 0 = q 14 ∧ (R (q 3) 9).getD 0 = q 15) ∧ ((R (q 1) 2).getD 0 = q 16 ∧ (R (q 1) 3).getD 0 = q 17 ∧ (R (q 1) 4).getD 0 = q 18) ∧ (R (q 4) 0).getD 0 = q 19 ∧ (R (q 4) 1).getD 0 = q 20 ∧ (R (q 4) 2).getD 0 = q 21) ∧ ∀ i j, i < 22 → j < 22 → i ≠ j → ¬ q i = q j
/-- the facts of a place p of which f flows -/
def fCt (q : Nat → Nat) (s : zS) (p : Int32) (f : Int32) : Nat → Int32
  | 0 => s.1 (q 11) p.toNatClampNeg
  | 1 => s.1 (q 17) p.toNatClampNeg
  | 2 => s.1 (q 12) p.toNatClampNeg
  | 3 => s.1 (q 4) 4 - s.1 (q 4) 4 / 12 * 12
  | 4 => f
  | 5 => s.1 (q 10) p.toNatClampNeg
  | 6 => s.1 (q 20) p.toNatClampNeg
  | 7 => p
  | _ => s.1 (q 18) p.toNatClampNeg
/-- the five laws of the class -/
def zL5 (q : Nat → Nat) (s : zS) (g : zGl) : Prop := ∃ K : Nat, (s.1 (q 3) 8).toInt = K ∧ K ≤ 420 ∧ ∀ k, k < 5 → zLc (q 13) (q 14) (q 15) s K k (g k)
/-- what going through a law writes -/
def zTw (q : Nat → Nat) : Nat → Nat → Prop := fun c _ => c = q 8 ∨ c = q 9
section TELLSC
variable {q : Nat → Nat} {R : Nat → Nat → Option Nat} {s t τ : zS} {g : zGl} {p f : Int32}
theorem zQr.n (h : zQr q R) {i j : Nat} (hi : i < 22) (hj : j < 22) (n : i ≠ j) : ¬ q i = q j := h.2 i j hi hj n
theorem zTw.r (h : zQr q R) (f : zFr (zTw q) s t) {i : Nat} (hi : i < 22) (n8 : i ≠ 8) (n9 : i ≠ 9) : t.1 (q i) = s.1 (q i) := funext (fun j => f.2 (q i) j (by
  rintro (z | z)
  · exact h.n hi (by decide) n8 z
  · exact h.n hi (by decide) n9 z))
theorem zL5.cg (h : zL5 q s g) (e8 : t.1 (q 3) 8 = s.1 (q 3) 8) (e : ∀ i, (i = 13 ∨ i = 14 ∨ i = 15) → t.1 (q i) = s.1 (q i)) : zL5 q t g := by
  obtain ⟨K, h1, h2, h3⟩ := h
  exact ⟨K, by rw [e8]; exact h1, h2, fun k hk => (h3 k hk).cg (e 13 (by omega)) (e 14 (by omega)) (e 15 (by omega))⟩
theorem fCt.cg (e : ∀ i, (i = 4 ∨ i = 10 ∨ i = 11 ∨ i = 12 ∨ i = 17 ∨ i = 18 ∨ i = 20) → t.1 (q i) = s.1 (q i)) : fCt q t p f = fCt q s p f := by
  funext i
  unfold fCt
  split
  · rw [e 11 (by omega)]
  · rw [e 17 (by omega)]
  · rw [e 12 (by omega)]
  · rw [e 4 (by omega)]
  · rfl
  · rw [e 10 (by omega)]
  · rw [e 20 (by omega)]
  · rfl
  · rw [e 18 (by omega)]
theorem cTells (h : zQr q s.2.2) (hg : zL5 q s g) {k : Int32} {w : Nat} (hk : k.toInt = w) (hw : w < 5) : ∃ τ, F_X5_tells (q 0) k p f s = (evB (fCt q s p f) (lwB w (g w)), τ) ∧ zFr (zTw q) s τ := by
  obtain ⟨⟨⟨g1, g2, g3, g4, -, -, -⟩, ⟨g8, g9⟩, ⟨g10, g11, g12, g13, g14, g15⟩, ⟨-, g17, g18⟩, -, g20, -⟩, hn⟩ := id h
  have w0 : (0 : Int32).toNatClampNeg = 0 := by decide
  have w1 : (1 : Int32).toNatClampNeg = 1 := by decide
  have w2 : (2 : Int32).toNatClampNeg = 2 := by decide
  have w3 : (3 : Int32).toNatClampNeg = 3 := by decide
  have w4 : (4 : Int32).toNatClampNeg = 4 := by decide
  have w5 : (5 : Int32).toNatClampNeg = 5 := by decide
  have w6 : (6 : Int32).toNatClampNeg = 6 := by decide
  have w7 : (7 : Int32).toNatClampNeg = 7 := by decide
  have w8 : (8 : Int32).toNatClampNeg = 8 := by decide
  have z4 : ¬ q 4 = q 8 := hn 4 8 (by decide) (by decide) (by decide)
  have z10 : ¬ q 10 = q 8 := hn 10 8 (by decide) (by decide) (by decide)
  have z11 : ¬ q 11 = q 8 := hn 11 8 (by decide) (by decide) (by decide)
  have z12 : ¬ q 12 = q 8 := hn 12 8 (by decide) (by decide) (by decide)
  have z17 : ¬ q 17 = q 8 := hn 17 8 (by decide) (by decide) (by decide)
  have z18 : ¬ q 18 = q 8 := hn 18 8 (by decide) (by decide) (by decide)
  have z20 : ¬ q 20 = q 8 := hn 20 8 (by decide) (by decide) (by decide)
  obtain ⟨ft, hft⟩ : ∃ ft, ft = fCt q s p f := ⟨_, rfl⟩
  obtain ⟨u, hu⟩ : ∃ u : zS, u = (zu (zu (zu (zu (zu (zu (zu (zu (zu s.1 (q 8) 0 (ft 0)) (q 8) 1 (ft 1)) (q 8) 2 (ft 2)) (q 8) 3 (ft 3)) (q 8) 4 (ft 4)) (q 8) 5 (ft 5)) (q 8) 6 (ft 6)) (q 8) 7 (ft 7)) (q 8) 8 (ft 8), s.2.1, s.2.2) := ⟨_, rfl⟩
  have E : F_X5_tells (q 0) k p f s = F_X0_answer (q 2) (q 3) k u := by
    have f0 : ft 0 = s.1 (q 11) p.toNatClampNeg := by rw [hft]; rfl
    have f1 : ft 1 = s.1 (q 17) p.toNatClampNeg := by rw [hft]; rfl
    have f2 : ft 2 = s.1 (q 12) p.toNatClampNeg := by rw [hft]; rfl
    have f3 : ft 3 = s.1 (q 4) 4 - s.1 (q 4) 4 / 12 * 12 := by rw [hft]; rfl
    have f4 : ft 4 = f := by rw [hft]; rfl
    have f5 : ft 5 = s.1 (q 10) p.toNatClampNeg := by rw [hft]; rfl
    have f6 : ft 6 = s.1 (q 20) p.toNatClampNeg := by rw [hft]; rfl
    have f7 : ft 7 = p := by rw [hft]; rfl
    have f8 : ft 8 = s.1 (q 18) p.toNatClampNeg := by rw [hft]; rfl
    rw [hu, f0, f1, f2, f3, f4, f5, f6, f7, f8]
    unfold F_X5_tells F_X1_moon
    simp only [↓zlt, ↓zlt2, g1, g2, g3, g4, g8, g10, g11, g12, g17, g18, g20, w0, w1, w2, w3, w4, w5, w6, w7, w8, zu_n _ _ _ z4, zu_n _ _ _ z10, zu_n _ _ _ z11, zu_n _ _ _ z12, zu_n _ _ _ z17, zu_n _ _ _ z18, zu_n _ _ _ z20, pEta]
  have fu : zFr (zTw q) s u := by
    rw [hu]
    exact ((((((((zFr.id.w (Or.inl rfl)).w (Or.inl rfl)).w (Or.inl rfl)).w (Or.inl rfl)).w (Or.inl rfl)).w (Or.inl rfl)).w (Or.inl rfl)).w (Or.inl rfl)).w (Or.inl rfl)
  obtain ⟨K, k1, k2, k3⟩ := hg
  have ru : u.2.2 = s.2.2 := fu.rf
  have row : ∀ i, i < 22 → i ≠ 8 → i ≠ 9 → u.1 (q i) = s.1 (q i) := fun i hi n8 n9 => zTw.r h fu hi n8 n9
  have Ec : zEc (q 2) (q 3) (q 9) (q 8) (q 13) (q 14) K ft u := by
    refine ⟨⟨by rw [ru]; exact g9, by rw [ru]; exact g8, by rw [ru]; exact g13, by rw [ru]; exact g14⟩, ⟨hn 8 9 (by decide) (by decide) (by decide), hn 13 9 (by decide) (by decide) (by decide), hn 14 9 (by decide) (by decide) (by decide), hn 3 9 (by decide) (by decide) (by decide)⟩, by rw [row 3 (by decide) (by decide) (by decide)]; exact k1, k2, fun i hi => ?_⟩
    rw [hu]
    show zu (zu (zu (zu (zu (zu (zu (zu (zu s.1 (q 8) 0 (ft 0)) (q 8) 1 (ft 1)) (q 8) 2 (ft 2)) (q 8) 3 (ft 3)) (q 8) 4 (ft 4)) (q 8) 5 (ft 5)) (q 8) 6 (ft 6)) (q 8) 7 (ft 7)) (q 8) 8 (ft 8) (q 8) i = ft i
    rcases (show i = 0 ∨ i = 1 ∨ i = 2 ∨ i = 3 ∨ i = 4 ∨ i = 5 ∨ i = 6 ∨ i = 7 ∨ i = 8 by omega) with rfl | rfl | rfl | rfl | rfl | rfl | rfl | rfl | rfl
    · rw [zu_j _ _ _ _ _ (by decide), zu_j _ _ _ _ _ (by decide), zu_j _ _ _ _ _ (by decide), zu_j _ _ _ _ _ (by decide), zu_j _ _ _ _ _ (by decide), zu_j _ _ _ _ _ (by decide), zu_j _ _ _ _ _ (by decide), zu_j _ _ _ _ _ (by decide), zu_s]
    · rw [zu_j _ _ _ _ _ (by decide), zu_j _ _ _ _ _ (by decide), zu_j _ _ _ _ _ (by decide), zu_j _ _ _ _ _ (by decide), zu_j _ _ _ _ _ (by decide), zu_j _ _ _ _ _ (by decide), zu_j _ _ _ _ _ (by decide), zu_s]
    · rw [zu_j _ _ _ _ _ (by decide), zu_j _ _ _ _ _ (by decide), zu_j _ _ _ _ _ (by decide), zu_j _ _ _ _ _ (by decide), zu_j _ _ _ _ _ (by decide), zu_j _ _ _ _ _ (by decide), zu_s]
    · rw [zu_j _ _ _ _ _ (by decide), zu_j _ _ _ _ _ (by decide), zu_j _ _ _ _ _ (by decide), zu_j _ _ _ _ _ (by decide), zu_j _ _ _ _ _ (by decide), zu_s]
    · rw [zu_j _ _ _ _ _ (by decide), zu_j _ _ _ _ _ (by decide), zu_j _ _ _ _ _ (by decide), zu_j _ _ _ _ _ (by decide), zu_s]
    · rw [zu_j _ _ _ _ _ (by decide), zu_j _ _ _ _ _ (by decide), zu_j _ _ _ _ _ (by decide), zu_s]
    · rw [zu_j _ _ _ _ _ (by decide), zu_j _ _ _ _ _ (by decide), zu_s]
    · rw [zu_j _ _ _ _ _ (by decide), zu_s]
    · rw [zu_s]
  obtain ⟨τ, a1, a2⟩ := cLawA (p2 := k) Ec (by rw [ru]; exact g15) hk ((k3 w hw).cg (row 13 (by decide) (by decide) (by decide)) (row 14 (by decide) (by decide) (by decide)) (row 15 (by decide) (by decide) (by decide)))
  refine ⟨τ, ?_, fu.tr (zFr.up a2 (fun c j z => Or.inr z))⟩
  rw [E, a1, hft]
/-- held between, as the class does and as the reference does -/
theorem held_e {v lo hi : Int32} (h : lo.toInt ≤ hi.toInt) : F_X10_held v lo hi = F_X11_within v lo hi := by
  unfold F_X10_held F_X11_within
  simp only [zlt]
  by_cases c1 : hi.toInt ≤ v.toInt
  · rw [if_pos c1, if_pos h]
    by_cases c2 : v.toInt < lo.toInt
    · have e : hi = lo := Int32.toInt_inj.mp (by omega)
      rw [if_pos c2, e]
    · rw [if_neg c2]
      by_cases c3 : hi.toInt < v.toInt
      · rw [if_pos c3]
      · rw [if_neg c3]
        exact Int32.toInt_inj.mp (by omega)
  · rw [if_neg c1]
    by_cases c2 : lo.toInt ≤ v.toInt
    · rw [if_pos c2, if_neg (by omega), if_neg (by omega)]
    · rw [if_neg c2, if_pos (by omega)]
theorem held_r {v lo hi : Int32} (h : lo.toInt ≤ hi.toInt) : lo.toInt ≤ (F_X10_held v lo hi).toInt ∧ (F_X10_held v lo hi).toInt ≤ hi.toInt := by
  unfold F_X10_held
  simp only [zlt]
  by_cases c1 : hi.toInt ≤ v.toInt
  · rw [if_pos c1, if_pos h]
    omega
  · rw [if_neg c1]
    by_cases c2 : lo.toInt ≤ v.toInt
    · rw [if_pos c2]
      omega
    · rw [if_neg c2]
      omega
end TELLSC
