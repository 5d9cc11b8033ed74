/-! A LAW OF THE CLASS: its branches -/
abbrev zBr : Type := Option (zCs × zCs) × zCs
/-- the branches that a text tells -/
def aLb (T : zTn) : Nat → Int → zA → List zBr
  | 0, _, _ => []
  | k + 1, n, s => if n ≤ 4 ∧ s.1 = 0 ∧ T.1 s.2.2.1 = 10 then (some (aCo T (aTake T 10 s), aCo T (aTake T 30 (aSum T (aTake T 10 s)))), aCo T (aTake T 11 (aSum T (aTake T 30 (aSum T (aTake T 10 s)))))) :: aLb T k (n + 1) (aIf T n s) else [(none, aCo T s)]
/-- how the class puts them down from n on -/
def cBr : Nat → List zBr → zCs
  | _, [] => []
  | _, (none, v) :: _ => v ++ [(7, 0)]
  | n, (some (l, r), v) :: B => l ++ (r ++ ((6, ((n + l.length + r.length + v.length + 2 : Nat) : Int)) :: (v ++ ((7, 0) :: cBr (n + l.length + r.length + v.length + 2) B))))
/-- branches that can be gone through, the last without a condition -/
def okB : List zBr → Prop
  | [] => False
  | (none, v) :: _ => zWl v 0 15 1
  | (some (l, r), v) :: B => zWl l 0 15 1 ∧ zWl r 0 15 1 ∧ zWl v 0 15 1 ∧ okB B
section LAWC
variable {P tk kA vA qA tt N m A6 A7 A9 : Nat} {T : zTn} {σ σ' : zS} {s : zA} {k : Nat} {j : Int}
theorem aSum_z (h : (aSum T s).1 = 0) : s.1 = 0 := Classical.byContradiction (fun c => by rw [aSum_f c] at h; exact c h)
theorem aLw_z (h : (aLw T k j s).1 = 0) : s.1 = 0 := Classical.byContradiction (fun c => by
  cases k with
  | zero => exact c h
  | succ k =>
    rw [aLw, if_neg (fun z => c z.2.1), aSum_f c] at h
    exact c h)
theorem cSet {a b : zCs} {t : Int} {x y : Int32} (h : zCd tt A6 A7 0 σ (a ++ (6, 0) :: b)) (hx : x.toInt = a.length) (hy : y.toInt = t) (ha : a.length < 4000) : zCd tt A6 A7 0 (F_X9_setValue tt x y σ) (a ++ (6, t) :: b) := by
  obtain ⟨⟨⟨g6, g7⟩, ⟨n6, n7⟩, n67⟩, h8, hh⟩ := h
  have el : (a ++ (6, (0 : Int)) :: b).length = a.length + (b.length + 1) := by rw [List.length_append]; rfl
  have el2 : (a ++ (6, t) :: b).length = a.length + (b.length + 1) := by rw [List.length_append]; rfl
  have nx : x.toNatClampNeg = a.length := by rw [ztn, hx]; rfl
  have E : F_X9_setValue tt x y σ = (zu σ.1 A7 a.length y, σ.2.1, σ.2.2) := by
    unfold F_X9_setValue
    simp only [zlt]
    rw [if_neg (by omega), if_pos (by rw [h8, el]; omega)]
    simp only [g7, nx]
  obtain ⟨ha1, hb1⟩ := (zHo_app _ _ _).mp hh
  rw [E]
  refine ⟨⟨⟨g6, g7⟩, ⟨n6, n7⟩, n67⟩, ?_, (zHo_app _ _ _).mpr ⟨zHo_cg a 0 (fun i _ i2 => ⟨?_, ?_⟩) ha1, ⟨⟨?_, ?_⟩, zHo_cg b _ (fun i i1 _ => ⟨?_, ?_⟩) hb1.2⟩⟩⟩
  · show (zu σ.1 A7 _ y tt 8).toInt = _
    rw [zu_n _ _ _ (fun z => n7 z.symm), h8, el, el2]
  · show zu σ.1 A7 _ y A6 i = _
    rw [zu_n _ _ _ n67]
  · show zu σ.1 A7 _ y A7 i = _
    rw [zu_j _ _ _ _ _ (by omega)]
  · show (zu σ.1 A7 _ y A6 _).toInt = _
    rw [zu_n _ _ _ n67]
    exact hb1.1.1
  · show (zu σ.1 A7 _ y A7 (0 + a.length)).toInt = _
    rw [Nat.zero_add, zu_s]
    exact hy
  · show zu σ.1 A7 _ y A6 i = _
    rw [zu_n _ _ _ n67]
  · show zu σ.1 A7 _ y A7 i = _
    rw [zu_j _ _ _ _ _ (by omega)]
/-- what a law of the class writes, but for where it begins -/
def zAl (P tt A6 A7 : Nat) : Nat → Nat → Prop := fun b i => b = P ∨ (b = tt ∧ i = 8) ∨ b = A6 ∨ b = A7
theorem cLaw_loop (hd : zVd P tk kA vA qA N) (hT : zTK T m) (hP : tt ≠ P ∧ A6 ≠ P ∧ A7 ≠ P) (hN : zNn T m) {v7 p1 : Int32} {τ0 : zS} (h1 : (τ0.2.2 P 1).getD 0 = tt) (h67 : (τ0.2.2 tt 6).getD 0 = A6 ∧ (τ0.2.2 tt 7).getD 0 = A7) (h9 : (τ0.2.2 tt 9).getD 0 = A9) : ∀ (n : Nat) (x : Int32) (j : Nat) (τ : zS) (s : zA) (c : zCs), x.toInt = j → j ≤ 5 → 5 - j < n → zV P tk kA vA qA tt N m T τ s → zFi (zAl P tt A6 A7) τ0 τ → zCd tt A6 A7 0 τ c → c.length ≤ 10 + s.2.2.1 → ∀ k, 5 - j < k → (aLw T k j s).1 = 0 → ∃ τ', F_X3_law_23 v7 P p1 n x τ = (zu τ'.1 A9 p1.toNatClampNeg v7, τ'.2.1, τ'.2.2) ∧ zFi (zAl P tt A6 A7) τ0 τ' ∧ zCd tt A6 A7 0 τ' (c ++ cBr c.length (aLb T k j s)) ∧ (c ++ cBr c.length (aLb T k j s)).length ≤ 11 + (aLw T k j s).2.2.1 ∧ okB (aLb T k j s) := by
  have o6 : ∀ j, zAl P tt A6 A7 ((τ0.2.2 ((τ0.2.2 P 1).getD 0) 6).getD 0) j := fun j => by
    rw [h1, h67.1]
    exact Or.inr (Or.inr (Or.inl rfl))
  have o7 : ∀ j, zAl P tt A6 A7 ((τ0.2.2 ((τ0.2.2 P 1).getD 0) 7).getD 0) j := fun j => by
    rw [h1, h67.2]
    exact Or.inr (Or.inr (Or.inr rfl))
  have o8 : zAl P tt A6 A7 ((τ0.2.2 P 1).getD 0) 8 := by
    rw [h1]
    exact Or.inr (Or.inl ⟨rfl, rfl⟩)
  have q6 : ∀ j, zAl P tt A6 A7 ((τ0.2.2 tt 6).getD 0) j := fun j => by rw [h67.1]; exact Or.inr (Or.inr (Or.inl rfl))
  have q7 : ∀ j, zAl P tt A6 A7 ((τ0.2.2 tt 7).getD 0) j := fun j => by rw [h67.2]; exact Or.inr (Or.inr (Or.inr rfl))
  have fs : ∀ τ : zS, zFi (zAl P tt A6 A7) τ0 τ → zFi (zAl P tt A6 A7) τ0 (F_X3_sum_o0 P 0 τ) := fun τ g => fi_X3_sum_o0 g o6 o7 o8 (Or.inl rfl) (Or.inl rfl) (Or.inl rfl) (Or.inl rfl) (Or.inl rfl)
  have ft : ∀ (w : Int32) (τ : zS), zFi (zAl P tt A6 A7) τ0 τ → zFi (zAl P tt A6 A7) τ0 (F_X3_take P w τ) := fun w τ g => fi_X3_take g (Or.inl rfl) (Or.inl rfl) (Or.inl rfl) (Or.inl rfl) (Or.inl rfl)
  have fa : ∀ (x y : Int32) (τ : zS), zFi (zAl P tt A6 A7) τ0 τ → zFi (zAl P tt A6 A7) τ0 (F_X9_addStep tt x y τ) := fun x y τ g => fi_X9_addStep g q6 q7 (Or.inr (Or.inl ⟨rfl, rfl⟩))
  have fv : ∀ (x y : Int32) (τ : zS), zFi (zAl P tt A6 A7) τ0 τ → zFi (zAl P tt A6 A7) τ0 (F_X9_setValue tt x y τ) := fun x y τ g => fi_X9_setValue g q7
  have e4 : (4 : Int32).toInt = 4 := by decide
  have e10 : (10 : Int32).toInt = 10 := by decide
  have e70 : (7 : Int32).toInt = 7 := by decide
  have e60 : (6 : Int32).toInt = 6 := by decide
  have e00 : (0 : Int32).toInt = 0 := by decide
  have rk := hT.2.1
  intro n
  induction n with
  | zero => intro x j τ s _ _ _ h; exact absurd h (by omega)
  | succ n ih =>
    intro x j τ s c hx hj hm h hg hC hl k hk hw
    obtain ⟨k, rfl⟩ : ∃ q, k = q + 1 := ⟨k - 1, by omega⟩
    have cs : s.1 = 0 := aLw_z hw
    have fin : (aSum T s).1 = 0 → ∃ τ', (zu (F_X9_addStep (((F_X3_sum_o0 P 0 τ).2.2 P 1).getD 0) 7 0 (F_X3_sum_o0 P 0 τ)).1 (((F_X9_addStep (((F_X3_sum_o0 P 0 τ).2.2 P 1).getD 0) 7 0 (F_X3_sum_o0 P 0 τ)).2.2 (((F_X9_addStep (((F_X3_sum_o0 P 0 τ).2.2 P 1).getD 0) 7 0 (F_X3_sum_o0 P 0 τ)).2.2 P 1).getD 0) 9).getD 0) p1.toNatClampNeg v7, (F_X9_addStep (((F_X3_sum_o0 P 0 τ).2.2 P 1).getD 0) 7 0 (F_X3_sum_o0 P 0 τ)).2.1, (F_X9_addStep (((F_X3_sum_o0 P 0 τ).2.2 P 1).getD 0) 7 0 (F_X3_sum_o0 P 0 τ)).2.2) = (zu τ'.1 A9 p1.toNatClampNeg v7, τ'.2.1, τ'.2.2) ∧ zFi (zAl P tt A6 A7) τ0 τ' ∧ zCd tt A6 A7 0 τ' (c ++ (aCo T s ++ [(7, 0)])) ∧ (c ++ (aCo T s ++ [(7, 0)])).length ≤ 11 + (aSum T s).2.2.1 ∧ okB [(none, aCo T s)] := fun hz => by
      have q := vSumZ hd hT h
      rw [vtt q]
      have q2 := vStep q 7 0
      rw [vtt q2]
      obtain ⟨x1, x2, x3⟩ := cExpr hd hT hP hN h cs hC (by omega) hz
      have pm := (q.2.2.2 hz).1
      have l1 : (c ++ aCo T s).length = c.length + (aCo T s).length := List.length_append
      have st := cStep x1 (by omega) 7 0 e70 e00
      have g2 := fa 7 0 _ (fs τ hg)
      refine ⟨F_X9_addStep tt 7 0 (F_X3_sum_o0 P 0 τ), by rw [g2.1, h9], g2, by rw [← List.append_assoc]; exact st, ?_, x3⟩
      rw [← List.append_assoc, List.length_append, l1]
      show c.length + (aCo T s).length + 1 ≤ _
      omega
    rw [F_X3_law_23]
    simp only [zlt, e4, e10]
    rw [aLw] at hw ⊢
    rw [aLb]
    by_cases c0 : 4 < x.toInt
    · have nc : ¬ ((j : Int) ≤ 4 ∧ s.1 = 0 ∧ T.1 s.2.2.1 = 10) := fun z => by have := z.1; omega
      rw [if_neg nc] at hw
      rw [if_pos c0, if_neg nc, if_neg nc]
      exact fin hw
    rw [if_neg c0]
    by_cases c1 : (τ.1 P 3).toInt = 10
    · have r3 := (h.2.2.2 cs).2.2.1
      rw [if_pos (by omega : (j : Int) ≤ 4 ∧ s.1 = 0 ∧ T.1 s.2.2.1 = 10)] at hw ⊢
      rw [if_pos c1, if_pos (by omega : (j : Int) ≤ 4 ∧ s.1 = 0 ∧ T.1 s.2.2.1 = 10)]
      have zi := aLw_z hw
      have nj : ¬ (j : Int) = 4 := fun e => by
        have f : (aFail T 2 s).1 ≠ 0 := aFail_1 (by decide)
        unfold aIf at zi
        rw [if_pos e] at zi
        exact f (aTake_z (aSum_z (aTake_z (aSum_z (aTake_z (aSum_z (aTake_z zi)))))))
      rw [if_neg (by omega)]
      have ei : aIf T j s = aTake T 12 (aSum T (aTake T 11 (aSum T (aTake T 30 (aSum T (aTake T 10 s)))))) := by
        unfold aIf
        rw [if_neg nj]
      rw [ei] at hw zi ⊢
      obtain ⟨s1, hs1⟩ : ∃ s1, s1 = aTake T 10 s := ⟨_, rfl⟩
      obtain ⟨s2, hs2⟩ : ∃ s2, s2 = aSum T s1 := ⟨_, rfl⟩
      obtain ⟨s3, hs3⟩ : ∃ s3, s3 = aTake T 30 s2 := ⟨_, rfl⟩
      obtain ⟨s4, hs4⟩ : ∃ s4, s4 = aSum T s3 := ⟨_, rfl⟩
      obtain ⟨s5, hs5⟩ : ∃ s5, s5 = aTake T 11 s4 := ⟨_, rfl⟩
      obtain ⟨s6, hs6⟩ : ∃ s6, s6 = aSum T s5 := ⟨_, rfl⟩
      obtain ⟨s7, hs7⟩ : ∃ s7, s7 = aTake T 12 s6 := ⟨_, rfl⟩
      rw [← hs1, ← hs2, ← hs3, ← hs4, ← hs5, ← hs6, ← hs7] at hw zi
      rw [← hs1, ← hs2, ← hs3, ← hs4, ← hs5, ← hs6, ← hs7]
      have a1 := vTake' hd hT h 10 10 (by decide) (by decide)
      rw [← hs1] at a1
      have a2 := vSumZ hd hT a1
      rw [← hs2] at a2
      have a3 := vTake' hd hT a2 30 30 (by decide) (by decide)
      rw [← hs3] at a3
      have a4 := vSumZ hd hT a3
      rw [← hs4] at a4
      have a5 := vTake' hd hT a4 11 11 (by decide) (by decide)
      rw [← hs5] at a5
      have zi6 : s6.1 = 0 := by rw [hs7] at zi; exact aTake_z zi
      have zi5 : s5.1 = 0 := by rw [hs6] at zi6; exact aSum_z zi6
      have zi4 : s4.1 = 0 := by rw [hs5] at zi5; exact aTake_z zi5
      have zi3 : s3.1 = 0 := by rw [hs4] at zi4; exact aSum_z zi4
      have zi2 : s2.1 = 0 := by rw [hs3] at zi3; exact aTake_z zi3
      have zi1 : s1.1 = 0 := by rw [hs2] at zi2; exact aSum_z zi2
      have t1 := aTake_i (by rw [← hs1]; exact zi1 : (aTake T 10 s).1 = 0)
      have t3 := aTake_i (by rw [← hs3]; exact zi3 : (aTake T 30 s2).1 = 0)
      have t5 := aTake_i (by rw [← hs5]; exact zi5 : (aTake T 11 s4).1 = 0)
      have t7 := aTake_i (by rw [← hs7]; exact zi : (aTake T 12 s6).1 = 0)
      rw [← hs1] at t1
      rw [← hs3] at t3
      rw [← hs5] at t5
      rw [← hs7] at t7
      obtain ⟨b1, b2, o1⟩ := cExpr hd hT hP hN a1 zi1 (cTake hC hP 10) (by omega) (by rw [← hs2]; exact zi2)
      rw [← hs2] at b2
      have l1 : (c ++ aCo T s1).length = c.length + (aCo T s1).length := List.length_append
      obtain ⟨b3, b4, o2⟩ := cExpr hd hT hP hN a3 zi3 (cTake b1 hP 30) (by rw [l1]; omega) (by rw [← hs4]; exact zi4)
      rw [← hs4] at b4
      have l2 : (c ++ aCo T s1 ++ aCo T s3).length = c.length + (aCo T s1).length + (aCo T s3).length := by rw [List.length_append, l1]
      have b5 := cTake b3 hP 11
      have p5 := (a5.2.2.2 zi5).1
      rw [vtt a5]
      have b6 := cStep b5 (by rw [l2]; omega) 6 0 e60 e00
      have a6 := vStep a5 6 0
      have a7 := vSumZ hd hT a6
      rw [← hs6] at a7
      have l3 : (c ++ aCo T s1 ++ aCo T s3 ++ [((6 : Int), (0 : Int))]).length = c.length + (aCo T s1).length + (aCo T s3).length + 1 := by rw [List.length_append, l2]; rfl
      obtain ⟨b7, b8, o3⟩ := cExpr hd hT hP hN a6 zi5 b6 (by rw [l3]; omega) (by rw [← hs6]; exact zi6)
      rw [← hs6] at b8
      have a8 := vTake' hd hT a7 12 12 (by decide) (by decide)
      rw [← hs7] at a8
      rw [vtt a8]
      have p7 := (a8.2.2.2 zi).1
      have l4 : (c ++ aCo T s1 ++ aCo T s3 ++ [((6 : Int), (0 : Int))] ++ aCo T s5).length = c.length + (aCo T s1).length + (aCo T s3).length + 1 + (aCo T s5).length := by rw [List.length_append, l3]
      have b9 := cStep (cTake b7 hP 12) (by rw [l4]; omega) 7 0 e70 e00
      have a9 := vStep a8 7 0
      rw [vtt a9]
      have ass : c ++ aCo T s1 ++ aCo T s3 ++ [((6 : Int), (0 : Int))] ++ aCo T s5 ++ [((7 : Int), (0 : Int))] = (c ++ aCo T s1 ++ aCo T s3) ++ (6, 0) :: (aCo T s5 ++ [(7, 0)]) := by simp only [List.append_assoc, List.cons_append, List.nil_append]
      have l5 : (c ++ aCo T s1 ++ aCo T s3 ++ [((6 : Int), (0 : Int))] ++ aCo T s5 ++ [((7 : Int), (0 : Int))]).length = c.length + (aCo T s1).length + (aCo T s3).length + (aCo T s5).length + 2 := by
        rw [List.length_append, l4]
        show _ + 1 = _
        omega
      have v47 := b5.2.1
      have v62 := b9.2.1
      rw [l5] at v62
      rw [ass] at b9
      have b10 := cSet (t := ((c.length + (aCo T s1).length + (aCo T s3).length + (aCo T s5).length + 2 : Nat) : Int)) b9 (by rw [v47]; omega) (by rw [v62]; omega) (by rw [l2]; omega)
      have l6 : ((c ++ aCo T s1 ++ aCo T s3) ++ (6, ((c.length + (aCo T s1).length + (aCo T s3).length + (aCo T s5).length + 2 : Nat) : Int)) :: (aCo T s5 ++ [(7, 0)])).length = c.length + (aCo T s1).length + (aCo T s3).length + (aCo T s5).length + 2 := by
        rw [List.length_append, l2, List.length_cons, List.length_append]
        show _ + (_ + 1 + 1) = _
        omega
      have g10 := fun x y : Int32 => fv x y _ (fa 7 0 _ (ft 12 _ (fs _ (fa 6 0 _ (ft 11 _ (fs _ (ft 30 _ (fs _ (ft 10 _ hg)))))))))
      obtain ⟨τ', w1, w2, w3, w4, w5⟩ := ih (x + (1 : Int32)) (j + 1) _ s7 _ (zp1 hx (by omega)) (by omega) (by omega) (vSetV a9 _ _) (g10 _ _) b10 (by rw [l6]; omega) k (by omega) (by rw [show ((j + 1 : Nat) : Int) = (j : Int) + 1 by omega]; exact hw)
      rw [l6] at w3 w4
      rw [show ((j + 1 : Nat) : Int) = (j : Int) + 1 by omega] at w3 w4 w5
      have eB : c ++ cBr c.length ((some (aCo T s1, aCo T s3), aCo T s5) :: aLb T k ((j : Int) + 1) s7) = (c ++ aCo T s1 ++ aCo T s3) ++ (6, ((c.length + (aCo T s1).length + (aCo T s3).length + (aCo T s5).length + 2 : Nat) : Int)) :: (aCo T s5 ++ [(7, 0)]) ++ cBr (c.length + (aCo T s1).length + (aCo T s3).length + (aCo T s5).length + 2) (aLb T k ((j : Int) + 1) s7) := by
        rw [cBr]
        simp only [List.append_assoc, List.cons_append, List.nil_append]
      rw [eB]
      exact ⟨τ', w1, w2, w3, w4, o1, o2, o3, w5⟩
    · have r3 := (h.2.2.2 cs).2.2.1
      have nc : ¬ ((j : Int) ≤ 4 ∧ s.1 = 0 ∧ T.1 s.2.2.1 = 10) := fun z => c1 (by rw [r3]; exact z.2.2)
      rw [if_neg nc] at hw
      rw [if_neg c1, if_neg nc, if_neg nc]
      exact fin hw
end LAWC
