/-! CLAIMS AND WINNERS -/
noncomputable def sB (N : Nat) (u : Nat → Nat) (p : Nat) : Bool := @decide (Src N u p) (Classical.propDecidable _)
theorem sB_t {N p : Nat} {u : Nat → Nat} : sB N u p = true ↔ Src N u p := by
  unfold sB
  exact @decide_eq_true_iff _ (Classical.propDecidable _)
/-- the first with the greatest claim, but for one; -2: nobody -/
def wn (S : Nat → Bool) (C : Nat → Int32) (but : Int) : Nat → Int
  | 0 => -2
  | p + 1 => if (S p && (!decide ((p : Int) = but) && (decide (wn S C but p < 0) || decide ((C (wn S C but p).toNat).toInt < (C p).toInt)))) = true then (p : Int) else wn S C but p
section WN
variable {S : Nat → Bool} {C C' : Nat → Int32} {but : Int} {p : Nat}
theorem wn_r : ∀ i, wn S C but i = -2 ∨ ∃ p : Nat, p < i ∧ wn S C but i = p ∧ S p = true ∧ (p : Int) ≠ but := by
  intro i
  induction i with
  | zero => exact Or.inl rfl
  | succ i ih =>
    rw [wn]
    split
    · next c =>
      simp only [Bool.and_eq_true, Bool.not_eq_true', decide_eq_false_iff_not] at c
      exact Or.inr ⟨i, by omega, rfl, c.1, c.2.1⟩
    · rcases ih with ih | ⟨p, p1, p2, p3⟩
      · exact Or.inl ih
      · exact Or.inr ⟨p, by omega, p2, p3⟩
theorem wn_y (h1 : S p = true) (h2 : (p : Int) ≠ but) (h3 : wn S C but p < 0 ∨ (C (wn S C but p).toNat).toInt < (C p).toInt) : wn S C but (p + 1) = p := by
  rw [wn, if_pos]
  simp only [Bool.and_eq_true, Bool.not_eq_true', decide_eq_false_iff_not, Bool.or_eq_true, decide_eq_true_eq]
  exact ⟨h1, h2, h3⟩
theorem wn_n (h : ¬ (S p = true ∧ (p : Int) ≠ but ∧ (wn S C but p < 0 ∨ (C (wn S C but p).toNat).toInt < (C p).toInt))) : wn S C but (p + 1) = wn S C but p := by
  rw [wn, if_neg]
  simp only [Bool.and_eq_true, Bool.not_eq_true', decide_eq_false_iff_not, Bool.or_eq_true, decide_eq_true_eq]
  exact h
theorem wn_cg : ∀ i, (∀ p, p < i → S p = true → C' p = C p) → wn S C' but i = wn S C but i := by
  intro i
  induction i with
  | zero => intro _; rfl
  | succ i ih =>
    intro h
    have q := ih (fun p hp => h p (by omega))
    have r := wn_r (S := S) (C := C) (but := but) i
    by_cases s : S i = true
    · have ci := h i (by omega) s
      by_cases z : (i : Int) ≠ but ∧ (wn S C but i < 0 ∨ (C (wn S C but i).toNat).toInt < (C i).toInt)
      · rw [wn_y s z.1 z.2, wn_y s z.1]
        rw [q, ci]
        rcases z.2 with z2 | z2
        · exact Or.inl z2
        · rcases r with r | ⟨p, p1, p2, p3, -⟩
          · exact Or.inl (by omega)
          · right
            rw [h (wn S C but i).toNat (by omega) (by rw [p2]; exact p3)]
            exact z2
      · rw [wn_n (fun w => z w.2), wn_n, q]
        rw [q, ci]
        rintro ⟨-, w1, w2⟩
        refine z ⟨w1, ?_⟩
        rcases w2 with w2 | w2
        · exact Or.inl w2
        · rcases r with r | ⟨p, p1, p2, p3, -⟩
          · exact Or.inl (by omega)
          · right
            rw [h (wn S C but i).toNat (by omega) (by rw [p2]; exact p3)] at w2
            exact w2
    · rw [wn_n (fun w => s w.1), wn_n (fun w => s w.1), q]
theorem wn_1 (h : S 0 = false) : wn S C but 1 = -2 := by
  rw [wn_n (fun z => by rw [h] at z; exact absurd z.1 (by decide))]
  rfl
end WN
/-- what a place claims by a law -/
noncomputable def clC (q : Nat → Nat) (s : zS) (g : zGl) (w p : Nat) (f : Int32) : Int32 := F_X10_held (vCl q s g (2 + w) p f) 0 99999
noncomputable def clM (Y : Nat → Nat) (b : Nat) (s : zS) (g : zGl) (w p : Nat) (f : Int32) : Int32 := F_X11_within (vMl Y b s g (2 + w) p f) 0 99999
section WINC
variable {q : Nat → Nat} {R : Nat → Nat → Option Nat} {s t τ : zS} {g : zGl} {N : Nat} {u : Nat → Nat} {k : Int32} {w : Nat}
theorem cIsR (h : zQr q s.2.2) (f : zFr (zRw q) s τ) {x : Int32} : F_X6_isSource (q 1) x τ = ((F_X6_isSource (q 1) x s).1, τ) := by
  obtain ⟨-, -, -, ⟨-, -, g18⟩, -⟩ := id h.1
  have r0 : τ.1 (q 1) 0 = s.1 (q 1) 0 := congrFun (zRw.r h f (by decide) (by omega)) 0
  have r18 : τ.1 (q 18) = s.1 (q 18) := zRw.r h f (by decide) (by omega)
  unfold F_X6_isSource
  simp only [zlt, f.rf, g18, r0, r18]
  (repeat' split) <;> rfl
theorem cClaim (h : zQr q s.2.2) (hg : zL5 q s g) (f : zFr (zRw q) s t) (hk : k.toInt = w) (hw : w < 3) {x : Int32} {p : Nat} (hp : x.toInt = p) : ∃ τ, F_X5_claimOf (q 0) x k t = (clC q s g w p (t.1 (q 6) p), τ) ∧ zFr (zTw q) t τ := by
  obtain ⟨⟨-, -, -, -, -, g6, -⟩, -⟩ := id h.1
  have e2' : (2 : Int32).toInt = 2 := by decide
  have hk2 : ((2 : Int32) + k).toInt = ((2 + w : Nat) : Int) := by rw [zb_add (by rw [e2']; omega) (by rw [e2']; omega), e2', hk]; omega
  have rt : t.2.2 = s.2.2 := f.rf
  have nx : x.toNatClampNeg = p := by rw [ztn, hp]; rfl
  obtain ⟨τ, e1, e2⟩ := cTellsR (k := (2 : Int32) + k) (y := t.1 (q 6) p) (w := 2 + w) h hg f hk2 (by omega) hp
  refine ⟨τ, ?_, e2⟩
  unfold F_X5_claimOf
  simp only [↓zlt, ↓zlt2, rt, g6, nx, e1]
  rfl
theorem cWeighL (h : zQr q s.2.2) (hg : 0 < N → zL5 q s g) (h0 : (s.1 (q 1) 0).toInt = N) (hN : N ≤ 12) (hI : ∀ x : Int32, (F_X6_isSource (q 1) x s).1.toInt = 0 ↔ ¬ (0 ≤ x.toInt ∧ Src N u x.toInt.toNat)) (hk : k.toInt = w) (hw : w < 3) (F : Nat → Int32) : ∀ (n : Nat) (x : Int32) (i : Nat) (τ : zS), x.toInt = i → 1 ≤ i → 13 - i < n → zFr (zRw q) s τ → (∀ p, p < N → τ.1 (q 6) p = F p) → (∀ p, 1 ≤ p → p < i → p < N → Src N u p → τ.1 (q 7) p = clC q s g w p (F p)) → zFr (zRw q) s (F_X5_weigh_2 (q 0) k n x τ) ∧ zFr (fun c _ => c = q 7 ∨ c = q 8 ∨ c = q 9) τ (F_X5_weigh_2 (q 0) k n x τ) ∧ ∀ p, 1 ≤ p → p < N → Src N u p → (F_X5_weigh_2 (q 0) k n x τ).1 (q 7) p = clC q s g w p (F p) := by
  obtain ⟨⟨g1, -, -, -, -, g6, g7⟩, -⟩ := id h.1
  intro n
  induction n with
  | zero => intro x i τ _ _ h; exact absurd h (by omega)
  | succ n ih =>
    intro x i τ hx hi hn f hF hc
    have rt : τ.2.2 = s.2.2 := f.rf
    have t0 : (τ.1 (q 1) 0).toInt = N := by rw [congrFun (zRw.r h f (i := 1) (by decide) (by omega)) 0]; exact h0
    have nx : x.toNatClampNeg = i := by rw [ztn, hx]; rfl
    rw [F_X5_weigh_2]
    simp only [↓zlt, ↓zlt2, rt, g1, g7, cIsR h f]
    by_cases c : i < N
    · have cx : x.toInt < (τ.1 (q 1) 0).toInt := by omega
      rw [if_pos cx]
      have nI := hI x
      rw [show x.toInt.toNat = i by omega] at nI
      by_cases sx : Src N u i
      · have cz : ¬ (F_X6_isSource (q 1) x s).1.toInt = 0 := fun z => (nI.mp z) ⟨by omega, sx⟩
        rw [if_neg cz]
        obtain ⟨t, e1, e2⟩ := cClaim h (hg (by omega)) f hk hw hx
        rw [e1, nx, hF i c]
        have f2 := f.tr (zTw.up e2)
        have f3 : zFr (fun c _ => c = q 7 ∨ c = q 8 ∨ c = q 9) τ (zu t.1 (q 7) i (clC q s g w i (F i)), t.2.1, t.2.2) := (zFr.up e2 (fun c j z => Or.inr z)).w (Or.inl rfl)
        obtain ⟨a1, a2, a3⟩ := ih _ (i + 1) (zu t.1 (q 7) i (clC q s g w i (F i)), t.2.1, t.2.2) (zp1 hx (by omega)) (by omega) (by omega) (f2.w (Or.inr (Or.inr (Or.inl rfl)))) (fun p hp => by
          rw [f3.2 (q 6) p (by
            rintro (z | z | z)
            · exact h.n (by decide) (by decide) (by decide) z
            · exact h.n (by decide) (by decide) (by decide) z
            · exact h.n (by decide) (by decide) (by decide) z)]
          exact hF p hp) (fun p p1 p2 p3 p4 => by
          show zu t.1 (q 7) i _ (q 7) p = _
          by_cases e : p = i
          · rw [e, zu_s]
          · rw [zu_j _ _ _ _ _ (fun z => e z.symm), e2.2 (q 7) p (by
              rintro (z | z)
              · exact h.n (by decide) (by decide) (by decide) z
              · exact h.n (by decide) (by decide) (by decide) z)]
            exact hc p p1 (by omega) p3 p4)
        exact ⟨a1, f3.tr a2, a3⟩
      · have cz : (F_X6_isSource (q 1) x s).1.toInt = 0 := nI.mpr (fun z => sx z.2)
        rw [if_pos cz, nx]
        have f3 : zFr (fun c _ => c = q 7 ∨ c = q 8 ∨ c = q 9) τ (zu τ.1 (q 7) i (-1), τ.2.1, s.2.2) := by
          have z := (zFr.id (A := fun c _ => c = q 7 ∨ c = q 8 ∨ c = q 9) (σ := τ)).w (r := q 7) (j := i) (v := (-1 : Int32)) (Or.inl rfl)
          rw [rt] at z
          exact z
        have f4 : zFr (zRw q) s (zu τ.1 (q 7) i (-1), τ.2.1, s.2.2) := by
          have z := f.w (r := q 7) (j := i) (v := (-1 : Int32)) (Or.inr (Or.inr (Or.inl rfl)))
          rw [rt] at z
          exact z
        obtain ⟨a1, a2, a3⟩ := ih _ (i + 1) (zu τ.1 (q 7) i (-1), τ.2.1, s.2.2) (zp1 hx (by omega)) (by omega) (by omega) f4 (fun p hp => by
          rw [f3.2 (q 6) p (by
            rintro (z | z | z)
            · exact h.n (by decide) (by decide) (by decide) z
            · exact h.n (by decide) (by decide) (by decide) z
            · exact h.n (by decide) (by decide) (by decide) z)]
          exact hF p hp) (fun p p1 p2 p3 p4 => by
          show zu τ.1 (q 7) i _ (q 7) p = _
          have e : p ≠ i := fun z => sx (by rw [← z]; exact p4)
          rw [zu_j _ _ _ _ _ (fun z => e z.symm)]
          exact hc p p1 (by omega) p3 p4)
        exact ⟨a1, f3.tr a2, a3⟩
    · have cx : ¬ x.toInt < (τ.1 (q 1) 0).toInt := by omega
      rw [if_neg cx]
      exact ⟨f, zFr.id, fun p p1 p2 p3 => hc p p1 (by omega) p2 p3⟩
theorem cWeigh (h : zQr q s.2.2) (hg : 0 < N → zL5 q s g) (h0 : (s.1 (q 1) 0).toInt = N) (hN : N ≤ 12) (hI : ∀ x : Int32, (F_X6_isSource (q 1) x s).1.toInt = 0 ↔ ¬ (0 ≤ x.toInt ∧ Src N u x.toInt.toNat)) (hk : k.toInt = w) (hw : w < 3) {F : Nat → Int32} (f : zFr (zRw q) s t) (hF : ∀ p, p < N → t.1 (q 6) p = F p) : zFr (zRw q) s (F_X5_weigh (q 0) k t) ∧ zFr (fun c _ => c = q 7 ∨ c = q 8 ∨ c = q 9) t (F_X5_weigh (q 0) k t) ∧ ∀ p, 1 ≤ p → p < N → Src N u p → (F_X5_weigh (q 0) k t).1 (q 7) p = clC q s g w p (F p) := by
  unfold F_X5_weigh
  simp only [zlt]
  exact cWeighL h hg h0 hN hI hk hw F 10000 1 1 t (by decide) (by omega) (by omega) f hF (fun p p1 p2 => absurd p2 (by omega))
theorem cGreatL (h : zQr q s.2.2) (h0 : (s.1 (q 1) 0).toInt = N) (hN : N ≤ 12) (hI : ∀ x : Int32, (F_X6_isSource (q 1) x s).1.toInt = 0 ↔ ¬ (0 ≤ x.toInt ∧ Src N u x.toInt.toNat)) (f : zFr (zRw q) s t) {but : Int32} : ∀ (n : Nat) (x y : Int32) (i : Nat), x.toInt = i → 1 ≤ i → (i ≤ N ∨ i = 1) → 13 - i < n → y.toInt = wn (sB N u) (fun p => t.1 (q 7) p) but.toInt i → ∃ v, F_X5_greatestClaim_5 (q 0) but n x y t = (v, t) ∧ v.toInt = wn (sB N u) (fun p => t.1 (q 7) p) but.toInt (if 1 ≤ N then N else 1) := by
  obtain ⟨⟨g1, -, -, -, -, g6, g7⟩, -⟩ := id h.1
  have rt : t.2.2 = s.2.2 := f.rf
  have t0 : (t.1 (q 1) 0).toInt = N := by rw [congrFun (zRw.r h f (i := 1) (by decide) (by omega)) 0]; exact h0
  intro n
  induction n with
  | zero => intro x y i _ _ _ h; exact absurd h (by omega)
  | succ n ih =>
    intro x y i hx hi hi2 hn hy
    have nx : x.toNatClampNeg = i := by rw [ztn, hx]; rfl
    have nI := hI x
    rw [show x.toInt.toNat = i by omega] at nI
    rw [F_X5_greatestClaim_5]
    simp only [↓zlt, ↓zlt2, rt, g1, g7, cIsR h f, nx]
    by_cases c : i < N
    · have cx : x.toInt < (t.1 (q 1) 0).toInt := by omega
      rw [if_pos cx]
      have go : ∀ z : Int32, z.toInt = wn (sB N u) (fun p => t.1 (q 7) p) but.toInt (i + 1) → ∃ v, F_X5_greatestClaim_5 (q 0) but n (x + (1 : Int32)) z t = (v, t) ∧ v.toInt = wn (sB N u) (fun p => t.1 (q 7) p) but.toInt (if 1 ≤ N then N else 1) := fun z hz => ih _ z (i + 1) (zp1 hx (by omega)) (by omega) (by omega) (by omega) hz
      by_cases cb : x.toInt = but.toInt
      · rw [if_pos cb]
        exact go y (by rw [wn_n (fun z => z.2.1 (by omega))]; exact hy)
      · rw [if_neg cb]
        by_cases sx : Src N u i
        · have cz : ¬ (F_X6_isSource (q 1) x s).1.toInt = 0 := fun z => (nI.mp z) ⟨by omega, sx⟩
          rw [if_neg cz]
          have ny : y.toNatClampNeg = (wn (sB N u) (fun p => t.1 (q 7) p) but.toInt i).toNat := by rw [ztn, hy]
          by_cases c0 : y.toInt < 0
          · rw [if_pos c0]
            exact go x (by rw [wn_y (sB_t.mpr sx) (by omega) (Or.inl (by omega))]; exact hx)
          · rw [if_neg c0, ny]
            by_cases c1 : (t.1 (q 7) (wn (sB N u) (fun p => t.1 (q 7) p) but.toInt i).toNat).toInt < (t.1 (q 7) i).toInt
            · rw [if_pos c1]
              exact go x (by rw [wn_y (sB_t.mpr sx) (by omega) (Or.inr c1)]; exact hx)
            · rw [if_neg c1]
              exact go y (by rw [wn_n (fun z => z.2.2.elim (fun w => by omega) c1)]; exact hy)
        · have cz : (F_X6_isSource (q 1) x s).1.toInt = 0 := nI.mpr (fun z => sx z.2)
          rw [if_pos cz]
          exact go y (by rw [wn_n (fun z => sx (sB_t.mp z.1))]; exact hy)
    · have cx : ¬ x.toInt < (t.1 (q 1) 0).toInt := by omega
      rw [if_neg cx]
      refine ⟨y, rfl, ?_⟩
      rw [hy]
      congr 1
      split <;> omega
theorem sB_0 : sB N u 0 = false := by
  cases e : sB N u 0 with
  | false => rfl
  | true => exact absurd (sB_t.mp e).1 (by omega)
/-- at most N: as for N ≥ 1 -/
theorem wn_N {C : Nat → Int32} {but : Int} : wn (sB N u) C but (if 1 ≤ N then N else 1) = wn (sB N u) C but N := by
  by_cases c : 1 ≤ N
  · rw [if_pos c]
  · rw [if_neg c, wn_1 sB_0, show N = 0 by omega]
    rfl
theorem cGreat (h : zQr q s.2.2) (h0 : (s.1 (q 1) 0).toInt = N) (hN : N ≤ 12) (hI : ∀ x : Int32, (F_X6_isSource (q 1) x s).1.toInt = 0 ↔ ¬ (0 ≤ x.toInt ∧ Src N u x.toInt.toNat)) (f : zFr (zRw q) s t) (but : Int32) : ∃ v, F_X5_greatestClaim (q 0) but t = (v, t) ∧ v.toInt = wn (sB N u) (fun p => t.1 (q 7) p) but.toInt N := by
  unfold F_X5_greatestClaim
  simp only [zlt]
  obtain ⟨v, e1, e2⟩ := cGreatL (but := but) h h0 hN hI f 10000 1 (-2) 1 (by decide) (by omega) (Or.inr rfl) (by omega) (by rw [wn_1 sB_0]; decide)
  exact ⟨v, e1, e2.trans wn_N⟩
/-- who wins, to the class -/
theorem cWin (h : zQr q s.2.2) (hg : 0 < N → zL5 q s g) (h0 : (s.1 (q 1) 0).toInt = N) (hN : N ≤ 12) (hI : ∀ x : Int32, (F_X6_isSource (q 1) x s).1.toInt = 0 ↔ ¬ (0 ≤ x.toInt ∧ Src N u x.toInt.toNat)) (hk : k.toInt = w) (hw : w < 3) {F : Nat → Int32} (f : zFr (zRw q) s t) (hF : ∀ p, p < N → t.1 (q 6) p = F p) : ∃ v τ, F_X5_winnerBy (q 0) k t = (v, τ) ∧ v.toInt = wn (sB N u) (fun p => clC q s g w p (F p)) (-1) N ∧ zFr (zRw q) s τ ∧ zFr (fun c _ => c = q 7 ∨ c = q 8 ∨ c = q 9) t τ ∧ ∀ p, 1 ≤ p → p < N → Src N u p → τ.1 (q 7) p = clC q s g w p (F p) := by
  obtain ⟨a1, a2, a3⟩ := cWeigh h hg h0 hN hI hk hw f hF
  obtain ⟨v, e1, e2⟩ := cGreat h h0 hN hI a1 (-1)
  refine ⟨v, F_X5_weigh (q 0) k t, ?_, ?_, a1, a2, a3⟩
  · unfold F_X5_winnerBy
    simp only [zlt, zlt2, e1]
  · rw [e2, show ((-1 : Int32)).toInt = -1 from by decide]
    exact wn_cg N (fun p hp sp => a3 p (sB_t.mp sp).1 hp (sB_t.mp sp))
end WINC
section WINM
variable {a b : Nat} {Y : Nat → Nat} {R : Nat → Nat → Option Nat} {s t τ : zS} {g : zGl} {N : Nat} {u : Nat → Nat} {k : Int32} {w : Nat}
theorem mIsR (h : zYm Y a s.2.2) (f : zFr (zVw Y a) s τ) {x : Int32} : F_X11_isSource a x τ = F_X11_isSource a x s := by
  have g54 := (h.1 54 (by unfold zYj; omega)).1
  have r54 : τ.1 (Y 54) = s.1 (Y 54) := zVw.r h f (by unfold zYj; omega) (by decide)
  unfold F_X11_isSource F_X11_isBeside
  simp only [zlt, f.rf, g54, r54, mMany_w h f]
theorem mClaimW (h : zYm Y a s.2.2) (h18 : (s.1 a 18).toInt = b) (hb : b ≤ 1) (hg : zW5 Y b s g) (f : zFr (zVw Y a) s t) (hk : k.toInt = w) (hw : w < 3) {p : Int32} {P : Nat} (hp : p.toInt = P) (hP : P < 12) : ∃ τ, F_X11_claimOf a p k t = (clM Y b s g w P (t.1 (Y 55) P), τ) ∧ zFr (zUw Y a) t τ := by
  obtain ⟨a1, a2, a3, a4⟩ := zVw.all h h18 hg f
  obtain ⟨τ, e1, e2⟩ := mClaimOf a1 a2 hb a3 hp hP hk hw
  refine ⟨τ, ?_, e2⟩
  rw [e1, a4, pI_e hp]
  rfl
theorem mWinL (h : zYm Y a s.2.2) (h18 : (s.1 a 18).toInt = b) (hb : b ≤ 1) (hg : 0 < N → zW5 Y b s g) (hM : (F_X11_many a s).toInt = N) (hN : N ≤ 12) (hI : ∀ x : Int32, (F_X11_isSource a x s).toInt = 0 ↔ ¬ (0 ≤ x.toInt ∧ Src N u x.toInt.toNat)) (hk : k.toInt = w) (hw : w < 3) (F : Nat → Int32) : ∀ (n : Nat) (x y z : Int32) (i : Nat) (τ : zS), x.toInt = i → 1 ≤ i → (i ≤ N ∨ i = 1) → 13 - i < n → zFr (zVw Y a) s τ → (∀ p, p < N → τ.1 (Y 55) p = F p) → z.toInt = wn (sB N u) (fun p => clM Y b s g w p (F p)) (-1) i → (0 ≤ z.toInt → y = clM Y b s g w z.toInt.toNat (F z.toInt.toNat)) → ∃ v τ', F_X11_winnerBy_8 a k n x y z τ = (v, τ') ∧ v.toInt = wn (sB N u) (fun p => clM Y b s g w p (F p)) (-1) (if 1 ≤ N then N else 1) ∧ zFr (zVw Y a) s τ' ∧ zFr (zUw Y a) τ τ' := by
  intro n
  induction n with
  | zero => intro x y z i τ _ _ _ h; exact absurd h (by omega)
  | succ n ih =>
    intro x y z i τ hx hi hi2 hn f hF hz hy
    have M : (F_X11_many a τ).toInt = N := by rw [mMany_w h f]; exact hM
    have nI := hI x
    rw [show x.toInt.toNat = i by omega] at nI
    rw [F_X11_winnerBy_8]
    simp only [↓zlt, ↓zlt2, mIsR h f]
    by_cases c : i < N
    · have cx : x.toInt < (F_X11_many a τ).toInt := by omega
      rw [if_pos cx]
      by_cases sx : Src N u i
      · have cz : ¬ (F_X11_isSource a x s).toInt = 0 := fun z => (nI.mp z) ⟨by omega, sx⟩
        rw [if_neg cz]
        obtain ⟨t, e1, e2⟩ := mClaimW h h18 hb (hg (by omega)) f hk hw hx (by omega)
        rw [e1, hF i c]
        have f2 := f.tr (zUw.up e2)
        have hF2 : ∀ p, p < N → t.1 (Y 55) p = F p := fun p hp => by rw [zUw.r55 h e2]; exact hF p hp
        have go : ∀ y' z' : Int32, z'.toInt = wn (sB N u) (fun p => clM Y b s g w p (F p)) (-1) (i + 1) → (0 ≤ z'.toInt → y' = clM Y b s g w z'.toInt.toNat (F z'.toInt.toNat)) → ∃ v τ', F_X11_winnerBy_8 a k n (x + (1 : Int32)) y' z' t = (v, τ') ∧ v.toInt = wn (sB N u) (fun p => clM Y b s g w p (F p)) (-1) (if 1 ≤ N then N else 1) ∧ zFr (zVw Y a) s τ' ∧ zFr (zUw Y a) τ τ' := fun y' z' q1 q2 => by
          obtain ⟨v, τ', r1, r2, r3, r4⟩ := ih _ y' z' (i + 1) t (zp1 hx (by omega)) (by omega) (by omega) (by omega) f2 hF2 q1 q2
          exact ⟨v, τ', r1, r2, r3, e2.tr r4⟩
        have new : ∀ (_ : z.toInt < 0 ∨ y.toInt < (clM Y b s g w i (F i)).toInt), ∃ v τ', F_X11_winnerBy_8 a k n (x + (1 : Int32)) (clM Y b s g w i (F i)) x t = (v, τ') ∧ v.toInt = wn (sB N u) (fun p => clM Y b s g w p (F p)) (-1) (if 1 ≤ N then N else 1) ∧ zFr (zVw Y a) s τ' ∧ zFr (zUw Y a) τ τ' := fun d => go _ x (by
            rw [wn_y (sB_t.mpr sx) (by omega) (by
              rcases d with d | d
              · exact Or.inl (by omega)
              · by_cases z0 : z.toInt < 0
                · exact Or.inl (by omega)
                · right
                  rw [hy (by omega)] at d
                  rw [← hz]
                  exact d)]
            exact hx) (fun _ => by rw [show x.toInt.toNat = i by omega])
        by_cases c0 : z.toInt < 0
        · rw [if_pos c0]
          exact new (Or.inl c0)
        · rw [if_neg c0]
          by_cases c1 : y.toInt < (clM Y b s g w i (F i)).toInt
          · rw [if_pos c1]
            exact new (Or.inr c1)
          · rw [if_neg c1]
            refine go y z ?_ hy
            rw [wn_n (fun q => q.2.2.elim (fun w => by omega) (fun d => c1 (by rw [hy (by omega), hz]; exact d)))]
            exact hz
      · have cz : (F_X11_isSource a x s).toInt = 0 := nI.mpr (fun z => sx z.2)
        rw [if_pos cz]
        exact ih _ y z (i + 1) τ (zp1 hx (by omega)) (by omega) (by omega) (by omega) f hF (by rw [wn_n (fun q => sx (sB_t.mp q.1))]; exact hz) hy
    · have cx : ¬ x.toInt < (F_X11_many a τ).toInt := by omega
      rw [if_neg cx]
      refine ⟨z, τ, rfl, ?_, f, zFr.id⟩
      rw [hz]
      congr 1
      split <;> omega
/-- who wins, to the reference -/
theorem mWin (h : zYm Y a s.2.2) (h18 : (s.1 a 18).toInt = b) (hb : b ≤ 1) (hg : 0 < N → zW5 Y b s g) (hM : (F_X11_many a s).toInt = N) (hN : N ≤ 12) (hI : ∀ x : Int32, (F_X11_isSource a x s).toInt = 0 ↔ ¬ (0 ≤ x.toInt ∧ Src N u x.toInt.toNat)) (hk : k.toInt = w) (hw : w < 3) {F : Nat → Int32} (f : zFr (zVw Y a) s t) (hF : ∀ p, p < N → t.1 (Y 55) p = F p) : ∃ v τ, F_X11_winnerBy a k t = (v, τ) ∧ v.toInt = wn (sB N u) (fun p => clM Y b s g w p (F p)) (-1) N ∧ zFr (zVw Y a) s τ ∧ zFr (zUw Y a) t τ := by
  unfold F_X11_winnerBy
  simp only [zlt]
  obtain ⟨v, τ, e1, e2, e3, e4⟩ := mWinL h h18 hb hg hM hN hI hk hw F 10000 1 0 (-2) 1 t (by decide) (by omega) (Or.inr rfl) (by omega) f hF (by rw [wn_1 sB_0]; decide) (fun z => absurd z (by decide))
  exact ⟨v, τ, e1, e2.trans wn_N, e3, e4⟩
end WINM
section WINB
variable {q Y : Nat → Nat} {b N w : Nat} {s1 s2 : zS} {g : zGl} {D : Int32} {u : Nat → Nat} {F G : Nat → Int32}
theorem clEq (E : zEq q Y b N D s1 s2) {p : Nat} {f : Int32} (hp : p < N) : clC q s1 g w p f = clM Y b s2 g w p f := by
  unfold clC clM
  rw [vEq E hp, held_e (by decide)]
theorem wnEq (E : zEq q Y b N D s1 s2) (h : ∀ p, p < N → F p = G p) {but : Int} : wn (sB N u) (fun p => clC q s1 g w p (F p)) but N = wn (sB N u) (fun p => clM Y b s2 g w p (G p)) but N := wn_cg N (fun p hp _ => by
  show clC q s1 g w p (F p) = clM Y b s2 g w p (G p)
  rw [clEq E hp, h p hp])
end WINB
