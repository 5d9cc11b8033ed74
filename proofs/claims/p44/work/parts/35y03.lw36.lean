/-! MONTHS GO BY ON BOTH SIDES -/
theorem stir_e (x y : Int32) : F_X9_stirred x y = F_X11_mixed x y := by
  unfold F_X9_stirred F_X11_mixed
  simp only [zlt]
/-- storms alike -/
def zSo (q Y : Nat → Nat) (b : Nat) (s1 s2 : zS) : Prop := s1.1 (q 3) 10 = s2.1 (Y 26) b ∧ s1.1 (q 3) 11 = s2.1 (Y 27) b ∧ 0 ≤ (s1.1 (q 3) 11).toInt ∧ (s1.1 (q 3) 11).toInt ≤ 99
section MONTHS
variable {q Y : Nat → Nat} {a b N : Nat} {R : Nat → Nat → Option Nat} {s1 s2 t1 t2 z1 z2 τ : zS} {g : zGl} {m v : Int32} {u l : Nat → Nat}
theorem zSo.fr (h : zQr q s1.2.2) (h2 : zYm Y a s2.2.2) (So : zSo q Y b s1 s2) (f1 : zFr (zGw q) s1 t1) (f2 : zFr (zHw Y a) s2 t2) : zSo q Y b t1 t2 := by
  unfold zSo
  rw [zGw.r h f1 (i := 3) (by decide) (by omega), zHw.r h2 f2 (j := 26) (by unfold zYj; omega) (by decide), zHw.r h2 f2 (j := 27) (by unfold zYj; omega) (by decide)]
  exact So
theorem stormEq (h : zYm Y a s2.2.2) (h18 : (s2.1 a 18).toInt = b) {x w : Int32} {t : Nat} (h10 : s1.1 t 10 = s2.1 (Y 26) b) (hx : x = s2.1 a 50) (hw : w = s2.1 (Y 49) 48) : F_X9_isStorm t x w s1 = (F_X11_isStorm a s2, s1) := by
  have g49 := (h.1 49 (by unfold zYj; omega)).1
  have g26 := (h.1 26 (by unfold zYj; omega)).1
  have w48 : (48 : Int32).toNatClampNeg = 48 := by decide
  have n18 : (s2.1 a 18).toNatClampNeg = b := by rw [ztn, h18]; rfl
  have e7 : (if (1 : Int32).toInt ≤ (100 : Int32).toInt then (100 : Int32) else 1) = 100 := by decide
  unfold F_X9_isStorm F_X9_lot F_X11_isStorm
  simp only [zlt, stir_e, e7, g49, w48, g26, n18, h10, hx, hw]
  split <;> rfl
theorem zDn.up1 (h : zQr q s1.2.2) (Dn : zDn q Y N s1 s2) (f : zFr (zRw q) s1 t1) : zDn q Y N t1 s2 := by
  unfold zDn
  rw [zRw.r h f (i := 20) (by decide) (by omega), zRw.r h f (i := 21) (by decide) (by omega), zRw.r h f (i := 4) (by decide) (by omega)]
  exact Dn
theorem zDn.up2 (h : zYm Y a s2.2.2) (Dn : zDn q Y N s1 s2) (f : zFr (zVw Y a) s2 t2) : zDn q Y N s1 t2 := by
  unfold zDn
  rw [zVw.r h f (j := 49) (by unfold zYj; omega) (by decide)]
  exact Dn
/-- a month of rain m: behind it all stands alike -/
theorem zSd.month (S : zSd q Y a b N g u l s1 s2) (Dn : zDn q Y N s1 s2) (hm : 0 ≤ m.toInt ∧ m.toInt ≤ 99) (hG : F_X11_monthGoes a s2 = mTail a (F_X11_fillsFlows a m s2)) (f1 : zFr (zRw q) s1 t1) (hF : ∀ p, p < N → t1.1 (q 6) p = (F_X11_fillsFlows a m s2).1 (Y 55) p) : zSd q Y a b N g u l (F_X5_endMonth (q 0) t1) (F_X11_monthGoes a s2) ∧ zDn q Y N (F_X5_endMonth (q 0) t1) (F_X11_monthGoes a s2) ∧ zFr (zGw q) s1 (F_X5_endMonth (q 0) t1) ∧ zFr (zHw Y a) s2 (F_X11_monthGoes a s2) ∧ (F_X11_monthGoes a s2).1 a 51 = s2.1 a 51 ∧ (F_X11_monthGoes a s2).1 a 50 = s2.1 a 50 ∧ ((F_X11_monthGoes a s2).1 a 56).toInt = wnM q N u s1 g (fun p => t1.1 (q 6) p) ∧ ((F_X5_endMonth (q 0) t1).1 (q 21) 0 = s1.1 (q 21) 0 ∧ (F_X11_monthGoes a s2).1 (Y 49) 36 = s2.1 (Y 49) 36) ∧ ∀ p, p < N → (F_X5_fall (q 0) 0 (F_X5_endMonth (q 0) t1)).1 (q 6) p = (F_X11_monthGoes a s2).1 (Y 55) p ∧ (F_X5_fall (q 0) 0 (F_X5_endMonth (q 0) t1)).1 (q 6) p = (F_X11_fillsFlows a 0 (F_X11_monthGoes a s2)).1 (Y 55) p := by
  have z0 : (0 : Int32).toInt = 0 := by decide
  have hY : zYm Y a s2.2.2 := S.2.1.1
  have W := (S.fall Dn hm zFr.id zFr.id).2.1
  obtain ⟨τ, y1, y2, y3, y4, y5, y6, y7, y8, y9⟩ := S.endM Dn f1 W hF
  have hQ' : zQr q (F_X5_endMonth (q 0) t1).2.2 := y2.1.1
  have hY' : zYm Y a τ.2.2 := y2.2.1.1
  have L := y2.fall y3 (m := 0) (by rw [z0]; omega) zFr.id zFr.id
  rw [hG, y1]
  have L2 := y2.fall y3 (m := 0) (by rw [z0]; omega) zFr.id L.2.1
  have e50 : τ.1 a 50 = s2.1 a 50 := zHw.fl hY y5 (by decide)
  refine ⟨y2.fr zFr.id (zVw.up L.2.1), y3.up2 hY' L.2.1, y4, y5.tr (zVw.up L.2.1), ?_, ?_, ?_, ⟨y8, ?_⟩, fun p hp => ⟨L.2.2.1 p hp, L2.2.2.1 p hp⟩⟩
  · rw [zVw.fl hY' L.2.1 (by decide)]; exact y6
  · rw [zVw.fl hY' L.2.1 (by decide)]; exact e50
  · rw [zVw.fl hY' L.2.1 (by decide)]; exact y7
  · rw [zVw.r hY' L.2.1 (j := 49) (by unfold zYj; omega) (by decide)]; exact y9
/-- going through months: what holds at each -/
def zMb (q Y : Nat → Nat) (a b N : Nat) (g : zGl) (u l : Nat → Nat) (v : Int32) (s1 s2 t1 t2 : zS) : Prop := zSd q Y a b N g u l t1 t2 ∧ zDn q Y N t1 t2 ∧ (0 < N → zSo q Y b t1 t2) ∧ (t2.1 a 51).toInt = 0 ∧ (0 < N → t2.1 a 50 = v) ∧ zFr (zGw q) s1 t1 ∧ zFr (zHw Y a) s2 t2 ∧ (t1.1 (q 21) 0 = s1.1 (q 21) 0 ∧ t2.1 (Y 49) 36 = s2.1 (Y 49) 36) ∧ ∀ p, p < N → (F_X5_fall (q 0) 0 t1).1 (q 6) p = t2.1 (Y 55) p
theorem zMb.step (hN : 0 < N) (M : zMb q Y a b N g u l v s1 s2 t1 t2) : ∃ m, (F_X9_isStorm (q 3) v (t1.1 (q 4) 4) t1).2 = t1 ∧ m = (if (F_X9_isStorm (q 3) v (t1.1 (q 4) 4) t1).1.toInt = 0 then (0 : Int32) else t1.1 (q 3) 11) ∧ zMb q Y a b N g u l v s1 s2 (F_X5_endMonth (q 0) (F_X5_fall (q 0) m t1)) (F_X11_monthGoes a t2) := by
  obtain ⟨S, Dn, So, h51, h50, f1, f2, ⟨o1, o2⟩, -⟩ := M
  have So := So hN
  have h50 := h50 hN
  have z0 : (0 : Int32).toInt = 0 := by decide
  have hY : zYm Y a t2.2.2 := S.2.1.1
  have hQ : zQr q t1.2.2 := S.1.1
  have h18 := S.2.1.2.1
  have g27 := (hY.1 27 (by unfold zYj; omega)).1
  have n18 : (t2.1 a 18).toNatClampNeg = b := by rw [ztn, h18]; rfl
  have eS := stormEq (s1 := t1) (t := q 3) (x := v) (w := t1.1 (q 4) 4) hY h18 So.1 h50.symm Dn.2.1
  obtain ⟨m, hm⟩ : ∃ m, m = (if (F_X9_isStorm (q 3) v (t1.1 (q 4) 4) t1).1.toInt = 0 then (0 : Int32) else t1.1 (q 3) 11) := ⟨_, rfl⟩
  have hm' := hm
  rw [eS] at hm'
  have bm : 0 ≤ m.toInt ∧ m.toInt ≤ 99 := by
    rw [hm']
    split
    · rw [z0]; omega
    · exact So.2.2
  have hG : F_X11_monthGoes a t2 = mTail a (F_X11_fillsFlows a m t2) := by
    rw [mMon_e, if_pos h51, hm', g27, n18]
    by_cases c : (F_X11_isStorm a t2).toInt = 0
    · rw [if_pos c, if_pos c]
    · rw [if_neg c, if_neg c, So.2.1]
  have W := S.fall Dn bm zFr.id zFr.id
  obtain ⟨x1, x2, x3, x4, x5, x6, -, ⟨x9, x10⟩, x8⟩ := S.month Dn bm hG W.1 W.2.2.1
  refine ⟨m, by rw [eS], hm, x1, x2, fun _ => So.fr hQ hY x3 x4, by rw [x5]; exact h51, fun _ => by rw [x6]; exact h50, f1.tr x3, f2.tr x4, ⟨x9.trans o1, x10.trans o2⟩, fun p hp => (x8 p hp).1⟩
theorem zMb.go (hN : 0 < N) {p : Int32} {T : Nat} (hp : p.toInt = T) (hT : T < 4000) : ∀ (d n n' : Nat) (x : Int32) (i : Nat) (t1 t2 : zS), x.toInt = i → i + d = T → d < n → d < n' → zMb q Y a b N g u l v s1 s2 t1 t2 → zMb q Y a b N g u l v s1 s2 (F_X5_goThrough_9 (q 0) (q 3) (q 4) p v n x t1) (F_X11_goes_2 a p n' x t2) := by
  intro d
  induction d with
  | zero =>
    intro n n' x i t1 t2 hx hi hn hn' M
    obtain ⟨n, rfl⟩ : ∃ k, n = k + 1 := ⟨n - 1, by omega⟩
    obtain ⟨n', rfl⟩ : ∃ k, n' = k + 1 := ⟨n' - 1, by omega⟩
    rw [F_X5_goThrough_9, F_X11_goes_2, if_neg (by omega), if_neg (by omega)]
    exact M
  | succ d ih =>
    intro n n' x i t1 t2 hx hi hn hn' M
    obtain ⟨n, rfl⟩ : ∃ k, n = k + 1 := ⟨n - 1, by omega⟩
    obtain ⟨n', rfl⟩ : ∃ k, n' = k + 1 := ⟨n' - 1, by omega⟩
    obtain ⟨m, e1, e2, e3⟩ := M.step hN
    obtain ⟨w, hw⟩ : ∃ w, w = F_X9_isStorm (q 3) v (t1.1 (q 4) 4) t1 := ⟨_, rfl⟩
    rw [F_X5_goThrough_9, F_X11_goes_2, if_pos (by omega), if_pos (by omega)]
    simp only [zlt, zlt2]
    rw [← hw] at e1 e2 ⊢
    have R := ih n n' (x + (1 : Int32)) (i + 1) _ _ (zp1 hx (by omega)) (by omega) (by omega) (by omega) e3
    by_cases c : w.1.toInt = 0
    · rw [if_pos c] at e2 ⊢
      rw [e1]
      rw [e2] at R
      exact R
    · rw [if_neg c] at e2 ⊢
      rw [e1]
      rw [e2] at R
      exact R
/-- still months: flows at hand -/
def zMh (q Y : Nat → Nat) (a b N : Nat) (g : zGl) (u l : Nat → Nat) (s1 s2 t1 t2 : zS) : Prop := zSd q Y a b N g u l t1 t2 ∧ zDn q Y N t1 t2 ∧ ¬ (t2.1 a 51).toInt = 0 ∧ zFr (zGw q) s1 t1 ∧ zFr (zHw Y a) s2 t2 ∧ ∀ p, p < N → t1.1 (q 6) p = t2.1 (Y 55) p ∧ t1.1 (q 6) p = (F_X11_fillsFlows a 0 t2).1 (Y 55) p
theorem zMh.up (M : zMh q Y a b N g u l s1 s2 t1 t2) (f1 : zFr (zRw q) t1 z1) (e1 : z1.1 (q 6) = t1.1 (q 6)) (f2 : zFr (zVw Y a) t2 z2) (e2 : z2.1 (Y 55) = t2.1 (Y 55)) : zMh q Y a b N g u l s1 s2 z1 z2 := by
  obtain ⟨S, Dn, h51, g1, g2, hF⟩ := M
  have z0 : (0 : Int32).toInt = 0 := by decide
  have hY : zYm Y a t2.2.2 := S.2.1.1
  have hQ : zQr q t1.2.2 := S.1.1
  have L := S.fall Dn (m := 0) (by rw [z0]; omega) zFr.id zFr.id
  have L2 := S.fall Dn (m := 0) (by rw [z0]; omega) zFr.id f2
  refine ⟨S.fr (zRw.up f1) (zVw.up f2), (Dn.up1 hQ f1).up2 hY f2, by rw [zVw.fl hY f2 (by decide)]; exact h51, g1.tr (zRw.up f1), g2.tr (zVw.up f2), fun p hp => ?_⟩
  rw [e1, e2]
  exact ⟨(hF p hp).1, by rw [(hF p hp).2, ← L.2.2.1 p hp, L2.2.2.1 p hp]⟩
theorem zMh.step (M : zMh q Y a b N g u l s1 s2 t1 t2) : zMh q Y a b N g u l s1 s2 (F_X5_goOn (q 0) t1) (F_X11_monthGoes a t2) ∧ ((F_X11_monthGoes a t2).1 a 56).toInt = wnM q N u t1 g (fun p => t1.1 (q 6) p) := by
  obtain ⟨S, Dn, h51, g1, g2, hF⟩ := M
  have z0 : (0 : Int32).toInt = 0 := by decide
  have hG : F_X11_monthGoes a t2 = mTail a (F_X11_fillsFlows a 0 t2) := by rw [mMon_e, if_neg h51]
  obtain ⟨x1, x2, x3, x4, x5, x6, x7, -, x8⟩ := S.month Dn (m := 0) (by rw [z0]; omega) hG zFr.id (fun p hp => (hF p hp).2)
  have e : F_X5_goOn (q 0) t1 = F_X5_fall (q 0) 0 (F_X5_endMonth (q 0) t1) := by
    unfold F_X5_goOn
    simp only [zlt]
  have L := x1.fall x2 (m := 0) (by rw [z0]; omega) zFr.id zFr.id
  rw [e]
  exact ⟨⟨x1.fr (zRw.up L.1) zFr.id, x2.up1 x1.1.1 L.1, by rw [x5]; exact h51, g1.tr (x3.tr (zRw.up L.1)), g2.tr x4, x8⟩, x7⟩
end MONTHS
