-- 35x40.rel25
section
/-! A PLACE TOLD, the reference's side: what is written in the end -/
noncomputable def mPEnd (a : Nat) (x : Int32) (t : zS) : zS :=
  if 0 < (t.1 a 13).toInt then t else
    if (zu t.1 a 42 (t.1 a 42 + (1 : Int32)) a 41).toInt = 0 then (zu t.1 a 42 (t.1 a 42 + (1 : Int32)), zu t.2.1 ((t.2.2 a 20).getD 0) (zu t.1 a 42 (t.1 a 42 + (1 : Int32)) a 42).toNatClampNeg (t.2.1 ((t.2.2 a 8).getD 0) x.toNatClampNeg), t.2.2)
    else (zu (zu t.1 a 42 (t.1 a 42 + (1 : Int32))) ((t.2.2 a 21).getD 0) (zu t.1 a 42 (t.1 a 42 + (1 : Int32)) a 19).toNatClampNeg (zu t.1 a 42 (t.1 a 42 + (1 : Int32)) a 42 + (1 : Int32)), zu t.2.1 ((t.2.2 a 20).getD 0) (zu t.1 a 42 (t.1 a 42 + (1 : Int32)) a 42).toNatClampNeg (t.2.1 ((t.2.2 a 8).getD 0) x.toNatClampNeg), t.2.2)
theorem mPl_e {a iv : Nat} {x v23 x1 x2 x3 : Int32} {τ τ1 t0 t1 t2 t3 : zS} (p1 : F_X11_named a τ = (x, τ1)) (p2 : F_X11_must a 1 τ1 = t0) (h0 : ¬ 0 < (t0.1 a 13).toInt) (hv : F_X11_numberOf a (τ1.1 a 11) t0 = v23) (hiv : ((12 : Int32) * τ.1 a 19 + τ.1 a 42 + (1 : Int32)).toNatClampNeg = iv) (hn : ¬ v23.toInt < 0) (b1 : F_X11_bounded a 1 99 (zu t0.1 ((t0.2.2 a 22).getD 0) iv v23, t0.2.1, t0.2.2) = (x1, t1)) (d1 : F_X11_bounded a 0 99 (zu t1.1 ((t0.2.2 a 23).getD 0) iv x1, t1.2.1, t1.2.2) = (x2, t2)) (g1 : F_X11_bounded a 0 99 (zu t2.1 ((t1.2.2 a 24).getD 0) iv x2, t2.2.1, t2.2.2) = (x3, t3)) : F_X11_tellPlace a τ = mPEnd a x (F_X11_must a 4 (zu t3.1 ((t2.2.2 a 25).getD 0) iv x3, t3.2.1, t3.2.2)) := by
  unfold F_X11_tellPlace
  simp only [zlt, zlt2, p1, p2, hv, hiv, zu_s, b1, d1, g1]
  rw [if_neg h0, if_neg hn]
  unfold mPEnd
  simp only [zu_s]
theorem mPEnd_fi {a : Nat} {x : Int32} {t : zS} (h : ¬ 0 < (t.1 a 13).toInt) : zFi (fun c _ => c = a ∨ c = (t.2.2 a 21).getD 0) t (mPEnd a x t) := by
  have K1 : zFi (fun c _ => c = a ∨ c = (t.2.2 a 21).getD 0) t (zu t.1 a 42 (t.1 a 42 + (1 : Int32)), t.2.1, t.2.2) := zFi.id.w (Or.inl rfl)
  unfold mPEnd
  rw [if_neg h]
  split
  · exact K1
  · exact K1.w (Or.inr rfl)
section RTG3
variable {a k q v nm nO m b : Nat} {T : zTn} {τ τ' : zS} {s s' : zA} {Y : Nat → Nat} {g : zGa}
/-- while no fault is there: how many places, the mouth's row, the others' -/
def zXg (Y : Nat → Nat) (b : Nat) (τ : zS) (s : zA) (g : zGa) : Prop := s.1 = 0 → s.2.2.2.1 = 0 → (τ.1 (Y 21) b).toInt = (if s.2.2.2.2.2.1 = 0 then 0 else 1 + s.2.2.2.2.2.2.1) ∧ (s.2.2.2.2.2.1 ≠ 0 → (τ.1 (Y 23) (12 * b)).toInt = 0 ∧ (τ.1 (Y 24) (12 * b)).toInt = 0 ∧ (τ.1 (Y 25) (12 * b)).toInt = 0) ∧ ∀ p : Nat, 1 ≤ p → (p : Int) ≤ s.2.2.2.2.2.2.1 → (τ.1 (Y 22) (12 * b + p)).toInt = (g p).1 ∧ (τ.1 (Y 23) (12 * b + p)).toInt = (g p).2.1 ∧ (τ.1 (Y 24) (12 * b + p)).toInt = (g p).2.2.1 ∧ (τ.1 (Y 25) (12 * b + p)).toInt = (g p).2.2.2
def aF (a : Nat) : Nat → Nat → Prop := fun c j => c = a ∧ j ≠ 19
theorem aF.c {t t' : zS} (h : zFi (aF a) t t') : zFi (fun c _ => c = a) t t' := h.up (fun _ _ z => z.1)
theorem aF.sv {t t' : zS} (h : zFi (aF a) t t') : t'.1 a 19 = t.1 a 19 := h.2 _ _ (fun z => z.2 rfl)
set_option maxHeartbeats 1000000 in
theorem xPlaceG (hd : zWd a k q v nm nO) (hT : zTm T m) (hK : zTK T m) (h : zXo a k q v nm nO m T τ s) (h11 : s.1 = 0 → s.2.2.2.2.2.2.1 < 11) (hY : zYz Y a τ.2.2) (hb : (τ.1 a 19).toInt = b) (hb1 : b ≤ 1) (hg : zXg Y b τ s g) : zXg Y b (F_X11_tellPlace a τ) (aTake T 24 (if (aPlace2 T s).1 = 0 ∧ (aPlace2 T s).2.2.2.2.2.2.1 < 11 then aSetP (aPlace2 T s) (T.2.1 s.2.2.1) else aPlace2 T s)) (fun p : Nat => if (p : Int) = s.2.2.2.2.2.2.1 + 1 then aVals T s else g p) := by
  intro hq l
  have q21 : zQs 21 := by unfold zQs; omega
  have q22 : zQs 22 := by unfold zQs; omega
  have q23 : zQs 23 := by unfold zQs; omega
  have q24 : zQs 24 := by unfold zQs; omega
  have q25 : zQs 25 := by unfold zQs; omega
  have e12 : (12 : Int32).toInt = 12 := by decide
  have e1 : (1 : Int32).toInt = 1 := by decide
  have z2 : (aPlace2 T s).1 = 0 := by
    have := (aTake_i hq).1
    split at this
    · next c => exact c.1
    · exact this
  have w := aPlace2_i z2
  have l11 : (aPlace2 T s).2.2.2.2.2.2.1 < 11 := by rw [w.2.2]; exact h11 w.1
  have hc0 : (aPlace2 T s).1 = 0 ∧ (aPlace2 T s).2.2.2.2.2.2.1 < 11 := ⟨z2, l11⟩
  rw [if_pos hc0] at hq l ⊢
  have cnt : (aPlace2 T s).2.2.2.2.2.2.1 = s.2.2.2.2.2.2.1 := congrArg (fun z => z.2.1) w.2.2
  have mou : (aPlace2 T s).2.2.2.2.2.1 = s.2.2.2.2.2.1 := congrArg (fun z => z.1) w.2.2
  have i4 := (aTake_i hq).2.2.2
  have sC : (aTake T 24 (aSetP (aPlace2 T s) (T.2.1 s.2.2.1))).2.2.2.2.2.2.1 = s.2.2.2.2.2.2.1 + 1 := (congrArg (fun z => z.2.2.2.1) i4).trans (congrArg (fun z => z + 1) cnt)
  have sM : (aTake T 24 (aSetP (aPlace2 T s) (T.2.1 s.2.2.1))).2.2.2.2.2.1 = s.2.2.2.2.2.1 := (congrArg (fun z => z.2.2.1) i4).trans mou
  have l2 : (aPlace2 T s).2.2.2.1 = 0 := by rw [aTake_l] at l; exact l
  have q24t : (aTake T 24 (aPlace2 T s)).1 = 0 := by
    have i := aTake_i hq
    have c4 := aTake_400 hq
    rw [aTake_1 (s := aPlace2 T s) z2 i.2.1 c4]
    exact z2
  obtain ⟨z4, -, -⟩ := aNumb_i (lo := 0) (hi := 99) z2
  obtain ⟨z3, -, -⟩ := aNumb_i z4
  obtain ⟨zk, -, -⟩ := aNumb_i z3
  obtain ⟨zn, k22, -⟩ := aKnown_i zk
  have l4 := aNumb_l (lo := 0) (hi := 99) z4 l2
  have l3 := aNumb_l z3 l4
  have l1 := aNumb_l zk l3
  obtain ⟨l0, c5⟩ := aKnown_l zn l1 k22
  have lS := aNew_l w.1 l0
  obtain ⟨g1, g2, g3⟩ := hg w.1 lS
  obtain ⟨x, τ1, p1, p2, p3⟩ := xNamed hd hT hK h
  have p4 := xMust hd hT hK p2 1 22 (by decide) (by decide)
  have c : (aTake T 22 (aNew T s)).1 = 0 := by
    have : aKnown T (aNew T s) = aTake T 22 (aNew T s) := by
      unfold aKnown
      rw [if_neg (fun z => c5 z.2.2)]
    rw [← this]
    exact zk
  obtain ⟨c1, c2, c3, c4⟩ := aTake_i c
  have r1 := p2.1.2.2.2.2 c1
  have en := wNum p4.1 c (τ1.1 a 11) (aNew T s).2.2.1 r1.2.1 (T.2.1 (aNew T s).2.2.1).1 (T.2.1 (aNew T s).2.2.1).2 (hT.2.2 _ r1.1 c2) (p4.1.1.2.1 _ r1.1).2.2.2
  have en2 : aNum (aTake T 22 (aNew T s)) (T.2.1 (aNew T s).2.2.1).1 = aNum (aNew T s) (T.2.1 (aNew T s).2.2.1).1 := by
    unfold aNum
    rw [c4]
  rw [en2] at en
  have nn := aNum_nn (aNew T s) (T.2.1 (aNew T s).2.2.1).1
  have r0 := h.1.2.2.2.2 w.1
  obtain ⟨-, -, -, -, -, -, r42, r10, -⟩ := r0
  have em : ((12 : Int32) * τ.1 a 19).toInt = 12 * b := by rw [zb_mul (by rw [e12, hb]; omega) (by rw [e12, hb]; omega), e12, hb]
  have e42 : ((12 : Int32) * τ.1 a 19 + τ.1 a 42).toInt = 12 * b + s.2.2.2.2.2.2.1 := by rw [zb_add (by rw [em, r42]; omega) (by rw [em, r42]; omega), em, r42]
  have ev : ((12 : Int32) * τ.1 a 19 + τ.1 a 42 + (1 : Int32)).toNatClampNeg = 12 * b + (s.2.2.2.2.2.2.1 + 1).toNat := by rw [ztn, zb_add (by rw [e42, e1]; omega) (by rw [e42, e1]; omega), e42, e1]; omega
  obtain ⟨iv, hiv⟩ : ∃ iv, iv = 12 * b + (s.2.2.2.2.2.2.1 + 1).toNat := ⟨_, rfl⟩
  rw [← hiv] at ev
  obtain ⟨t0, ht0⟩ : ∃ t0, F_X11_must a 1 τ1 = t0 := ⟨_, rfl⟩
  rw [ht0] at p4 en
  obtain ⟨v23, hv⟩ : ∃ v23, F_X11_numberOf a (τ1.1 a 11) t0 = v23 := ⟨_, rfl⟩
  rw [hv] at en
  have h0 : ¬ 0 < (t0.1 a 13).toInt := by rw [p4.1.2.1, c]; decide
  have hn : ¬ v23.toInt < 0 := by rw [en]; omega
  have a22 := xArr p4 22 iv v23 q22
  have hk : zXo a k q v nm nO m T (zu t0.1 ((t0.2.2 a 22).getD 0) iv v23, t0.2.1, t0.2.2) (aKnown T (aNew T s)) := by
    unfold aKnown
    rw [if_neg (show ¬ ((aNew T s).1 = 0 ∧ T.1 (aNew T s).2.2.1 = 22 ∧ aNum (aNew T s) (T.2.1 (aNew T s).2.2.1).1 = -1) from fun z => c5 z.2.2)]
    exact a22
  obtain ⟨x1, t1, b1, b2⟩ := xBound hd hT hK hk 1 99 1 99 (by decide) (by decide)
  have v1 := xBoundV hT hk 1 99 z3
  have a1 := xArrB hk b2 23 iv x1 q23
  obtain ⟨x2, t2, d1, d2⟩ := xBound hd hT hK a1 0 99 0 99 (by decide) (by decide)
  have v2 := xBoundV hT a1 0 99 z4
  have a2 := xArrB a1 d2 24 iv x2 q24
  obtain ⟨x3, t3, f1, f2⟩ := xBound hd hT hK a2 0 99 0 99 (by decide) (by decide)
  have v3 := xBoundV hT a2 0 99 z2
  have a3 := xArrB a2 f2 25 iv x3 q25
  rw [b1] at v1
  rw [d1] at v2
  rw [f1] at v3
  have p6 := xMust hd hT hK a3 4 24 (by decide) (by decide)
  have E := mPl_e p1 ht0 h0 hv ev hn b1 d1 f1
  obtain ⟨t6, h6⟩ : ∃ t6, t6 = F_X11_must a 4 (zu t3.1 ((t2.2.2 a 25).getD 0) iv x3, t3.2.1, t3.2.2) := ⟨_, rfl⟩
  have p6' : zXo a k q v nm nO m T t6 (aTake T 24 (aPlace2 T s)) := by rw [h6]; exact p6
  rw [← h6] at E
  have A0 : zFi (aF a) τ τ1 := (fi_X11_named zFi.id ⟨rfl, by decide⟩ ⟨rfl, by decide⟩ ⟨rfl, by decide⟩ ⟨rfl, by decide⟩ ⟨rfl, by decide⟩).of p1.symm
  have A1 : zFi (aF a) τ t0 := by rw [← ht0]; exact fi_X11_must A0 ⟨rfl, by decide⟩ ⟨rfl, by decide⟩ ⟨rfl, by decide⟩
  have y : ∀ (t : zS), t.2.2 = τ.2.2 → ∀ j, zQs j → (t.2.2 a j).getD 0 = Y j := fun t e j hj => by rw [e]; exact (hY.1 j hj).1
  have B1 : zFi (aF a) (zu t0.1 ((t0.2.2 a 22).getD 0) iv v23, t0.2.1, t0.2.2) t1 := (fi_X11_bounded zFi.id ⟨rfl, by decide⟩ ⟨rfl, by decide⟩ ⟨rfl, by decide⟩ ⟨rfl, by decide⟩ ⟨rfl, by decide⟩).of b1.symm
  have rt1 : t1.2.2 = τ.2.2 := B1.1.trans A1.1
  have B2 : zFi (aF a) (zu t1.1 ((t0.2.2 a 23).getD 0) iv x1, t1.2.1, t1.2.2) t2 := (fi_X11_bounded zFi.id ⟨rfl, by decide⟩ ⟨rfl, by decide⟩ ⟨rfl, by decide⟩ ⟨rfl, by decide⟩ ⟨rfl, by decide⟩).of d1.symm
  have rt2 : t2.2.2 = τ.2.2 := B2.1.trans rt1
  have B3 : zFi (aF a) (zu t2.1 ((t1.2.2 a 24).getD 0) iv x2, t2.2.1, t2.2.2) t3 := (fi_X11_bounded zFi.id ⟨rfl, by decide⟩ ⟨rfl, by decide⟩ ⟨rfl, by decide⟩ ⟨rfl, by decide⟩ ⟨rfl, by decide⟩).of f1.symm
  have rt3 : t3.2.2 = τ.2.2 := B3.1.trans rt2
  have B4 : zFi (aF a) (zu t3.1 ((t2.2.2 a 25).getD 0) iv x3, t3.2.1, t3.2.2) t6 := by rw [h6]; exact fi_X11_must zFi.id ⟨rfl, by decide⟩ ⟨rfl, by decide⟩ ⟨rfl, by decide⟩
  have rt6 : t6.2.2 = τ.2.2 := B4.1.trans rt3
  rw [y t0 A1.1 22 q22] at B1
  rw [y t0 A1.1 23 q23] at B2
  rw [y t1 rt1 24 q24] at B3
  rw [y t2 rt2 25 q25] at B4
  have h13 : ¬ 0 < (t6.1 a 13).toInt := by rw [p6'.1.2.1, q24t]; decide
  have s1 := hY.n.1
  have s2 := hY.n.2
  have n19 : ∀ (f : Nat → Nat → Int32) (r i : Nat) (z : Int32), r ≠ a → zu f r i z a 19 = f a 19 := fun f r i z hr => by rw [zu_n _ _ _ (fun e => hr e.symm)]
  have k19 : t6.1 a 19 = τ.1 a 19 := by
    rw [aF.sv B4]
    show zu t3.1 (Y 25) iv x3 a 19 = _
    rw [n19 _ _ _ _ (s2 25 (by decide) (by decide)), aF.sv B3]
    show zu t2.1 (Y 24) iv x2 a 19 = _
    rw [n19 _ _ _ _ (s2 24 (by decide) (by decide)), aF.sv B2]
    show zu t1.1 (Y 23) iv x1 a 19 = _
    rw [n19 _ _ _ _ (s2 23 (by decide) (by decide)), aF.sv B1]
    show zu t0.1 (Y 22) iv v23 a 19 = _
    rw [n19 _ _ _ _ (s2 22 (by decide) (by decide)), aF.sv A1]
  have K := mPEnd_fi (x := x) h13
  rw [y t6 rt6 21 q21] at K
  have rows := fun i => xRows (i := i) s1 s2 (aF.c A1) (aF.c B1) (aF.c B2) (aF.c B3) (aF.c B4) K
  obtain ⟨-, -, -, -, -, t41, t42, -, -⟩ := p6'.1.2.2.2.2 q24t
  have k4 := (aTake_i q24t).2.2.2
  have t41' : (t6.1 a 41).toInt = s.2.2.2.2.2.1 := t41.trans ((congrArg (fun z => z.2.2.1) k4).trans mou)
  have t42' : (t6.1 a 42).toInt = s.2.2.2.2.2.2.1 := t42.trans ((congrArg (fun z => z.2.2.2.1) k4).trans cnt)
  rw [E]
  refine ⟨?_, fun nm0 => ?_, fun p hp1 hp2 => ?_⟩
  · rw [sM, sC]
    have m21 := s2 21 (by decide) (by decide)
    have r21 := (rows 0).2.2.2.2
    unfold mPEnd
    rw [if_neg h13, zu_j _ _ _ _ _ (by decide : ¬ 42 = 41), t41']
    by_cases cm : s.2.2.2.2.2.1 = 0
    · rw [if_pos cm, if_pos cm]
      show (zu t6.1 a 42 _ (Y 21) b).toInt = 0
      rw [zu_n _ _ _ m21, r21, g1, if_pos cm]
    · rw [if_neg cm, if_neg cm]
      show (zu (zu t6.1 a 42 _) ((t6.2.2 a 21).getD 0) (zu t6.1 a 42 _ a 19).toNatClampNeg (zu t6.1 a 42 (t6.1 a 42 + (1 : Int32)) a 42 + (1 : Int32)) (Y 21) b).toInt = _
      rw [y t6 rt6 21 q21, zu_j _ _ _ _ _ (by decide : ¬ 42 = 19), k19, show (τ.1 a 19).toNatClampNeg = b by rw [ztn, hb]; rfl, zu_s, zu_s]
      have u1 : (t6.1 a 42 + (1 : Int32)).toInt = s.2.2.2.2.2.2.1 + 1 := by rw [zb_add (by rw [t42', e1]; omega) (by rw [t42', e1]; omega), t42', e1]
      rw [zb_add (by rw [u1, e1]; omega) (by rw [u1, e1]; omega), u1, e1]
      omega
  · rw [sM] at nm0
    obtain ⟨-, o2, o3, o4, -⟩ := rows (12 * b)
    rw [o2, o3, o4, if_neg (by omega), if_neg (by omega), if_neg (by omega)]
    exact g2 nm0
  · rw [sC] at hp2
    obtain ⟨o1, o2, o3, o4, -⟩ := rows (12 * b + p)
    rw [o1, o2, o3, o4]
    by_cases cp : (p : Int) = s.2.2.2.2.2.2.1 + 1
    · have ci : 12 * b + p = iv := (ivL r10.1 hiv).mp cp
      rw [if_pos ci, if_pos ci, if_pos ci, if_pos ci]
      simp only [if_pos cp]
      exact ⟨en, v1, v2, v3⟩
    · have ci : ¬ 12 * b + p = iv := fun z => cp ((ivL r10.1 hiv).mpr z)
      rw [if_neg ci, if_neg ci, if_neg ci, if_neg ci]
      simp only [if_neg cp]
      exact g3 p hp1 (ivM hp2 cp)
end RTG3
end
-- 35x41.rel26
section
section RTG4
variable {a k q v nm nO m b : Nat} {T : zTn} {τ τ' : zS} {s s' : zA} {Y : Nat → Nat} {g : zGa}
/-- rows and counts stay -/
theorem zXg.st (hg : zXg Y b τ s g) (hs : s'.1 = 0 → s.1 = 0) (hk : aK s.2.2.2.1 s.2.2.2.2.2.2.1 s') (hm : s'.1 = 0 → s'.2.2.2.2.2.1 = s.2.2.2.2.2.1) (hr : ∀ j, 21 ≤ j → j ≤ 25 → τ'.1 (Y j) = τ.1 (Y j)) : zXg Y b τ' s' g := by
  intro q l
  rw [hr 21 (by omega) (by omega), hr 22 (by omega) (by omega), hr 23 (by omega) (by omega), hr 24 (by omega) (by omega), hr 25 (by omega) (by omega), hm q, hk.2]
  exact hg (hs q) (hk.1 l)
theorem zXg.fl (h : (F_X11_tellOne a τ).1 a 13 = τ'.1 a 13) (h2 : zXo a k q v nm nO m T (F_X11_tellOne a τ) s') (h3 : 0 < (τ'.1 a 13).toInt) : zXg Y b (F_X11_tellOne a τ) s' g := fun z => by
  have := h2.1.2.1
  rw [h] at this
  omega
set_option maxHeartbeats 1000000 in
theorem xMouthG (hd : zWd a k q v nm nO) (hT : zTm T m) (hK : zTK T m) (h : zXo a k q v nm nO m T τ s) (hY : zYz Y a τ.2.2) (hb : (τ.1 a 19).toInt = b) (hb1 : b ≤ 1) (hm0 : s.1 = 0 → s.2.2.2.2.2.1 = 0) (hg : zXg Y b τ s g) : zXg Y b (F_X11_tellMouth a τ) (aTake T 24 (if (aNew T s).1 = 0 then aSetM (aNew T s) (T.2.1 s.2.2.1) else aNew T s)) g := by
  intro hq l
  have q21 : zQs 21 := by unfold zQs; omega
  have q22 : zQs 22 := by unfold zQs; omega
  have q23 : zQs 23 := by unfold zQs; omega
  have q24 : zQs 24 := by unfold zQs; omega
  have q25 : zQs 25 := by unfold zQs; omega
  have e0 : (0 : Int32).toInt = 0 := by decide
  have e12 : (12 : Int32).toInt = 12 := by decide
  have e1 : (1 : Int32).toInt = 1 := by decide
  have e0n : (0 : Int32).toNatClampNeg = 0 := by decide
  have cn : (aNew T s).1 = 0 := by
    have := (aTake_i hq).1
    split at this
    · next c => exact c
    · exact this
  rw [if_pos cn] at hq l ⊢
  have n0 := aNew_i cn
  have i4 := (aTake_i hq).2.2.2
  have sC : (aTake T 24 (aSetM (aNew T s) (T.2.1 s.2.2.1))).2.2.2.2.2.2.1 = s.2.2.2.2.2.2.1 := (congrArg (fun z => z.2.2.2.1) i4).trans (congrArg (fun z => z.2.1) n0.2.2.2)
  have sM : (aTake T 24 (aSetM (aNew T s) (T.2.1 s.2.2.1))).2.2.2.2.2.1 = 1 := congrArg (fun z => z.2.2.1) i4
  have ln : (aNew T s).2.2.2.1 = 0 := by rw [aTake_l] at l; exact l
  have lS := aNew_l n0.1 ln
  obtain ⟨g1, g2, g3⟩ := hg n0.1 lS
  obtain ⟨x, τ1, p1, p2, p3⟩ := xNamed hd hT hK h
  have p4 := xMust hd hT hK p2 4 24 (by decide) (by decide)
  have c : (aTake T 24 (aNew T s)).1 = 0 := by
    have i := aTake_i hq
    have c4 := aTake_400 hq
    rw [aTake_1 (s := aNew T s) cn i.2.1 c4]
    exact cn
  obtain ⟨t5, h5⟩ : ∃ t5, F_X11_must a 4 τ1 = t5 := ⟨_, rfl⟩
  rw [h5] at p4
  have h13 : ¬ 0 < (t5.1 a 13).toInt := by rw [p4.1.2.1, c]; decide
  have A0 : zFi (aF a) τ τ1 := (fi_X11_named zFi.id ⟨rfl, by decide⟩ ⟨rfl, by decide⟩ ⟨rfl, by decide⟩ ⟨rfl, by decide⟩ ⟨rfl, by decide⟩).of p1.symm
  have A1 : zFi (aF a) τ t5 := by rw [← h5]; exact fi_X11_must A0 ⟨rfl, by decide⟩ ⟨rfl, by decide⟩ ⟨rfl, by decide⟩
  have y : ∀ j, zQs j → (t5.2.2 a j).getD 0 = Y j := fun j hj => by rw [A1.1]; exact (hY.1 j hj).1
  have s1 := hY.n.1
  have s2 := hY.n.2
  obtain ⟨-, -, -, -, -, -, t42, t10, -⟩ := p4.1.2.2.2.2 c
  have t42' : (t5.1 a 42).toInt = s.2.2.2.2.2.2.1 := t42.trans ((congrArg (fun z => z.2.2.2.1) (aTake_i c).2.2.2).trans (congrArg (fun z => z.2.1) n0.2.2.2))
  have t10' : 0 ≤ s.2.2.2.2.2.2.1 ∧ s.2.2.2.2.2.2.1 ≤ 11 := by
    have := (h.1.2.2.2.2 n0.1).2.2.2.2.2.2.2.1
    exact this
  have k19 : t5.1 a 19 = τ.1 a 19 := aF.sv A1
  have n41 : ∀ (j : Nat) (z : Int32), j ≠ 41 → zu t5.1 a 41 z a j = t5.1 a j := fun j z hj => zu_j _ _ _ _ _ (fun e => hj e.symm)
  obtain ⟨f, hf⟩ : ∃ f, f = zu t5.1 a 41 (1 : Int32) := ⟨_, rfl⟩
  have fr : ∀ j, 21 ≤ j → j ≤ 25 → f (Y j) = τ.1 (Y j) := fun j j1 j2 => by
    rw [hf, zu_n _ _ _ (s2 j j1 j2)]
    exact funext (fun i => A1.2 _ _ (fun z => s2 j j1 j2 z.1))
  have ev : ((12 : Int32) * τ.1 a 19).toNatClampNeg = 12 * b := by rw [ztn, zb_mul (by rw [e12, hb]; omega) (by rw [e12, hb]; omega), e12, hb]; omega
  have f19 : f a 19 = τ.1 a 19 := by rw [hf, n41 _ _ (by decide), k19]
  have f42 : f a 42 = t5.1 a 42 := by rw [hf, n41 _ _ (by decide)]
  have ew : (τ.1 a 19).toNatClampNeg = b := by rw [ztn, hb]; rfl
  have m21 := s2 21 (by decide) (by decide)
  have m22 := s2 22 (by decide) (by decide)
  have m23 := s2 23 (by decide) (by decide)
  have m24 := s2 24 (by decide) (by decide)
  have m25 := s2 25 (by decide) (by decide)
  have na : ∀ (f : Nat → Nat → Int32) (r i j : Nat) (z : Int32), r ≠ a → zu f r i z a j = f a j := fun f r i j z hr => by rw [zu_n _ _ _ (fun e => hr e.symm)]
  have E : (F_X11_tellMouth a τ).1 = zu (zu (zu (zu (zu f (Y 22) (12 * b) (-2)) (Y 23) (12 * b) 0) (Y 24) (12 * b) 0) (Y 25) (12 * b) 0) (Y 21) b (t5.1 a 42 + (1 : Int32)) := by
    unfold F_X11_tellMouth
    simp only [zlt, zlt2, p1, h5, e0n]
    rw [if_neg h13]
    simp only [y 22 q22, y 23 q23, y 24 q24, y 25 q25, y 21 q21, ← hf, f19, ev, na _ _ _ _ _ m22, na _ _ _ _ _ m23, na _ _ _ _ _ m24, na _ _ _ _ _ m25, ew, f42]
  have d : ∀ i j, 21 ≤ i ∧ i ≤ 25 ∧ 21 ≤ j ∧ j ≤ 25 ∧ i ≠ j → Y i ≠ Y j := fun i j h => s1 i j h.1 h.2.1 h.2.2.1 h.2.2.2.1 h.2.2.2.2
  have o : ∀ (f : Nat → Nat → Int32) (r r' i j : Nat) (z : Int32), r ≠ r' → zu f r j z r' i = f r' i := fun f r r' i j z h => by rw [zu_n _ _ _ (fun e => h e.symm)]
  rw [E]
  refine ⟨?_, fun _ => ⟨?_, ?_, ?_⟩, fun p hp1 hp2 => ?_⟩
  · rw [sM, sC, if_neg (by decide), zu_s, zb_add (by rw [t42', e1]; omega) (by rw [t42', e1]; omega), t42', e1]
    omega
  · rw [o _ _ _ _ _ _ (d 21 23 (by decide)), o _ _ _ _ _ _ (d 25 23 (by decide)), o _ _ _ _ _ _ (d 24 23 (by decide)), zu_s]; exact e0
  · rw [o _ _ _ _ _ _ (d 21 24 (by decide)), o _ _ _ _ _ _ (d 25 24 (by decide)), zu_s]; exact e0
  · rw [o _ _ _ _ _ _ (d 21 25 (by decide)), zu_s]; exact e0
  · rw [sC] at hp2
    have np : ¬ 12 * b = 12 * b + p := by omega
    have j : ∀ (f : Nat → Nat → Int32) (r : Nat) (z : Int32), zu f r (12 * b) z r (12 * b + p) = f r (12 * b + p) := fun f r z => zu_j _ _ _ _ _ np
    rw [o _ _ _ _ _ _ (d 21 22 (by decide)), o _ _ _ _ _ _ (d 25 22 (by decide)), o _ _ _ _ _ _ (d 24 22 (by decide)), o _ _ _ _ _ _ (d 23 22 (by decide)), j, fr 22 (by decide) (by decide), o _ _ _ _ _ _ (d 21 23 (by decide)), o _ _ _ _ _ _ (d 25 23 (by decide)), o _ _ _ _ _ _ (d 24 23 (by decide)), j, o _ _ _ _ _ _ (d 22 23 (by decide)), fr 23 (by decide) (by decide), o _ _ _ _ _ _ (d 21 24 (by decide)), o _ _ _ _ _ _ (d 25 24 (by decide)), j, o _ _ _ _ _ _ (d 23 24 (by decide)), o _ _ _ _ _ _ (d 22 24 (by decide)), fr 24 (by decide) (by decide), o _ _ _ _ _ _ (d 21 25 (by decide)), j, o _ _ _ _ _ _ (d 24 25 (by decide)), o _ _ _ _ _ _ (d 23 25 (by decide)), o _ _ _ _ _ _ (d 22 25 (by decide)), fr 25 (by decide) (by decide)]
    exact g3 p hp1 hp2
end RTG4
end
-- 35x42.rel27
section
section RTG5
variable {a k q v nm nO m b : Nat} {T : zTn} {τ τ' : zS} {s s' : zA} {Y : Nat → Nat} {g : zGa}
/-- what a telling writes beside places' rows: numbers of its own, rows of other slots -/
def aFq (Y : Nat → Nat) (a : Nat) : Nat → Nat → Prop := fun c j => (c = a ∧ j ≠ 19 ∧ j ≠ 41 ∧ j ≠ 42) ∨ ∃ i, zQs i ∧ 26 ≤ i ∧ c = Y i
theorem aFq.r (hY : zYz Y a τ.2.2) {t t' : zS} (h : zFi (aFq Y a) t t') {j : Nat} (j1 : 21 ≤ j) (j2 : j ≤ 25) : t'.1 (Y j) = t.1 (Y j) := funext (fun i => h.2 _ _ (by
  rintro (z | ⟨i2, z1, z2, z3⟩)
  · exact hY.n.2 j j1 j2 z.1
  · exact hY.2 j i2 (by unfold zQs; omega) z1 (by omega) z3))
theorem aFq.on : zFi (aFq Y a) τ (F_X11_goesOn a τ) := fi_X11_goesOn zFi.id (Or.inl ⟨rfl, by decide⟩) (Or.inl ⟨rfl, by decide⟩) (Or.inl ⟨rfl, by decide⟩)
theorem aFq.mu {t : zS} (h : zFi (aFq Y a) τ t) (p : Int32) : zFi (aFq Y a) τ (F_X11_must a p t) := fi_X11_must h (Or.inl ⟨rfl, by decide⟩) (Or.inl ⟨rfl, by decide⟩) (Or.inl ⟨rfl, by decide⟩)
theorem aFq.b1 (hY : zYz Y a τ.2.2) {t : zS} (h : zFi (aFq Y a) τ t) {j : Nat} (hj : zQs j) (h26 : 26 ≤ j) (lo hi : Int32) : zFi (aFq Y a) τ (mB1 a j lo hi t) := by
  have e : (t.2.2 a j).getD 0 = Y j := by rw [h.1]; exact (hY.1 j hj).1
  have f : zFj (aFq Y a) τ (F_X11_bounded a lo hi t) := fi_X11_bounded h (Or.inl ⟨rfl, by decide⟩) (Or.inl ⟨rfl, by decide⟩) (Or.inl ⟨rfl, by decide⟩) (Or.inl ⟨rfl, by decide⟩) (Or.inl ⟨rfl, by decide⟩)
  unfold mB1
  rw [e]
  exact zFi.w (s := (F_X11_bounded a lo hi t).2) f (Or.inr ⟨j, hj, h26, rfl⟩)
theorem aFq.law (hY : zYz Y a τ.2.2) {t : zS} (h : zFi (aFq Y a) τ t) (p : Int32) : zFi (aFq Y a) τ (F_X11_tellLaw a p t) := by
  have r : ∀ j, zQs j → 26 ≤ j → ∀ i : Nat, aFq Y a ((τ.2.2 a j).getD 0) i := fun j hj h26 i => Or.inr ⟨j, hj, h26, (hY.1 j hj).1⟩
  have o : ∀ j, j ≠ 19 ∧ j ≠ 41 ∧ j ≠ 42 → aFq Y a a j := fun j hj => Or.inl ⟨rfl, hj⟩
  have q : ∀ j, (j = 30 ∨ j = 31 ∨ j = 33 ∨ j = 34 ∨ j = 35 ∨ j = 36 ∨ j = 37 ∨ j = 39 ∨ j = 40 ∨ j = 43) → zQs j := fun j hj => by unfold zQs; omega
  exact fi_X11_tellLaw h (o 13 (by decide)) (o 14 (by decide)) (o 11 (by decide)) (r 33 (q _ (by decide)) (by decide)) (r 36 (q _ (by decide)) (by decide)) (o 44 (by decide)) (r 39 (q _ (by decide)) (by decide)) (r 40 (q _ (by decide)) (by decide)) (o 38 (by decide)) (r 43 (q _ (by decide)) (by decide)) (o 12 (by decide)) (r 37 (q _ (by decide)) (by decide)) (o 32 (by decide)) (r 30 (q _ (by decide)) (by decide)) (r 31 (q _ (by decide)) (by decide)) (r 34 (q _ (by decide)) (by decide)) (r 35 (q _ (by decide)) (by decide))
theorem aF.on : zFi (aF a) τ (F_X11_goesOn a τ) := fi_X11_goesOn zFi.id ⟨rfl, by decide⟩ ⟨rfl, by decide⟩ ⟨rfl, by decide⟩
/-- the mouth is not told anew but by its own telling -/
def aM (c : Int) (s : zA) : Prop := s.2.2.2.2.2.1 = c
theorem aM_fail {c n : Int} (h : aM c s) : aM c (aFail T n s) := by
  unfold aFail
  split
  · exact h
  · exact h
theorem aM_take {c w : Int} (h : aM c s) : aM c (aTake T w s) := by
  unfold aTake
  split
  · exact h
  · split
    · exact aM_fail h
    · split
      · exact aM_fail h
      · exact h
theorem aM_late {c n : Int} (h : aM c s) : aM c (aLate T n s) := by
  unfold aLate
  split
  · exact h
  · split
    · exact h
    · exact h
theorem aM_numb {c lo hi : Int} (h : aM c s) : aM c (aNumb T lo hi s) := by
  unfold aNumb
  split
  · exact aM_take (aM_late h)
  · exact aM_take h
theorem aM_E {c : Int} : ∀ (n : Nat) (b : Bool) (o : Int) (s : zA), aM c s → aM c (aE T n b o s) := by
  intro n
  induction n with
  | zero => intro b o s h; rw [aE]; exact h
  | succ n ih =>
    intro b o s h
    cases b with
    | true =>
      rw [aE]
      (repeat' split) <;> first | exact h | exact ih _ _ _ (aM_take h) | exact aM_fail h
    | false =>
      rw [aE]
      (repeat' split) <;> first | exact h | exact ih _ _ _ (aM_take h) | exact aM_fail h
theorem aM_sum {c : Int} (h : aM c s) : aM c (aSum T s) := aM_E _ _ _ _ h
theorem aM_if {c n : Int} (h : aM c s) : aM c (aIf T n s) := by
  unfold aIf
  refine aM_take (aM_sum (aM_take (aM_sum (aM_take (aM_sum (aM_take ?_))))))
  split
  · exact aM_fail h
  · exact h
theorem aM_lw {c : Int} : ∀ (k : Nat) (n : Int) (s : zA), aM c s → aM c (aLw T k n s) := by
  intro k
  induction k with
  | zero => intro n s h; exact h
  | succ k ih =>
    intro n s h
    rw [aLw]
    split
    · exact ih _ _ (aM_if h)
    · exact aM_sum h
theorem aM_tell {c : Int} (h : aM c s) (h0 : T.1 s.2.2.1 ≠ 0) (h1 : T.1 s.2.2.1 ≠ 1) : aM c (aTell T s) := by
  unfold aTell
  refine aM_take ?_
  rw [if_neg h0, if_neg h1]
  split
  · exact aM_lw _ _ _ (aM_take (aM_take h))
  · split
    · exact aM_numb (aM_numb (aM_take h))
    · split
      · exact aM_numb (aM_take h)
      · split
        · exact aM_numb (aM_take h)
        · exact aM_fail h
set_option maxHeartbeats 1000000 in
/-- one telling, the reference's side -/
theorem xTellG (hd : zWd a k q v nm nO) (hT : zTm T m) (hK : zTK T m) (h : zXo a k q v nm nO m T τ s) (hs : s.1 = 0) (hY : zYz Y a τ.2.2) (hb : (τ.1 a 19).toInt = b) (hb1 : b ≤ 1) (hg : zXg Y b τ s g) : zXg Y b (F_X11_tellOne a τ) (aTell T s) (aG T s g) := by
  obtain ⟨D1, D2, D3, D4, D5, D6, D7, D8, D9⟩ := xDisp hd hT hK h hs
  have X := xTell hd hT hK h hs
  have rg := hT.2.1 _ (h.1.2.2.2.2 hs).1
  have ron : (F_X11_goesOn a τ).2.2 = τ.2.2 := (aF.on (a := a) (τ := τ)).1
  have h19 : ((F_X11_goesOn a τ).1 a 19).toInt = b := by rw [aF.sv aF.on]; exact hb
  have f2 : 0 < ((F_X11_fail a 2 τ).1 a 13).toInt := by
    have p2 := xFail hd h 2 2 (by decide) (by decide)
    have f : (aFail T 2 s).1 ≠ 0 := aFail_1 (by decide)
    have := p2.1.2.1
    have := p2.1.2.2.1
    omega
  have f1 : 0 < ((F_X11_fail a 1 τ).1 a 13).toInt := by
    have p2 := xFail hd h 1 1 (by decide) (by decide)
    have f : (aFail T 1 s).1 ≠ 0 := aFail_1 (by decide)
    have := p2.1.2.1
    have := p2.1.2.2.1
    omega
  have on : ∀ w : Int, zXg Y b (F_X11_goesOn a τ) (aTake T w s) g := fun w => hg.st (fun z => (aTake_i z).1) (aK_take ⟨id, rfl⟩) (fun _ => aM_take (c := s.2.2.2.2.2.1) rfl) (fun j j1 j2 => aFq.r hY aFq.on j1 j2)
  by_cases c0 : T.1 s.2.2.1 = 0
  · have eg : aG T s g = g := by unfold aG; rw [if_neg (fun z => by omega)]
    rw [eg]
    by_cases cm : s.2.2.2.2.2.1 = 0
    · rw [D1 c0 cm]
      have H := xMouthG hd hT hK (xOn hd hT hK h 0 (fun _ => c0) (by decide)) (by rw [ron]; exact hY) h19 hb1 (fun _ => (aM_take (c := s.2.2.2.2.2.1) rfl : aM _ (aTake T 0 s)).trans cm) (on 0)
      unfold aTell aMouth
      rw [if_pos c0, if_neg (zne cm)]
      exact H
    · exact zXg.fl (congrArg (fun z => z.1 a 13) (D2 c0 cm)) X f2
  · by_cases c1 : T.1 s.2.2.1 = 1
    · by_cases cm : s.2.2.2.2.2.2.1 = 11
      · exact zXg.fl (congrArg (fun z => z.1 a 13) (D4 c1 cm)) X f2
      · have e1 : aPlace1 T s = aTake T 1 s := by
          have := (h.1.2.2.2.2 hs).2.2.2.2.2.2.2.1
          unfold aPlace1
          rw [if_neg (by omega)]
        have ec : (aTake T 1 s).2.2.2.2.2.2.1 = s.2.2.2.2.2.2.1 := (aK_take (l := s.2.2.2.1) (c := s.2.2.2.2.2.2.1) ⟨id, rfl⟩).2
        have H := xPlaceG hd hT hK (xOn hd hT hK h 1 (fun _ => c1) (by decide)) (fun _ => by have := (h.1.2.2.2.2 hs).2.2.2.2.2.2.2.1; omega) (by rw [ron]; exact hY) h19 hb1 (on 1)
        intro hq l
        have hp : (aPlace T s).1 = 0 := by
          have hq' := hq
          unfold aTell at hq'
          rw [if_neg c0, if_pos c1] at hq'
          exact (aTake_i hq').1
        have eg : aG T s g = fun p : Nat => if (p : Int) = (aTake T 1 s).2.2.2.2.2.2.1 + 1 then aVals T (aTake T 1 s) else g p := by
          unfold aG
          rw [if_pos ⟨c1, hp⟩, e1, ec]
        rw [eg, D3 c1 cm]
        have et : aTell T s = aTake T 24 (if (aPlace2 T (aTake T 1 s)).1 = 0 ∧ (aPlace2 T (aTake T 1 s)).2.2.2.2.2.2.1 < 11 then aSetP (aPlace2 T (aTake T 1 s)) (T.2.1 (aTake T 1 s).2.2.1) else aPlace2 T (aTake T 1 s)) := by
          unfold aTell aPlace
          rw [if_neg c0, if_pos c1, e1]
        rw [et] at hq l ⊢
        exact H hq l
    · have eg : aG T s g = g := by unfold aG; rw [if_neg (fun z => c1 z.1)]
      rw [eg]
      have fin : ∀ t', F_X11_tellOne a τ = t' → zFi (aFq Y a) τ t' → zXg Y b (F_X11_tellOne a τ) (aTell T s) g := fun t' e f => by
        rw [e]
        exact hg.st (fun _ => hs) (aK_tell ⟨id, rfl⟩ c1) (fun _ => aM_tell (c := s.2.2.2.2.2.1) rfl c0 c1) (fun j j1 j2 => aFq.r hY f j1 j2)
      by_cases c6 : T.1 s.2.2.1 ≤ 6
      · obtain ⟨p, -, e⟩ := D5 (by omega) c6
        exact fin _ e (aFq.law hY aFq.on p)
      · by_cases c7 : T.1 s.2.2.1 = 7
        · exact fin _ (D6 c7) (aFq.mu (aFq.b1 hY (aFq.b1 hY aFq.on (by unfold zQs; omega) (by decide) _ _) (by unfold zQs; omega) (by decide) _ _) _)
        · by_cases c8 : T.1 s.2.2.1 = 8
          · exact fin _ (D7 c8) (aFq.mu (aFq.b1 hY aFq.on (by unfold zQs; omega) (by decide) _ _) _)
          · by_cases c9 : T.1 s.2.2.1 = 9
            · exact fin _ (D8 c9) (aFq.mu (aFq.b1 hY aFq.on (by unfold zQs; omega) (by decide) _ _) _)
            · exact zXg.fl (congrArg (fun z => z.1 a 13) (D9 (by omega))) X f1
end RTG5
end
-- 35x43.rel28
section
/-! WHAT A TELLING WRITES, to the place: the side that is told alone -/
theorem mPl_e3 {a iv : Nat} {x v23 x1 x2 x3 : Int32} {τ τ1 t0 w t1 t2 t3 : zS} (p1 : F_X11_named a τ = (x, τ1)) (p2 : F_X11_must a 1 τ1 = t0) (h0 : ¬ 0 < (t0.1 a 13).toInt) (hv : F_X11_numberOf a (τ1.1 a 11) t0 = v23) (hiv : ((12 : Int32) * τ.1 a 19 + τ.1 a 42 + (1 : Int32)).toNatClampNeg = iv) (hw : w = if v23.toInt < 0 then F_X11_wrong a 4 (τ1.1 a 11) (zu t0.1 ((t0.2.2 a 22).getD 0) iv v23, t0.2.1, t0.2.2) else (zu t0.1 ((t0.2.2 a 22).getD 0) iv v23, t0.2.1, t0.2.2)) (b1 : F_X11_bounded a 1 99 w = (x1, t1)) (d1 : F_X11_bounded a 0 99 (zu t1.1 ((w.2.2 a 23).getD 0) iv x1, t1.2.1, t1.2.2) = (x2, t2)) (g1 : F_X11_bounded a 0 99 (zu t2.1 ((t1.2.2 a 24).getD 0) iv x2, t2.2.1, t2.2.2) = (x3, t3)) : F_X11_tellPlace a τ = mPEnd a x (F_X11_must a 4 (zu t3.1 ((t2.2.2 a 25).getD 0) iv x3, t3.2.1, t3.2.2)) := by
  by_cases c : v23.toInt < 0
  · rw [if_pos c] at hw
    subst hw
    unfold F_X11_tellPlace
    simp only [zlt, zlt2, p1, p2, hv, hiv, zu_s, b1, d1, g1]
    rw [if_neg h0, if_pos c]
    unfold mPEnd
    simp only [zu_s]
  · rw [if_neg c] at hw
    subst hw
    unfold F_X11_tellPlace
    simp only [zlt, zlt2, p1, p2, hv, hiv, zu_s, b1, d1, g1]
    rw [if_neg h0, if_neg c]
    unfold mPEnd
    simp only [zu_s]
theorem mPl_e4 {a : Nat} {x : Int32} {τ τ1 t0 : zS} (p1 : F_X11_named a τ = (x, τ1)) (p2 : F_X11_must a 1 τ1 = t0) (h0 : 0 < (t0.1 a 13).toInt) : F_X11_tellPlace a τ = t0 := by
  unfold F_X11_tellPlace
  simp only [zlt, zlt2, p1, p2]
  rw [if_pos h0]
section FRM
variable {a k q v nm nO m b : Nat} {T : zTn} {τ τ' t : zS} {s s' : zA} {Y : Nat → Nat}
def aPm (Y : Nat → Nat) (a b : Nat) : Nat → Nat → Prop := fun c j => (c = a ∧ j ≠ 19 ∧ j ≠ 18 ∧ j ≠ 57 ∧ j ≠ 62) ∨ ((c = Y 22 ∨ c = Y 23 ∨ c = Y 24 ∨ c = Y 25) ∧ 12 * b ≤ j ∧ j < 12 * b + 12) ∨ (c = Y 21 ∧ j = b) ∨ ∃ i, zQs i ∧ 26 ≤ i ∧ i ≤ 43 ∧ c = Y i
theorem aPm.o {j : Nat} (h : j ≠ 19 ∧ j ≠ 18 ∧ j ≠ 57 ∧ j ≠ 62) : aPm Y a b a j := Or.inl ⟨rfl, h⟩
theorem aPm.r {j : Nat} (h : zQs j) (h2 : 26 ≤ j ∧ j ≤ 43) (i : Nat) : aPm Y a b (Y j) i := Or.inr (Or.inr (Or.inr ⟨j, h, h2.1, h2.2, rfl⟩))
theorem aPm.qq {i j : Nat} (h : j = 22 ∨ j = 23 ∨ j = 24 ∨ j = 25) (h2 : 12 * b ≤ i ∧ i < 12 * b + 12) : aPm Y a b (Y j) i := Or.inr (Or.inl ⟨by rcases h with rfl | rfl | rfl | rfl <;> simp, h2⟩)
theorem aPm.on (h : zFi (aPm Y a b) τ t) : zFi (aPm Y a b) τ (F_X11_goesOn a t) := fi_X11_goesOn h (aPm.o (by decide)) (aPm.o (by decide)) (aPm.o (by decide))
theorem aPm.fa (h : zFi (aPm Y a b) τ t) (p : Int32) : zFi (aPm Y a b) τ (F_X11_fail a p t) := fi_X11_fail h (aPm.o (by decide)) (aPm.o (by decide))
theorem aPm.mu (h : zFi (aPm Y a b) τ t) (p : Int32) : zFi (aPm Y a b) τ (F_X11_must a p t) := fi_X11_must h (aPm.o (by decide)) (aPm.o (by decide)) (aPm.o (by decide))
theorem aPm.wr (h : zFi (aPm Y a b) τ t) (p r : Int32) : zFi (aPm Y a b) τ (F_X11_wrong a p r t) := fi_X11_wrong h (aPm.o (by decide)) (aPm.o (by decide))
theorem aPm.nd (h : zFi (aPm Y a b) τ t) : zFi (aPm Y a b) τ (F_X11_named a t).2 := fi_X11_named h (aPm.o (by decide)) (aPm.o (by decide)) (aPm.o (by decide)) (aPm.o (by decide)) (aPm.o (by decide))
theorem aPm.bd (h : zFi (aPm Y a b) τ t) (lo hi : Int32) : zFi (aPm Y a b) τ (F_X11_bounded a lo hi t).2 := fi_X11_bounded h (aPm.o (by decide)) (aPm.o (by decide)) (aPm.o (by decide)) (aPm.o (by decide)) (aPm.o (by decide))
theorem aPm.b1 (hY : zYz Y a τ.2.2) (h : zFi (aPm Y a b) τ t) {j : Nat} (hj : zQs j) (h26 : 26 ≤ j ∧ j ≤ 43) (lo hi : Int32) : zFi (aPm Y a b) τ (mB1 a j lo hi t) := by
  have e : (t.2.2 a j).getD 0 = Y j := by rw [h.1]; exact (hY.1 j hj).1
  unfold mB1
  rw [e]
  exact zFi.w (s := (F_X11_bounded a lo hi t).2) (aPm.bd h lo hi) (aPm.r hj h26 _)
theorem aPm.sv (hY : zYz Y a τ.2.2) (h : zFi (aPm Y a b) τ t) : t.1 a 19 = τ.1 a 19 ∧ t.1 a 18 = τ.1 a 18 := by
  have n : ∀ j, j = 19 ∨ j = 18 → ¬ aPm Y a b a j := fun j hj => by
    rintro (z | ⟨z, -⟩ | ⟨z, -⟩ | ⟨i, z1, -, -, z⟩)
    · omega
    · rcases z with z | z | z | z
      · exact (hY.1 22 (by unfold zQs; omega)).2 z.symm
      · exact (hY.1 23 (by unfold zQs; omega)).2 z.symm
      · exact (hY.1 24 (by unfold zQs; omega)).2 z.symm
      · exact (hY.1 25 (by unfold zQs; omega)).2 z.symm
    · exact (hY.1 21 (by unfold zQs; omega)).2 z.symm
    · exact (hY.1 i z1).2 z.symm
  exact ⟨h.2 _ _ (n 19 (Or.inl rfl)), h.2 _ _ (n 18 (Or.inr rfl))⟩
theorem aPm.en (hY : zYz Y a τ.2.2) (hb : (τ.1 a 19).toNatClampNeg = b) (h : zFi (aPm Y a b) τ t) (x : Int32) : zFi (aPm Y a b) τ (mPEnd a x t) := by
  have e : (t.2.2 a 21).getD 0 = Y 21 := by rw [h.1]; exact (hY.1 21 (by unfold zQs; omega)).1
  have K1 : zFi (aPm Y a b) τ (zu t.1 a 42 (t.1 a 42 + (1 : Int32)), t.2.1, t.2.2) := h.w (aPm.o (by decide))
  unfold mPEnd
  split
  · exact h
  · split
    · exact K1
    · rw [e]
      have e19 : (zu t.1 a 42 (t.1 a 42 + (1 : Int32)) a 19).toNatClampNeg = b := by rw [zu_j _ _ _ _ _ (by decide), (aPm.sv hY h).1]; exact hb
      rw [e19]
      exact K1.w (Or.inr (Or.inr (Or.inl ⟨rfl, rfl⟩)))
theorem aPm.pl (hY : zYz Y a τ.2.2) (hb : (τ.1 a 19).toInt = b) (hb1 : b ≤ 1) (h : zFi (aPm Y a b) τ t) (h42 : 0 ≤ (t.1 a 42).toInt ∧ (t.1 a 42).toInt < 11) : zFi (aPm Y a b) τ (F_X11_tellPlace a t) := by
  have e12 : (12 : Int32).toInt = 12 := by decide
  have e1 : (1 : Int32).toInt = 1 := by decide
  have hb' : (τ.1 a 19).toNatClampNeg = b := by rw [ztn, hb]; rfl
  have t19 : (t.1 a 19).toInt = b := by rw [(aPm.sv hY h).1]; exact hb
  have em : ((12 : Int32) * t.1 a 19).toInt = 12 * b := by rw [zb_mul (by rw [e12, t19]; omega) (by rw [e12, t19]; omega), e12, t19]
  have e42 : ((12 : Int32) * t.1 a 19 + t.1 a 42).toInt = 12 * b + (t.1 a 42).toInt := by rw [zb_add (by rw [em]; omega) (by rw [em]; omega), em]
  obtain ⟨iv, hiv⟩ : ∃ iv, iv = ((12 : Int32) * t.1 a 19 + t.1 a 42 + (1 : Int32)).toNatClampNeg := ⟨_, rfl⟩
  have hi : 12 * b ≤ iv ∧ iv < 12 * b + 12 := by rw [hiv, ztn, zb_add (by rw [e42, e1]; omega) (by rw [e42, e1]; omega), e42, e1]; omega
  obtain ⟨x, τ1, p1⟩ : ∃ x τ1, F_X11_named a t = (x, τ1) := ⟨_, _, rfl⟩
  obtain ⟨t0, p2⟩ : ∃ t0, F_X11_must a 1 τ1 = t0 := ⟨_, rfl⟩
  have f0 : zFi (aPm Y a b) τ t0 := by
    have q := aPm.nd h
    rw [p1] at q
    rw [← p2]
    exact aPm.mu q 1
  by_cases h0 : 0 < (t0.1 a 13).toInt
  · rw [mPl_e4 p1 p2 h0]; exact f0
  · obtain ⟨v23, hv⟩ : ∃ v23, F_X11_numberOf a (τ1.1 a 11) t0 = v23 := ⟨_, rfl⟩
    have e : ∀ (u : zS) j, zFi (aPm Y a b) τ u → (j = 22 ∨ j = 23 ∨ j = 24 ∨ j = 25) → (u.2.2 a j).getD 0 = Y j := fun u j f hj => by rw [f.1]; exact (hY.1 j (by unfold zQs; omega)).1
    have K : zFi (aPm Y a b) τ (zu t0.1 ((t0.2.2 a 22).getD 0) iv v23, t0.2.1, t0.2.2) := by
      rw [e t0 22 f0 (by omega)]
      exact f0.w (aPm.qq (by omega) hi)
    obtain ⟨w, hw⟩ : ∃ w, w = if v23.toInt < 0 then F_X11_wrong a 4 (τ1.1 a 11) (zu t0.1 ((t0.2.2 a 22).getD 0) iv v23, t0.2.1, t0.2.2) else (zu t0.1 ((t0.2.2 a 22).getD 0) iv v23, t0.2.1, t0.2.2) := ⟨_, rfl⟩
    have fw : zFi (aPm Y a b) τ w := by
      rw [hw]
      split
      · exact aPm.wr K _ _
      · exact K
    obtain ⟨x1, t1, b1⟩ : ∃ x1 t1, F_X11_bounded a 1 99 w = (x1, t1) := ⟨_, _, rfl⟩
    have f1 : zFi (aPm Y a b) τ t1 := by have q := aPm.bd fw 1 99; rw [b1] at q; exact q
    have z1 : zFi (aPm Y a b) τ (zu t1.1 ((w.2.2 a 23).getD 0) iv x1, t1.2.1, t1.2.2) := by rw [e w 23 fw (by omega)]; exact f1.w (aPm.qq (by omega) hi)
    obtain ⟨x2, t2, d1⟩ : ∃ x2 t2, F_X11_bounded a 0 99 (zu t1.1 ((w.2.2 a 23).getD 0) iv x1, t1.2.1, t1.2.2) = (x2, t2) := ⟨_, _, rfl⟩
    have f2 : zFi (aPm Y a b) τ t2 := by have q := aPm.bd z1 0 99; rw [d1] at q; exact q
    have z2 : zFi (aPm Y a b) τ (zu t2.1 ((t1.2.2 a 24).getD 0) iv x2, t2.2.1, t2.2.2) := by rw [e t1 24 f1 (by omega)]; exact f2.w (aPm.qq (by omega) hi)
    obtain ⟨x3, t3, g1⟩ : ∃ x3 t3, F_X11_bounded a 0 99 (zu t2.1 ((t1.2.2 a 24).getD 0) iv x2, t2.2.1, t2.2.2) = (x3, t3) := ⟨_, _, rfl⟩
    have f3 : zFi (aPm Y a b) τ t3 := by have q := aPm.bd z2 0 99; rw [g1] at q; exact q
    have z3 : zFi (aPm Y a b) τ (zu t3.1 ((t2.2.2 a 25).getD 0) iv x3, t3.2.1, t3.2.2) := by rw [e t2 25 f2 (by omega)]; exact f3.w (aPm.qq (by omega) hi)
    rw [mPl_e3 p1 p2 h0 hv hiv.symm hw b1 d1 g1]
    exact aPm.en hY hb' (aPm.mu z3 4) x
theorem aPm.mo (hY : zYz Y a τ.2.2) (hb : (τ.1 a 19).toInt = b) (hb1 : b ≤ 1) (h : zFi (aPm Y a b) τ t) : zFi (aPm Y a b) τ (F_X11_tellMouth a t) := by
  have e12 : (12 : Int32).toInt = 12 := by decide
  have f1 := aPm.mu (aPm.nd h) 4
  obtain ⟨r, hr⟩ : ∃ r, r = F_X11_named a t := ⟨_, rfl⟩
  rw [← hr] at f1
  obtain ⟨u, hu⟩ : ∃ u, u = F_X11_must a 4 r.2 := ⟨_, rfl⟩
  rw [← hu] at f1
  have y : ∀ j, zQs j → (u.2.2 a j).getD 0 = Y j := fun j hj => by rw [f1.1]; exact (hY.1 j hj).1
  have n : ∀ j, 21 ≤ j → j ≤ 25 → a ≠ Y j := fun j j1 j2 z => (hY.n.2 j j1 j2) z.symm
  have u19 : u.1 a 19 = τ.1 a 19 := (aPm.sv hY f1).1
  have ev : ((12 : Int32) * τ.1 a 19).toNatClampNeg = 12 * b := by rw [ztn, zb_mul (by rw [e12, hb]; omega) (by rw [e12, hb]; omega), e12, hb]; omega
  have ew : (τ.1 a 19).toNatClampNeg = b := by rw [ztn, hb]; rfl
  unfold F_X11_tellMouth
  simp only [zlt, zlt2]
  rw [← hr, ← hu]
  split
  · exact f1
  · have q : ∀ j, 21 ≤ j → j ≤ 25 → zQs j := fun j j1 j2 => by unfold zQs; omega
    simp only [y 22 (q 22 (by decide) (by decide)), y 23 (q 23 (by decide) (by decide)), y 24 (q 24 (by decide) (by decide)), y 25 (q 25 (by decide) (by decide)), y 21 (q 21 (by decide) (by decide)), zu_n _ _ _ (n 22 (by decide) (by decide)), zu_n _ _ _ (n 23 (by decide) (by decide)), zu_n _ _ _ (n 24 (by decide) (by decide)), zu_n _ _ _ (n 25 (by decide) (by decide)), zu_j _ _ _ _ _ (by decide : ¬ 41 = 19), u19, ev, ew]
    have w : 12 * b ≤ 12 * b ∧ 12 * b < 12 * b + 12 := ⟨Nat.le_refl _, by omega⟩
    have K0 : zFi (aPm Y a b) τ (zu u.1 a 41 (1 : Int32), u.2.1, u.2.2) := f1.w (aPm.o (by decide))
    have K1 := ((((K0.w (r := Y 22) (j := 12 * b) (v := (-2 : Int32)) (aPm.qq (by omega) w)).w (r := Y 23) (j := 12 * b) (v := (0 : Int32)) (aPm.qq (by omega) w)).w (r := Y 24) (j := 12 * b) (v := (0 : Int32)) (aPm.qq (by omega) w)).w (r := Y 25) (j := 12 * b) (v := (0 : Int32)) (aPm.qq (by omega) w))
    exact ⟨(K1.w (r := Y 21) (j := b) (v := zu (zu (zu (zu (zu u.1 a 41 (1 : Int32)) (Y 22) (12 * b) (-2 : Int32)) (Y 23) (12 * b) (0 : Int32)) (Y 24) (12 * b) (0 : Int32)) (Y 25) (12 * b) (0 : Int32) a 42 + (1 : Int32)) (Or.inr (Or.inr (Or.inl ⟨rfl, rfl⟩)))).1, fun c j nn => by
      have z := (K1.w (r := Y 21) (j := b) (v := zu u.1 a 41 (1 : Int32) a 42 + (1 : Int32)) (Or.inr (Or.inr (Or.inl ⟨rfl, rfl⟩)))).2 c j nn
      exact z⟩
theorem aPm.law (hY : zYz Y a τ.2.2) (h : zFi (aPm Y a b) τ t) (p : Int32) : zFi (aPm Y a b) τ (F_X11_tellLaw a p t) := by
  have r : ∀ j, zQs j → 26 ≤ j ∧ j ≤ 43 → ∀ i : Nat, aPm Y a b ((τ.2.2 a j).getD 0) i := fun j hj h26 i => by rw [(hY.1 j hj).1]; exact aPm.r hj h26 i
  have q : ∀ j, (j = 30 ∨ j = 31 ∨ j = 33 ∨ j = 34 ∨ j = 35 ∨ j = 36 ∨ j = 37 ∨ j = 39 ∨ j = 40 ∨ j = 43) → zQs j := fun j hj => by unfold zQs; omega
  exact fi_X11_tellLaw h (aPm.o (by decide)) (aPm.o (by decide)) (aPm.o (by decide)) (r 33 (q _ (by decide)) (by decide)) (r 36 (q _ (by decide)) (by decide)) (aPm.o (by decide)) (r 39 (q _ (by decide)) (by decide)) (r 40 (q _ (by decide)) (by decide)) (aPm.o (by decide)) (r 43 (q _ (by decide)) (by decide)) (aPm.o (by decide)) (r 37 (q _ (by decide)) (by decide)) (aPm.o (by decide)) (r 30 (q _ (by decide)) (by decide)) (r 31 (q _ (by decide)) (by decide)) (r 34 (q _ (by decide)) (by decide)) (r 35 (q _ (by decide)) (by decide))
/-- one telling, by what it leaves -/
theorem xTellF (hd : zWd a k q v nm nO) (hT : zTm T m) (hK : zTK T m) (h : zXo a k q v nm nO m T t s) (hs : s.1 = 0) (hY : zYz Y a τ.2.2) (hb : (τ.1 a 19).toInt = b) (hb1 : b ≤ 1) (f : zFi (aPm Y a b) τ t) : zFi (aPm Y a b) τ (F_X11_tellOne a t) := by
  obtain ⟨D1, D2, D3, D4, D5, D6, D7, D8, D9⟩ := xDisp hd hT hK h hs
  have rg := hT.2.1 _ (h.1.2.2.2.2 hs).1
  have r42 := (h.1.2.2.2.2 hs).2.2.2.2.2.2.1
  have r10 := (h.1.2.2.2.2 hs).2.2.2.2.2.2.2.1
  have on42 : (F_X11_goesOn a t).1 a 42 = t.1 a 42 := (fi_X11_goesOn (A := fun c j => c = a ∧ j ≠ 42) zFi.id ⟨rfl, by decide⟩ ⟨rfl, by decide⟩ ⟨rfl, by decide⟩).2 _ _ (fun z => z.2 rfl)
  have q : ∀ j, (j = 26 ∨ j = 27 ∨ j = 28 ∨ j = 29) → zQs j := fun j hj => by unfold zQs; omega
  by_cases c0 : T.1 s.2.2.1 = 0
  · by_cases cm : s.2.2.2.2.2.1 = 0
    · rw [D1 c0 cm]; exact aPm.mo hY hb hb1 (aPm.on f)
    · rw [D2 c0 cm]; exact aPm.fa f _
  · by_cases c1 : T.1 s.2.2.1 = 1
    · by_cases cm : s.2.2.2.2.2.2.1 = 11
      · rw [D4 c1 cm]; exact aPm.fa f _
      · rw [D3 c1 cm]; exact aPm.pl hY hb hb1 (aPm.on f) (by rw [on42, r42]; omega)
    · by_cases c6 : T.1 s.2.2.1 ≤ 6
      · obtain ⟨p, -, e⟩ := D5 (by omega) c6
        rw [e]; exact aPm.law hY (aPm.on f) p
      · by_cases c7 : T.1 s.2.2.1 = 7
        · rw [D6 c7]; exact aPm.mu (aPm.b1 hY (aPm.b1 hY (aPm.on f) (q _ (by omega)) (by decide) _ _) (q _ (by omega)) (by decide) _ _) _
        · by_cases c8 : T.1 s.2.2.1 = 8
          · rw [D7 c8]; exact aPm.mu (aPm.b1 hY (aPm.on f) (q _ (by omega)) (by decide) _ _) _
          · by_cases c9 : T.1 s.2.2.1 = 9
            · rw [D8 c9]; exact aPm.mu (aPm.b1 hY (aPm.on f) (q _ (by omega)) (by decide) _ _) _
            · rw [D9 (by omega)]; exact aPm.fa f _
end FRM
end
-- 35x44.rd2
section
/-! THE CLASS, ahead of its loop -/
section ZV6b
variable {P tk kA vA qA tt N m : Nat} {T : zTn} {σ : zS}
theorem vRead1 {p1 w n : Nat} {p2 : Int32} (hd : zVd P tk kA vA qA N) (hk : kA ≠ tk) (hq : qA ≠ tk) (hkq : kA ≠ qA) (hp : p1 ≠ tk ∧ p1 ≠ kA ∧ p1 ≠ qA) (hwv : w ≠ vA) (hn : p2.toInt = n) (hn2 : n ≤ 2000) (hl : zTl tk w kA vA qA σ) (l0 : σ.2.2 P 0 = some tk) (l5 : σ.2.2 tt 1 = some N) (htd : zTd P tk kA qA tt σ.2.2) (hby : ∀ j, -128 ≤ (σ.1 p1 j).toInt ∧ (σ.1 p1 j).toInt ≤ 127) :
    ∃ (m : Nat) (E : Nat → Nat), 0 < m ∧ m ≤ 401 ∧ zTk (σ.1 p1) n (σ.2.1 w) kA vA qA (F_X8_scan tk p1 p2 σ) m E ∧ (m = 401 ∨ 33 ≤ ((F_X8_scan tk p1 p2 σ).1 kA (m - 1)).toInt) ∧ (F_X8_scan tk p1 p2 σ).2.2 = σ.2.2 ∧ ∀ M : Nat → Int64, zTK (zTo kA vA qA (F_X8_scan tk p1 p2 σ) M) m ∧ ∃ C0 : zS, zV P tk kA vA qA tt N m (zTo kA vA qA (F_X8_scan tk p1 p2 σ) M) C0 aZ ∧ F_X3_parse P p1 p2 tt σ = F_X3_parse_59 P p1 p2 tt 10000 0 C0 ∧ C0.2.2 = zu σ.2.2 P 1 (some tt) ∧ zFi (fun c _ => c = P) (F_X9_clear tt ((F_X8_scan tk p1 p2 σ).1, (F_X8_scan tk p1 p2 σ).2.1, zu (F_X8_scan tk p1 p2 σ).2.2 P 1 (some tt))) C0 := by
  obtain ⟨m, E, z1, z2, z3, z4, z5, z6⟩ := zsc hk hq hkq hp hwv hn hn2 hl hby
  refine ⟨m, E, z2, z3, z4, z5, z6.1, fun M => ?_⟩
  have g0 : (σ.2.2 P 0).getD 0 = tk := by rw [l0]; rfl
  obtain ⟨τ, hτ⟩ : ∃ t : zS, t = F_X8_scan tk p1 p2 σ := ⟨_, rfl⟩
  rw [← hτ] at z1 z4 z5 z6
  obtain ⟨T, hT⟩ : ∃ t : zTn, t = zTo kA vA qA τ M := ⟨_, rfl⟩
  rw [← hτ, ← hT]
  have hK : zTK T m := by
    refine ⟨z2, z3, fun j h1 h2 h3 => ?_⟩
    by_cases c : j + 1 < m
    · exact c
    · have ej : j = m - 1 := by omega
      rcases z5 with z | z
      · omega
      · rw [hT] at h2
        have h2' : (τ.1 kA j).toInt < 33 := h2
        rw [ej] at h2'
        omega
  refine ⟨hK, ?_⟩
  obtain ⟨⟨d7, d8, d9, d10⟩, d11⟩ := htd
  obtain ⟨d1, d2, d3, d4, d5, d6⟩ := hd
  have cf := cClear (tt := tt) (σ := (τ.1, τ.2.1, zu τ.2.2 P 1 (some tt)))
  obtain ⟨C, hC⟩ : ∃ c : zS, c = F_X9_clear tt (τ.1, τ.2.1, zu τ.2.2 P 1 (some tt)) := ⟨_, rfl⟩
  rw [← hC] at cf ⊢
  have r0 : C.2.2 = zu σ.2.2 P 1 (some tt) := by rw [cf.1]; show zu τ.2.2 P 1 (some tt) = _; rw [z6.1]
  have r1 : C.2.1 = τ.2.1 := by rw [cf.1]
  have rt : ∀ j, (zu τ.2.2 P 1 (some tt) tt j) = σ.2.2 tt j := fun j => by rw [zu_n _ _ _ d7, z6.1]
  have fr : ∀ c, c ≠ tt → (∀ j, (j = 2 ∨ j = 3 ∨ j = 4 ∨ j = 5 ∨ j = 6 ∨ j = 7 ∨ j = 9) → (σ.2.2 tt j).getD 0 ≠ c) → C.1 c = τ.1 c := fun c h1 h2 => by
    refine cf.2 c h1 ?_ ?_ ?_
    · show c ≠ (zu τ.2.2 P 1 (some tt) tt 6).getD 0
      rw [rt]; exact fun z => h2 6 (by omega) z.symm
    · show c ≠ (zu τ.2.2 P 1 (some tt) tt 7).getD 0
      rw [rt]; exact fun z => h2 7 (by omega) z.symm
    · show c ≠ (zu τ.2.2 P 1 (some tt) tt 9).getD 0
      rw [rt]; exact fun z => h2 9 (by omega) z.symm
  have ftk := fr tk (fun z => d8 z.symm) (fun j hj => (d11 j hj).2.1)
  have fkA := fr kA (fun z => d9 z.symm) (fun j hj => (d11 j hj).2.2.1)
  have fqA := fr qA (fun z => d10 z.symm) (fun j hj => (d11 j hj).2.2.2)
  obtain ⟨hl0, hl1, hl2, hl3⟩ := hl
  have row : ∀ (X : Nat → Nat → Int32), (∀ c, c ≠ P → X c = C.1 c) → zVs P tk kA vA qA tt N m T (X, C.2.1, C.2.2) := fun X hX => by
    refine ⟨⟨?_, ?_, ?_, ?_, ?_, ?_⟩, ?_, fun j => ?_, ⟨d7, d8, d9, d10⟩, fun j hj => ?_⟩
    · show C.2.2 P 0 = _
      rw [r0, zu_j _ _ _ _ _ (by decide)]; exact l0
    · show C.2.2 P 1 = _
      rw [r0, zu_s]
    · show C.2.2 tk 1 = _
      rw [r0, zu_n _ _ _ d1]; exact hl1
    · show C.2.2 tk 2 = _
      rw [r0, zu_n _ _ _ d1]; exact hl2
    · show C.2.2 tk 3 = _
      rw [r0, zu_n _ _ _ d1]; exact hl3
    · show C.2.2 tt 1 = _
      rw [r0, zu_n _ _ _ d7]; exact l5
    · show (X tk 4).toInt = _
      rw [hX tk d1, ftk]; exact z1
    · show (X kA j).toInt = _ ∧ C.2.1 vA j = _ ∧ (C.2.1 vA j).toInt32.toInt = _ ∧ (X qA j).toInt = _
      rw [hX kA d2, hX qA d3, fkA, fqA, r1, hT]
      exact ⟨rfl, rfl, rfl, rfl⟩
    · show (C.2.2 tt j).getD 0 ≠ P ∧ _
      rw [show (X, C.2.1, C.2.2).2.2 tt j = σ.2.2 tt j by show C.2.2 tt j = _; rw [r0, zu_n _ _ _ d7]]
      exact d11 j hj
  have e0 : (0 : Int32).toInt = 0 := by decide
  have em : (-1 : Int32).toInt = -1 := by decide
  have v0 := vGo0 ⟨d1, d2, d3, d4, d5, d6⟩ (row (zu (zu (zu (zu (zu (zu C.1 P 6 0) P 7 0) P 8 0) P 9 (-1)) P 10 0) P 11 (-1)) (fun c hc => by rw [zu_n _ _ _ hc, zu_n _ _ _ hc, zu_n _ _ _ hc, zu_n _ _ _ hc, zu_n _ _ _ hc, zu_n _ _ _ hc])) z2
    (by show (zu _ P 11 _ P 8 : Int32).toInt = 0; rw [zu_j _ _ _ _ _ (by decide), zu_j _ _ _ _ _ (by decide), zu_j _ _ _ _ _ (by decide), zu_s]; exact e0)
    (by show (zu _ P 11 _ P 10 : Int32).toInt = 0; rw [zu_j _ _ _ _ _ (by decide), zu_s]; exact e0)
    (by show (zu _ P 11 _ P 11 : Int32).toInt = -1; rw [zu_s]; exact em)
    (by show (zu _ P 11 _ P 6 : Int32).toInt = 0; rw [zu_j _ _ _ _ _ (by decide), zu_j _ _ _ _ _ (by decide), zu_j _ _ _ _ _ (by decide), zu_j _ _ _ _ _ (by decide), zu_j _ _ _ _ _ (by decide), zu_s]; exact e0)
    (by show (zu _ P 11 _ P 7 : Int32).toInt = 0; rw [zu_j _ _ _ _ _ (by decide), zu_j _ _ _ _ _ (by decide), zu_j _ _ _ _ _ (by decide), zu_j _ _ _ _ _ (by decide), zu_s]; exact e0)
  refine ⟨_, v0, ?_, ?_, ?_⟩
  · unfold F_X3_parse
    simp only [zlt, g0, ← hτ, zu_s, Option.getD_some, ← hC]
  · exact Eq.trans (b := C.2.2) (rf_X3_goTo (R := C.2.2) rfl) r0
  · have w6 := ((((((zFi.id (A := fun c _ => c = P) (σ := C)).w (r := P) (j := 6) (v := (0 : Int32)) rfl).w (r := P) (j := 7) (v := (0 : Int32)) rfl).w (r := P) (j := 8) (v := (0 : Int32)) rfl).w (r := P) (j := 9) (v := (-1 : Int32)) rfl).w (r := P) (j := 10) (v := (0 : Int32)) rfl).w (r := P) (j := 11) (v := (-1 : Int32)) rfl
    exact fi_X3_goTo w6 rfl rfl rfl
end ZV6b
end
-- 35x45.rd3
section
/-! THE REFERENCE, ahead of its loop -/
theorem wRead1 {a x bt ky k q v nm nO n : Nat} {τ : zS} (hd : zRd a k q v nm) (hx : x ≠ a ∧ x ≠ k ∧ x ≠ q ∧ x ≠ v) (hbx : bt ≠ x) (hba : bt ≠ a) (hyn : ky ≠ nm) (hno : nm ≠ nO) (hl : zRl a k q v nm ky τ) (r3 : τ.2.2 a 3 = some x) (r1 : τ.2.2 a 1 = some bt) (r20 : τ.2.2 a 20 = some nO) (hn : (τ.1 a 2).toInt = n) (hn2 : n ≤ 2000) (hxb : ∀ j, -128 ≤ (τ.1 x j).toInt ∧ (τ.1 x j).toInt ≤ 127) (hb : ∀ j, -128 ≤ (τ.1 bt j).toInt ∧ (τ.1 bt j).toInt ≤ 127) (hs : ∀ j, zQs j → (τ.2.2 a j).getD 0 ≠ a ∧ (τ.2.2 a j).getD 0 ≠ k ∧ (τ.2.2 a j).getD 0 ≠ q ∧ (τ.2.2 a j).getD 0 ≠ v) :
    ∃ (τc : zS) (m' : Nat) (E' : Nat → Nat), m' ≤ 401 ∧ zRq (τ.1 bt) n (τ.2.1 ky) k q v nm τc m' E' ∧ zFi (fun c j => (c = a ∧ (j = 2 ∨ j = 4 ∨ j = 10)) ∨ c = x ∨ c = k ∨ c = q ∨ c = v) τ τc ∧ (m' = 401 ∨ (0 < m' ∧ (τc.1 k (m' - 1)).toInt = 0)) ∧ ∀ (T : zTn) (m : Nat), zTm T m → zTK T m → (∀ j, j < m → (τc.1 k j).toInt = zrho (T.1 j) ∧ (τc.1 q j).toInt = T.2.2.2 j ∧ (T.1 j = 23 → (τc.1 v j).toInt = T.2.2.1 j) ∧ τc.2.1 nm j = (T.2.1 j).2) → ∃ (y : Int32) (K : Int32 → zS → Int32 × zS), zXo a k q v nm nO m T (zRi a τc) aZ ∧ F_X11_read a τ = F_X11_read_117 y a K 10000 (zRi a τc) := by
  obtain ⟨f, y, τ', u1, u2, u3, u4, u5, u6⟩ := rcopy (a := a) hx.1 hbx hn2 10000 0 0 (zu τ.1 a 4 (τ.1 a 2), τ.2.1, τ.2.2) (by decide) (by omega) (by omega) r3 r1 (by show (zu τ.1 a 4 _ a 4).toInt = _; rw [zu_s]; exact hn) (fun i => by show -128 ≤ (zu τ.1 a 4 _ bt i).toInt ∧ (zu τ.1 a 4 _ bt i).toInt ≤ 127; rw [zu_n _ _ _ hba]; exact hb i)
  have w1 : τ'.2.1 = τ.2.1 := by rw [u2]
  have w2 : τ'.2.2 = τ.2.2 := by rw [u2]
  have tb : ∀ i, i < n → τ'.1 x i = τ.1 bt i := fun i hi => by
    rw [u5 i (Nat.zero_le _) hi]
    show zu τ.1 a 4 _ bt i = _
    rw [zu_n _ _ _ hba]
  have tx : ∀ i, n ≤ i → τ'.1 x i = τ.1 x i := fun i hi => by
    rw [u6 i hi]
    show zu τ.1 a 4 _ x i = _
    rw [zu_n _ _ _ hx.1]
  obtain ⟨N, hN, eN⟩ : ∃ N : Nat, 1700000 < N ∧ F_X11_cut a (zu τ'.1 a 2 0, τ'.2.1, τ'.2.2) = F_X11_cut_7 a N 0 (zu (zu τ'.1 a 2 0) a 10 0, τ'.2.1, τ'.2.2) := by
    unfold F_X11_cut
    simp only [zlt]
    exact ⟨2000000, by omega, rfl⟩
  have x3 : ∀ j, zu (zu τ'.1 a 2 (0 : Int32)) a 10 (0 : Int32) x j = τ'.1 x j := fun j => by rw [zu_n _ _ _ hx.1, zu_n _ _ _ hx.1]
  obtain ⟨m', E', z1, z2, z3, z4, z5⟩ := rc_loop hd hx hyn N 0 (zu (zu τ'.1 a 2 0) a 10 0, τ'.2.1, τ'.2.2) 0 0 0 (fun _ => 0) (n := n)
    (by
      refine ⟨by show τ'.2.2 a 3 = _; rw [w2]; exact r3, ?_, hn2, fun j => ?_⟩
      · show (zu (zu τ'.1 a 2 (0 : Int32)) a 10 (0 : Int32) a 4).toInt = _
        rw [zu_j _ _ _ _ _ (by decide), zu_j _ _ _ _ _ (by decide), u3 a (fun z => hx.1 z.symm)]
        show (zu τ.1 a 4 _ a 4).toInt = _
        rw [zu_s]; exact hn
      · show -128 ≤ (zu (zu τ'.1 a 2 (0 : Int32)) a 10 (0 : Int32) x j).toInt ∧ (zu (zu τ'.1 a 2 (0 : Int32)) a 10 (0 : Int32) x j).toInt ≤ 127
        rw [x3]
        by_cases c : j < n
        · rw [tb j c]; exact hb j
        · rw [tx j (by omega)]; exact hxb j)
    (by unfold zRl; show τ'.2.2 a 5 = _ ∧ τ'.2.2 a 6 = _ ∧ τ'.2.2 a 7 = _ ∧ τ'.2.2 a 8 = _ ∧ τ'.2.2 a 9 = _; rw [w2]; exact hl)
    (by show (zu (zu τ'.1 a 2 (0 : Int32)) a 10 (0 : Int32) a 10).toInt = _; rw [zu_s]; decide)
    (by omega) (by decide) (Nat.le_refl _) (Nat.zero_le _) rfl (fun j _ h => absurd h (by omega)) ⟨rfl, fun j hj => absurd hj (by omega), fun j hj => absurd hj (by omega)⟩ (fun z => absurd rfl z) (by omega)
  obtain ⟨C, hC⟩ : ∃ c : zS, c = F_X11_cut_7 a N 0 (zu (zu τ'.1 a 2 0) a 10 0, τ'.2.1, τ'.2.2) := ⟨_, rfl⟩
  rw [← hC] at z1 z3 z4 z5 eN
  have z3' : zRq (τ.1 bt) n (τ.2.1 ky) k q v nm C m' E' := by
    have z3b : zRq (fun j => zu (zu τ'.1 a 2 (0 : Int32)) a 10 (0 : Int32) x j) n (τ'.2.1 ky) k q v nm C m' E' := z3
    rw [w1] at z3b
    exact zRq_cg (fun j hj => by show zu (zu τ'.1 a 2 (0 : Int32)) a 10 (0 : Int32) x j = _; rw [x3, tb j hj]) z3b
  obtain ⟨e5, e6, e7, e8, e9⟩ := id hl
  have w0 : zFi (fun c j => (c = a ∧ (j = 2 ∨ j = 4 ∨ j = 10)) ∨ c = x ∨ c = k ∨ c = q ∨ c = v) τ τ' := ⟨by rw [u2], fun c j n => by
    rw [u3 c (fun z => n (Or.inr (Or.inl z)))]
    show zu τ.1 a 4 _ c j = _
    unfold zu
    by_cases e : c = a
    · rw [if_pos e, if_neg (fun z => n (Or.inl ⟨e, Or.inr (Or.inl z)⟩)), e]
    · rw [if_neg e]⟩
  have w3 := (w0.w (r := a) (j := 2) (v := (0 : Int32)) (Or.inl ⟨rfl, Or.inl rfl⟩)).w (r := a) (j := 10) (v := (0 : Int32)) (Or.inl ⟨rfl, Or.inr (Or.inr rfl)⟩)
  have g5 : (τ.2.2 a 5).getD 0 = k := by rw [e5]; rfl
  have g6 : (τ.2.2 a 6).getD 0 = q := by rw [e6]; rfl
  have g7 : (τ.2.2 a 7).getD 0 = v := by rw [e7]; rfl
  have fC : zFi (fun c j => (c = a ∧ (j = 2 ∨ j = 4 ∨ j = 10)) ∨ c = x ∨ c = k ∨ c = q ∨ c = v) τ C := by
    rw [hC]
    exact fi_X11_cut_7 (fun _ => Or.inr (Or.inr (Or.inl g5))) (fun _ => Or.inr (Or.inr (Or.inr (Or.inl g6)))) (fun _ => Or.inr (Or.inr (Or.inr (Or.inr g7)))) (Or.inl ⟨rfl, Or.inr (Or.inr rfl)⟩) N 0 _ w3
  refine ⟨C, m', E', z2, z3', fC, z4, fun T m hT hK ht => ?_⟩
  obtain ⟨dk, dq, dv, -, -, -⟩ := hd
  have c2 : C.2.2 = τ.2.2 := by rw [z5.1]; exact w2
  obtain ⟨i1, i2, i3, i4, i5⟩ := zRi_f (t := C) dk dq dv (by rw [c2]; exact hs)
  have j2 : (zRi a C).2.2 = τ.2.2 := by rw [i1]; exact c2
  have j1 : (zRi a C).2.1 = C.2.1 := by rw [i1]
  have base : zXo a k q v nm nO m T (zRi a C) aZ := by
    refine ⟨⟨⟨⟨?_, ?_, ?_, ?_, ?_⟩, fun j hj => ?_, fun j hj => ?_⟩, i5 13 (by omega), Int.le_refl _, fun z => absurd rfl z, fun _ => ⟨hK.1, i5 11 (by omega), i5 15 (by omega), Int.le_refl _, fun z => absurd rfl z, i5 41 (by omega), i5 42 (by omega), ⟨Int.le_refl _, (by decide : (0 : Int) ≤ 11)⟩, fun p h1 h2 => ?_⟩⟩, fun _ => i5 12 (by omega)⟩
    · rw [j2]; exact e5
    · rw [j2]; exact e6
    · rw [j2]; exact e7
    · rw [j2]; exact e8
    · rw [j2]; exact r20
    · rw [i2, i3, i4, j1]
      exact ht j hj
    · rw [j2]; exact hs j hj
    · have h1' : (p : Int) ≤ 0 := h1
      have h2' : p ≠ 0 ∨ (0 : Int) ≠ 0 := h2
      omega
  refine ⟨y, F_X11_read_10 a f, base, ?_⟩
  unfold F_X11_read
  simp only [zlt]
  rw [u1, eN]
end
-- 35x46.rd5
section
/-! BOTH READ: the tokens, where the loops begin -/
/-- what the class writes while it reads (the text told into tt) -/
def zAc (L : List Nat) (kd : Nat → Nat) (tt : Nat) (R : Nat → Nat → Option Nat) : Nat → Nat → Prop := fun c _ => (c ∈ L ∧ (kd c = 3 ∨ kd c = 8 ∨ kd c = 41 ∨ kd c = 43)) ∨ c = tt ∨ ∃ j, 2 ≤ j ∧ j ≤ 9 ∧ j ≠ 8 ∧ c = (R tt j).getD 0
section READ1
variable {κ k : Int} {L1 : List Nat} {kd1 : Nat → Nat} {L2 : List Nat} {kd2 : Nat → Nat} {σ1 σ2 τ1 τ2 : zS} {m0 x0 : Nat}
set_option maxHeartbeats 1000000 in
theorem zRead1 (h : zSAM κ L1 kd1 L2 kd2 σ1 σ2) (hI1 : zI κ 0 L1 kd1 σ1) (hI2 : zJ κ L2 kd2 σ2) (hx0 : zT L1 kd1 x0 10) (hm0 : zT L2 kd2 m0 11) : ∃ (T : zTn) (m P tk kA vA qA tt N k q v nm nO x p1 : Nat) (p2 : Int32) (C0 D0 S0 : zS) (y : Int32) (K : Int32 → zS → Int32 × zS),
    (zVd P tk kA vA qA N ∧ zWd m0 k q v nm nO ∧ zTm T m ∧ zTK T m) ∧ (zV P tk kA vA qA tt N m T C0 aZ ∧ zXo m0 k q v nm nO m T (zRi m0 D0) aZ) ∧ (zPs x0 σ1 = F_X3_parse_59 P p1 p2 tt 10000 0 C0 ∧ F_X11_read m0 σ2 = F_X11_read_117 y m0 K 10000 (zRi m0 D0)) ∧ (σ1.2.2 x0 1 = some P ∧ σ1.2.2 x0 11 = some tt ∧ zT L1 kd1 P 3 ∧ zT L1 kd1 tt 9) ∧ C0.2.2 = zu σ1.2.2 P 1 (some tt) ∧ (∀ c j, ¬ zAc L1 kd1 tt σ1.2.2 c j → C0.1 c j = σ1.1 c j) ∧ zFi (fun c _ => c = P) (F_X9_clear tt (S0.1, S0.2.1, zu σ1.2.2 P 1 (some tt))) C0 ∧ zFi (fun c j => (c = m0 ∧ (j = 2 ∨ j = 4 ∨ j = 10)) ∨ c = x ∨ c = k ∨ c = q ∨ c = v) σ2 D0 ∧ (zT L2 kd2 x 103 ∧ zT L2 kd2 k 105 ∧ zT L2 kd2 q 106 ∧ zT L2 kd2 v 107) := by
  obtain ⟨t, t1, t2⟩ := zi_ref (j := 0) (k2 := 7) hI1 hx0 (by rfl)
  obtain ⟨P, P1, P2⟩ := zi_ref (j := 1) (k2 := 3) hI1 hx0 (by rfl)
  obtain ⟨tt, s1, s2⟩ := zi_ref (j := 11) (k2 := 9) hI1 hx0 (by rfl)
  obtain ⟨bt, b1, b2⟩ := zj_ref (j := 1) (k2 := 101) hI2 hm0 (by rfl)
  obtain ⟨p1, u1, u2, u3⟩ := h.1 t bt t2 b2
  obtain ⟨tk, l0, k2⟩ := zi_ref (j := 0) (k2 := 8) hI1 P2 (by rfl)
  obtain ⟨w, w1, w2⟩ := zi_ref (j := 0) (k2 := 40) hI1 k2 (by rfl)
  obtain ⟨kA, ka1, ka2⟩ := zi_ref (j := 1) (k2 := 41) hI1 k2 (by rfl)
  obtain ⟨vA, va1, va2⟩ := zi_ref (j := 2) (k2 := 42) hI1 k2 (by rfl)
  obtain ⟨qA, qa1, qa2⟩ := zi_ref (j := 3) (k2 := 43) hI1 k2 (by rfl)
  obtain ⟨N, n1, n2⟩ := zi_ref (j := 1) (k2 := 44) hI1 s2 (by rfl)
  have rt := zi_get (j := 1) hI1 t2 (lo := κ) (hi := κ) (by rfl)
  have rm := zj_get (j := 2) hI2 hm0 (lo := κ) (hi := κ) (by rfl)
  have hκ := hI1.2.2.1
  obtain ⟨n, hn⟩ : ∃ n : Nat, (n : Int) = κ := ⟨κ.toNat, by omega⟩
  obtain ⟨x, x1, x2⟩ := zj_ref (j := 3) (k2 := 103) hI2 hm0 (by rfl)
  obtain ⟨k, ck1, ck2⟩ := zj_ref (j := 5) (k2 := 105) hI2 hm0 (by rfl)
  obtain ⟨q, cq1, cq2⟩ := zj_ref (j := 6) (k2 := 106) hI2 hm0 (by rfl)
  obtain ⟨v, cv1, cv2⟩ := zj_ref (j := 7) (k2 := 107) hI2 hm0 (by rfl)
  obtain ⟨nm, cn1, cn2⟩ := zj_ref (j := 8) (k2 := 108) hI2 hm0 (by rfl)
  obtain ⟨ky, cy1, cy2⟩ := zj_ref (j := 9) (k2 := 109) hI2 hm0 (by rfl)
  obtain ⟨nO, co1, co2⟩ := zj_ref (j := 20) (k2 := 120) hI2 hm0 (by rfl)
  have gt : (σ1.2.2 x0 0).getD 0 = t := by rw [t1]; rfl
  have gP : (σ1.2.2 x0 1).getD 0 = P := by rw [P1]; rfl
  have gs : (σ1.2.2 x0 11).getD 0 = tt := by rw [s1]; rfl
  have gp : (σ1.2.2 t 0).getD 0 = p1 := by rw [u1]; rfl
  have arr : ∀ j, (j = 2 ∨ j = 3 ∨ j = 4 ∨ j = 5 ∨ j = 6 ∨ j = 7 ∨ j = 9) → ∃ k2, 45 ≤ k2 ∧ zT L1 kd1 ((σ1.2.2 tt j).getD 0) k2 := fun j hj => by
    rcases hj with z | z | z | z | z | z | z <;> subst z
    · obtain ⟨y, y1, y2⟩ := zi_ref (j := 2) hI1 s2 (by rfl)
      exact ⟨45, by decide, by rw [y1]; exact y2⟩
    · obtain ⟨y, y1, y2⟩ := zi_ref (j := 3) hI1 s2 (by rfl)
      exact ⟨46, by decide, by rw [y1]; exact y2⟩
    · obtain ⟨y, y1, y2⟩ := zi_ref (j := 4) hI1 s2 (by rfl)
      exact ⟨47, by decide, by rw [y1]; exact y2⟩
    · obtain ⟨y, y1, y2⟩ := zi_ref (j := 5) hI1 s2 (by rfl)
      exact ⟨48, by decide, by rw [y1]; exact y2⟩
    · obtain ⟨y, y1, y2⟩ := zi_ref (j := 6) hI1 s2 (by rfl)
      exact ⟨49, by decide, by rw [y1]; exact y2⟩
    · obtain ⟨y, y1, y2⟩ := zi_ref (j := 7) hI1 s2 (by rfl)
      exact ⟨50, by decide, by rw [y1]; exact y2⟩
    · obtain ⟨y, y1, y2⟩ := zi_ref (j := 9) hI1 s2 (by rfl)
      exact ⟨51, by decide, by rw [y1]; exact y2⟩
  have hd : zVd P tk kA vA qA N := ⟨zNe k2 P2 (by decide), zNe ka2 P2 (by decide), zNe qa2 P2 (by decide), zNe va2 P2 (by decide), zNe n2 P2 (by decide), zNe n2 va2 (by decide)⟩
  have hd' : zRd m0 k q v nm := ⟨zNe ck2 hm0 (by decide), zNe cq2 hm0 (by decide), zNe cv2 hm0 (by decide), zNe ck2 cq2 (by decide), zNe ck2 cv2 (by decide), zNe cq2 cv2 (by decide)⟩
  obtain ⟨m, E, c1, c2, c3, c4, cr, c5⟩ := vRead1 (w := w) (p2 := σ1.1 t 1) (n := n) (p1 := p1) (σ := σ1) hd (zNe ka2 k2 (by decide)) (zNe qa2 k2 (by decide)) (zNe ka2 qa2 (by decide)) ⟨zNe u2 k2 (by decide), zNe u2 ka2 (by decide), zNe u2 qa2 (by decide)⟩ (zNe w2 va2 (by decide)) (by omega) (by omega) ⟨w1, ka1, va1, qa1⟩ l0 n1 ⟨⟨zNe s2 P2 (by decide), zNe s2 k2 (by decide), zNe s2 ka2 (by decide), zNe s2 qa2 (by decide)⟩, fun j hj => by
    obtain ⟨k3, y1, y2⟩ := arr j hj
    exact ⟨zNe y2 P2 (by omega), zNe y2 k2 (by omega), zNe y2 ka2 (by omega), zNe y2 qa2 (by omega)⟩⟩ (fun j => zi_get (lo := -128) (hi := 127) hI1 u2 (by rfl))
  obtain ⟨τc, m', E', d1, d2, dF, d3, d4⟩ := wRead1 (n := n) (τ := σ2) hd' ⟨zNe x2 hm0 (by decide), zNe x2 ck2 (by decide), zNe x2 cq2 (by decide), zNe x2 cv2 (by decide)⟩ (zNe b2 x2 (by decide)) (zNe b2 hm0 (by decide)) (zNe cy2 cn2 (by decide)) (zNe cn2 co2 (by decide)) ⟨ck1, cq1, cv1, cn1, cy1⟩ x1 b1 co1 (by omega) (by omega) (fun j => zj_get (lo := -128) (hi := 127) hI2 x2 (by rfl)) (fun j => zj_get (lo := -128) (hi := 127) hI2 b2 (by rfl)) (fun j hj => by
    obtain ⟨f, f21⟩ := zQs_k hj
    obtain ⟨y, y1, y2⟩ := zj_ref (j := j) hI2 hm0 f
    rw [y1]
    exact ⟨zNe y2 hm0 (by omega), zNe y2 ck2 (by omega), zNe y2 cq2 (by omega), zNe y2 cv2 (by omega)⟩)
  have d2' := zRq_cg (b' := σ1.1 p1) (fun j hj => (u3 j (by omega)).symm) d2
  have z := zall (fun i hi => h.2.1 w w2 i hi) (fun i hi => h.2.2 ky cy2 i hi) c3 d2' c2 d3 c1 (by rcases d3 with y | y <;> omega)
  obtain ⟨hK, C0, v0, e, er, ef⟩ := c5 (fun j => τc.2.1 nm j)
  have hTm : zTm (zTo kA vA qA (F_X8_scan tk p1 (σ1.1 t 1) σ1) (fun j => τc.2.1 nm j)) m := by
    refine ⟨fun j hj => zmono c3 j hj, fun j hj => ?_, fun j hj h22 => ?_⟩
    · obtain ⟨-, -, -, -, t1, t2, -, -⟩ := z j hj
      exact ⟨t1, t2⟩
    · obtain ⟨-, -, -, -, t1, t2, t3, -⟩ := z j hj
      exact t3 h22
  obtain ⟨y, K, w0, e2⟩ := d4 _ m hTm hK (fun j hj => by
    obtain ⟨-, -, t1, t2, -, -, -, t4⟩ := z j hj
    exact ⟨t2, t1.symm, fun y => (t4 y).symm, rfl⟩)
  rw [cr] at ef
  refine ⟨_, m, P, tk, kA, vA, qA, tt, N, k, q, v, nm, nO, x, p1, σ1.1 t 1, C0, τc, F_X8_scan tk p1 (σ1.1 t 1) σ1, y, K, ⟨hd, ⟨hd'.1, hd'.2.1, hd'.2.2.1, zNe cn2 co2 (by decide)⟩, hTm, hK⟩, ⟨v0, w0⟩, ⟨?_, e2⟩, ⟨P1, s1, P2, s2⟩, er, fun c j hc => ?_, ef, dF, ⟨x2, ck2, cq2, cv2⟩⟩
  · unfold zPs
    rw [gt, gP, gs, gp]
    exact e
  · have nP : c ≠ P := fun z => hc (Or.inl ⟨by rw [z]; exact P2.1, by rw [z, P2.2]; exact Or.inl rfl⟩)
    have ntk : c ≠ tk := fun z => hc (Or.inl ⟨by rw [z]; exact k2.1, by rw [z, k2.2]; exact Or.inr (Or.inl rfl)⟩)
    have nkA : c ≠ kA := fun z => hc (Or.inl ⟨by rw [z]; exact ka2.1, by rw [z, ka2.2]; exact Or.inr (Or.inr (Or.inl rfl))⟩)
    have nqA : c ≠ qA := fun z => hc (Or.inl ⟨by rw [z]; exact qa2.1, by rw [z, qa2.2]; exact Or.inr (Or.inr (Or.inr rfl))⟩)
    have ntt : c ≠ tt := fun z => hc (Or.inr (Or.inl z))
    have na : ∀ i, 2 ≤ i → i ≤ 9 → i ≠ 8 → c ≠ (σ1.2.2 tt i).getD 0 := fun i i1 i2 i3 z => hc (Or.inr (Or.inr ⟨i, i1, i2, i3, z⟩))
    rw [ef.2 c j nP]
    have gk : (σ1.2.2 tk 1).getD 0 = kA := by rw [ka1]; rfl
    have gq : (σ1.2.2 tk 3).getD 0 = qA := by rw [qa1]; rfl
    have nt : ∀ i, (zu σ1.2.2 P 1 (some tt) tt i) = σ1.2.2 tt i := fun i => by rw [zu_n _ _ _ (zNe s2 P2 (by decide))]
    have fs : zFi (fun c' _ => c' = tk ∨ c' = kA ∨ c' = qA) σ1 (F_X8_scan tk p1 (σ1.1 t 1) σ1) := fi_X8_scan zFi.id (Or.inl rfl) (fun _ => Or.inr (Or.inl gk)) (fun _ => Or.inr (Or.inr gq))
    have fc : zFi (fun c' _ => c' = tt ∨ ∃ i, 2 ≤ i ∧ i ≤ 9 ∧ i ≠ 8 ∧ c' = (σ1.2.2 tt i).getD 0) ((F_X8_scan tk p1 (σ1.1 t 1) σ1).1, (F_X8_scan tk p1 (σ1.1 t 1) σ1).2.1, zu σ1.2.2 P 1 (some tt)) (F_X9_clear tt ((F_X8_scan tk p1 (σ1.1 t 1) σ1).1, (F_X8_scan tk p1 (σ1.1 t 1) σ1).2.1, zu σ1.2.2 P 1 (some tt))) := fi_X9_clear zFi.id (Or.inl rfl) (Or.inl rfl) (fun _ => Or.inr ⟨9, by decide, by decide, by decide, by show (zu σ1.2.2 P 1 (some tt) tt 9).getD 0 = _; rw [nt]⟩) (fun _ => Or.inr ⟨6, by decide, by decide, by decide, by show (zu σ1.2.2 P 1 (some tt) tt 6).getD 0 = _; rw [nt]⟩) (fun _ => Or.inr ⟨7, by decide, by decide, by decide, by show (zu σ1.2.2 P 1 (some tt) tt 7).getD 0 = _; rw [nt]⟩) (Or.inl rfl) (Or.inl rfl) (Or.inl rfl) (Or.inl rfl)
    rw [fc.2 c j (by
      rintro (z | ⟨i, i1, i2, i3, z⟩)
      · exact ntt z
      · exact na i i1 i2 i3 z)]
    exact fs.2 c j (by
      rintro (z | z | z)
      · exact ntk z
      · exact nkA z
      · exact nqA z)
end READ1
end
-- 35x47.rd6
section
/-! THE CLASS READS: what is left -/
/-- the two texts: told, spare; their rows apart -/
def zTt (x0 : Nat) (R : Nat → Nat → Option Nat) (td tt : Nat) : Prop := R x0 10 = some td ∧ R x0 11 = some tt ∧ td ≠ tt ∧ ∀ j, 1 ≤ j → j ≤ 9 → j ≠ 8 → (R td j).getD 0 ≠ (R tt j).getD 0
section CREAD
variable {κ k : Int} {L1 : List Nat} {kd1 : Nat → Nat} {σ1 τ1 : zS} {x0 : Nat} {V : zWh} {ps pc sl rv sh cd P tk kA vA qA tt td N m p1 : Nat} {p2 : Int32} {T : zTn} {C0 : zS}
theorem vEnd_r {P : Nat} {T : zTn} {R : Nat → Nat → Option Nat} : ∀ (l : Nat) (s : zA) (τ : zS), τ.2.2 = R → (vEnd P T l s τ).2.2 = R := by
  intro l
  induction l with
  | zero => intro s τ h; exact h
  | succ l ih =>
    intro s τ h
    rw [vEnd]
    split
    · exact h
    · split
      · exact h
      · exact ih _ _ (rf_X3_telling (R := R) h)
theorem zAc.kk {R : Nat → Nat → Option Nat} (hI : ∀ j, 2 ≤ j → j ≤ 9 → j ≠ 8 → 45 ≤ kd1 ((R tt j).getD 0) ∧ kd1 ((R tt j).getD 0) ≤ 51) (ht : kd1 tt = 9) {c : Nat} {j : Nat} (h : zAc L1 kd1 tt R c j) : kd1 c = 3 ∨ kd1 c = 8 ∨ kd1 c = 41 ∨ kd1 c = 43 ∨ (kd1 c = 9 ∧ c = tt) ∨ (45 ≤ kd1 c ∧ kd1 c ≤ 51) := by
  rcases h with ⟨-, h⟩ | h | ⟨i, i1, i2, i3, h⟩
  · omega
  · subst h; omega
  · subst h
    have := hI i i1 i2 i3
    omega
theorem zTt_k (hI1 : zI κ 0 L1 kd1 σ1) (s2 : zT L1 kd1 tt 9) : ∀ j, 2 ≤ j → j ≤ 9 → j ≠ 8 → zT L1 kd1 ((σ1.2.2 tt j).getD 0) (if j = 9 then 51 else 43 + j) := fun j j1 j2 j3 => by
  rcases (show j = 2 ∨ j = 3 ∨ j = 4 ∨ j = 5 ∨ j = 6 ∨ j = 7 ∨ j = 9 by omega) with z | z | z | z | z | z | z <;> subst z
  · obtain ⟨y, y1, y2⟩ := zi_ref (j := 2) (k2 := 45) hI1 s2 (by rfl)
    rw [y1]; exact y2
  · obtain ⟨y, y1, y2⟩ := zi_ref (j := 3) (k2 := 46) hI1 s2 (by rfl)
    rw [y1]; exact y2
  · obtain ⟨y, y1, y2⟩ := zi_ref (j := 4) (k2 := 47) hI1 s2 (by rfl)
    rw [y1]; exact y2
  · obtain ⟨y, y1, y2⟩ := zi_ref (j := 5) (k2 := 48) hI1 s2 (by rfl)
    rw [y1]; exact y2
  · obtain ⟨y, y1, y2⟩ := zi_ref (j := 6) (k2 := 49) hI1 s2 (by rfl)
    rw [y1]; exact y2
  · obtain ⟨y, y1, y2⟩ := zi_ref (j := 7) (k2 := 50) hI1 s2 (by rfl)
    rw [y1]; exact y2
  · obtain ⟨y, y1, y2⟩ := zi_ref (j := 9) (k2 := 51) hI1 s2 (by rfl)
    rw [y1]; exact y2
/-- the end of the tellings, by what it leaves -/
theorem vEnd_f (hI1 : zI κ 0 L1 kd1 σ1) (P2 : zT L1 kd1 P 3) (s2 : zT L1 kd1 tt 9) (er : C0.2.2 = zu σ1.2.2 P 1 (some tt)) (ef : ∀ c j, ¬ zAc L1 kd1 tt σ1.2.2 c j → C0.1 c j = σ1.1 c j) : ∀ (l : Nat) (s : zA), ∀ c j, ¬ zAc L1 kd1 tt σ1.2.2 c j → (vEnd P T l s C0).1 c j = σ1.1 c j := by
  have gt : (C0.2.2 P 1).getD 0 = tt := by rw [er, zu_s]; rfl
  have rt : ∀ j, C0.2.2 tt j = σ1.2.2 tt j := fun j => by rw [er, zu_n _ _ _ (zNk s2 P2 (by decide))]
  have key : ∀ (l : Nat) (s : zA) (τ : zS), zFi (zAc L1 kd1 tt σ1.2.2) C0 τ → zFi (zAc L1 kd1 tt σ1.2.2) C0 (vEnd P T l s τ) := by
    intro l
    induction l with
    | zero => intro s τ h; exact h
    | succ l ih =>
      intro s τ h
      rw [vEnd]
      split
      · exact h
      · split
        · exact h
        · have p : ∀ j, zAc L1 kd1 tt σ1.2.2 P j := fun j => Or.inl ⟨P2.1, Or.inl P2.2⟩
          have t : ∀ j, zAc L1 kd1 tt σ1.2.2 ((C0.2.2 P 1).getD 0) j := fun j => Or.inr (Or.inl gt)
          have r : ∀ i, 2 ≤ i → i ≤ 9 → i ≠ 8 → ∀ j, zAc L1 kd1 tt σ1.2.2 ((C0.2.2 ((C0.2.2 P 1).getD 0) i).getD 0) j := fun i i1 i2 i3 j => Or.inr (Or.inr ⟨i, i1, i2, i3, by rw [gt, rt]⟩)
          exact ih _ _ (fi_X3_telling h (p 2) (p 3) (p 5) (p 8) (p 9) (p 10) (p 11) (p 6) (r 2 (by decide) (by decide) (by decide)) (r 3 (by decide) (by decide) (by decide)) (r 4 (by decide) (by decide) (by decide)) (r 5 (by decide) (by decide) (by decide)) (p 7) (t 10) (t 11) (t 12) (t 13) (r 6 (by decide) (by decide) (by decide)) (r 7 (by decide) (by decide) (by decide)) (t 8) (r 9 (by decide) (by decide) (by decide)))
  exact fun l s c j n => ((key l s C0 zFi.id).2 c j n).trans (ef c j n)
set_option maxHeartbeats 1000000 in
theorem cRead (hL : zLay L1 kd1 x0 σ1.2.2 V ps pc sl) (hI1 : zI κ 0 L1 kd1 σ1) (hx0 : zT L1 kd1 x0 10) (hTt : zTt x0 σ1.2.2 td tt) (P1 : σ1.2.2 x0 1 = some P) (P2 : zT L1 kd1 P 3) (s2 : zT L1 kd1 tt 9) (hd : zVd P tk kA vA qA N) (hK : zTK T m) (v0 : zV P tk kA vA qA tt N m T C0 aZ) (e : zPs x0 σ1 = F_X3_parse_59 P p1 p2 tt 10000 0 C0) (er : C0.2.2 = zu σ1.2.2 P 1 (some tt)) (ef : ∀ c j, ¬ zAc L1 kd1 tt σ1.2.2 c j → C0.1 c j = σ1.1 c j) {v1 : Int32} (f1 : (v1, τ1) = F_X10_read x0 σ1) :
    v1.toInt = aAns (aRun T 500 aZ) ∧ (aAns (aRun T 500 aZ) ≠ 0 → τ1.2.2 = zu σ1.2.2 P 1 (some tt) ∧ ∀ c j, ¬ zAc L1 kd1 tt σ1.2.2 c j → ¬ (c = x0 ∧ j = 13) → kd1 c ≠ 7 → τ1.1 c j = σ1.1 c j) ∧
    (aAns (aRun T 500 aZ) = 0 → ((aRun T 500 aZ).1 = 0 ∧ (aRun T 500 aZ).2.2.2.1 = 0) ∧ τ1.2.2 = zu (zu (zu σ1.2.2 P 1 (some tt)) x0 11 (some td)) x0 10 (some tt) ∧ zcc V τ1.1 0 = (zt12 ((vEnd P T 500 aZ C0).1 ((σ1.2.2 tt 2).getD 0)), fun _ => 0, fun _ => 0, 0, 0, 0) ∧ (∀ k, k < 45 → k ≠ 0 → zcc V τ1.1 k = zcc V σ1.1 k) ∧ τ1.1 ps 1 = σ1.1 ps 1 ∧ τ1.1 ps 2 = 0 ∧ (∀ dy, σ1.2.2 x0 5 = some dy → τ1.1 dy 4 = 0) ∧ τ1.1 x0 12 = 0 ∧ (τ1.1 tt 0).toInt = (if (aRun T 500 aZ).2.2.2.2.2.1 = 0 then 0 else 1 + (aRun T 500 aZ).2.2.2.2.2.2.1) ∧ (∀ j, j ≠ 0 → τ1.1 tt j = (vEnd P T 500 aZ C0).1 tt j) ∧ (∀ j, 2 ≤ j → j ≤ 9 → j ≠ 8 → τ1.1 ((σ1.2.2 tt j).getD 0) = (vEnd P T 500 aZ C0).1 ((σ1.2.2 tt j).getD 0)) ∧ ∀ c, kd1 c = 25 ∨ kd1 c = 26 ∨ kd1 c = 27 ∨ kd1 c = 28 → τ1.1 c = σ1.1 c) := by
  obtain ⟨E, hE⟩ : ∃ E, E = vEnd P T 500 aZ C0 := ⟨_, rfl⟩
  obtain ⟨s, hs⟩ : ∃ s, s = aRun T 500 aZ := ⟨_, rfl⟩
  have fE := vEnd_f (T := T) hI1 P2 s2 er ef 500 aZ
  have rE := vEnd_r (P := P) (T := T) (R := zu σ1.2.2 P 1 (some tt)) 500 aZ C0 er
  obtain ⟨b, c, z, hr2, hz⟩ := vParseE (p1 := p1) (p2 := p2) (p3 := tt) hd hK 10000 0 0 C0 aZ (by decide) (by omega) (by omega) v0 (fun _ => Nat.zero_le _) 500 (by omega)
  have hr1 := (vParse (p1 := p1) (p2 := p2) (p3 := tt) hd hK 10000 0 0 C0 aZ (by decide) (by omega) (by omega) v0 (fun _ => Nat.zero_le _) 500 (by omega)).1
  rw [← hE] at fE rE hr2 ⊢
  rw [← hs] at hr1 hz ⊢
  rw [← e] at hr1 hr2
  obtain ⟨t, t1, t2⟩ := zi_ref (j := 0) (k2 := 7) hI1 hx0 (by rfl)
  obtain ⟨dy, y1, y2⟩ := zi_ref (j := 5) (k2 := 2) hI1 hx0 (by rfl)
  obtain ⟨q10, q11, qn, qr⟩ := hTt
  obtain ⟨F, hF⟩ : ∃ F, F = zu (zu (zu E.1 P 8 b) P 9 c) tt 0 z := ⟨_, rfl⟩
  rw [← hF] at hr2
  have xP : ¬ x0 = P := zNk hx0 P2 (by decide)
  have rx : ∀ j, E.2.2 x0 j = σ1.2.2 x0 j := fun j => by rw [rE, zu_n _ _ _ xP]
  have e1 : (E.2.2 x0 1).getD 0 = P := by rw [rx, P1]; rfl
  have e0 : (E.2.2 x0 0).getD 0 = t := by rw [rx, t1]; rfl
  have e10 : (E.2.2 x0 10).getD 0 = td := by rw [rx, q10]; rfl
  have e11 : (E.2.2 x0 11).getD 0 = tt := by rw [rx, q11]; rfl
  obtain ⟨r, hr⟩ : ∃ r, r = zPs x0 σ1 := ⟨_, rfl⟩
  rw [← hr] at hr1 hr2
  unfold F_X10_read at f1
  simp only [zlt, zlt2] at f1
  unfold zPs at hr
  rw [← hr] at f1
  have w1 : r.2.1 = F := congrArg (fun z => z.1) hr2
  have w2 : r.2.2.1 = E.2.1 := congrArg (fun z => z.2.1) hr2
  have w3 : r.2.2.2 = E.2.2 := congrArg (fun z => z.2.2) hr2
  simp only [w1, w2, w3, e1, e0] at f1
  obtain ⟨G, hG⟩ : ∃ G, G = zu (zu F x0 13 (F P 9)) t 1 0 := ⟨_, rfl⟩
  simp only [← hG] at f1
  have kr := fun j j1 j2 j3 => zTt_k hI1 s2 j j1 j2 j3
  have krn : ∀ j, 2 ≤ j → j ≤ 9 → j ≠ 8 → 45 ≤ kd1 ((σ1.2.2 tt j).getD 0) ∧ kd1 ((σ1.2.2 tt j).getD 0) ≤ 51 := fun j j1 j2 j3 => by
    rw [(kr j j1 j2 j3).2]
    split <;> omega
  have zk := fun c j h => zAc.kk (L1 := L1) (R := σ1.2.2) (c := c) (j := j) krn s2.2 h
  -- what G is
  have g1 : ∀ c, c ≠ P → c ≠ tt → c ≠ x0 → c ≠ t → G c = E.1 c := fun c h1 h2 h3 h4 => by
    rw [hG, zu_n _ _ _ h4, zu_n _ _ _ h3, hF, zu_n _ _ _ h2, zu_n _ _ _ h1, zu_n _ _ _ h1]
  have gk : ∀ c, c ≠ x0 → kd1 c ≠ 3 → kd1 c ≠ 7 → kd1 c ≠ 8 → kd1 c ≠ 9 → kd1 c ≠ 41 → kd1 c ≠ 43 → ¬ (45 ≤ kd1 c ∧ kd1 c ≤ 51) → G c = σ1.1 c := fun c n0 n3 n7 n8 n9 n41 n43 n45 => by
    rw [g1 c (fun z => n3 (by rw [z]; exact P2.2)) (fun z => n9 (by rw [z]; exact s2.2)) n0 (fun z => n7 (by rw [z]; exact t2.2))]
    exact funext (fun j => fE c j (fun q => by have := zk c j q; omega))
  have gtt : ∀ j, G tt j = if j = 0 then z else E.1 tt j := fun j => by
    rw [hG, zu_n _ _ _ (zNk s2 t2 (by decide)), zu_n _ _ _ (zNk s2 hx0 (by decide)), hF]
    by_cases c0 : j = 0
    · rw [if_pos c0, c0, zu_s]
    · rw [if_neg c0, zu_j _ _ _ _ _ (fun z => c0 z.symm), zu_n _ _ _ (zNk s2 P2 (by decide)), zu_n _ _ _ (zNk s2 P2 (by decide))]
  refine ⟨?_, fun na => ?_, fun ha => ?_⟩
  · rw [← hr1]
    split at f1
    · exact congrArg Int32.toInt (zPr2 f1).1
    · exact congrArg Int32.toInt (zPr2 f1).1
  · rw [if_neg (by rw [hr1]; exact na)] at f1
    have q := (zPr2 f1).2
    refine ⟨by rw [q]; exact rE, fun c j n1 n2 n3 => ?_⟩
    rw [q]
    show G c j = _
    have np : c ≠ P := fun z => n1 (Or.inl ⟨by rw [z]; exact P2.1, by rw [z]; exact Or.inl P2.2⟩)
    have nt : c ≠ tt := fun z => n1 (Or.inr (Or.inl z))
    rw [hG, zu_n _ _ _ (fun z => n3 (by rw [z]; exact t2.2))]
    have : zu F x0 13 (F P 9) c j = F c j := by
      by_cases cx : c = x0
      · rw [cx, zu_j _ _ _ _ _ (fun z => n2 ⟨cx, z.symm⟩)]
      · rw [zu_n _ _ _ cx]
    rw [this, hF, zu_n _ _ _ nt, zu_n _ _ _ np, zu_n _ _ _ np]
    exact fE c j n1
  · rw [if_pos (by rw [hr1]; exact ha)] at f1
    have q := (zPr2 f1).2
    obtain ⟨hz1, hz2⟩ := hz ha
    simp only [e10, e11] at q
    have n11 : ∀ (X : Option Nat), (zu E.2.2 x0 11 X x0 11).getD 0 = X.getD 0 := fun X => by rw [zu_s]
    obtain ⟨R9, hR9⟩ : ∃ R9, R9 = zu (zu E.2.2 x0 11 (some td)) x0 10 (some tt) := ⟨_, rfl⟩
    have q' : τ1 = F_X10_beginAnew x0 (G, E.2.1, R9) := by rw [q, hR9]
    have r9x : ∀ j, j < 10 → R9 x0 j = σ1.2.2 x0 j := fun j hj => by
      rw [hR9, zu_j _ _ _ _ _ (by omega), zu_j _ _ _ _ _ (by omega)]; exact rx j
    have r9n : ∀ c, c ≠ x0 → c ≠ P → R9 c = σ1.2.2 c := fun c h1 h2 => by
      rw [hR9, zu_n _ _ _ h1, zu_n _ _ _ h1, rE, zu_n _ _ _ h2]
    have hL9 : zLay L1 kd1 x0 (G, E.2.1, R9).2.2 V ps pc sl := hL.keep (fun a ha hk => r9n a (fun z => by rw [z, hx0.2] at hk; omega) (fun z => by rw [z, P2.2] at hk; omega)) r9x
    have d1 : ((G, E.2.1, R9).2.2 x0 10).getD 0 = tt := by
      show (R9 x0 10).getD 0 = tt
      rw [hR9, zu_s]; rfl
    have d2 : ((G, E.2.1, R9).2.2 tt 2).getD 0 = (σ1.2.2 tt 2).getD 0 := by
      show (R9 tt 2).getD 0 = _
      rw [r9n tt (zNk s2 hx0 (by decide)) (zNk s2 P2 (by decide))]
    have y9 : ((G, E.2.1, R9).2.2 x0 5).getD 0 = dy := by
      show (R9 x0 5).getD 0 = dy
      rw [r9x 5 (by decide), y1]; rfl
    obtain ⟨b1, b2, b3, b4, b5, b6, b7, b8⟩ := cBeg hL9 d1 d2 (kr 2 (by decide) (by decide) (by decide)) y9 y2
    rw [← q'] at b1 b2 b3 b4 b5 b6 b7 b8
    obtain ⟨⟨tA, tI, tW, tM⟩, -⟩ := hL.2.2.2.1 0 (by decide)
    have tps : zT L1 kd1 ps 4 := hL.2.2.2.2.2.2.1
    have b8k : ∀ c, kd1 c ≠ 1 → kd1 c ≠ 22 → kd1 c ≠ 23 → kd1 c ≠ 24 → kd1 c ≠ 4 → kd1 c ≠ 2 → kd1 c ≠ 10 → τ1.1 c = G c := fun c h1 h2 h3 h4 h5 h6 h7 => b8 c (by
      rintro (z | z | z | z | z | z | z)
      · exact h1 (by rw [z]; exact tA.2)
      · exact h2 (by rw [z]; exact tI.2)
      · exact h3 (by rw [z]; exact tW.2)
      · exact h4 (by rw [z]; exact tM.2)
      · exact h5 (by rw [z]; exact tps.2)
      · exact h6 (by rw [z]; exact y2.2)
      · exact h7 (by rw [z]; exact hx0.2))
    have kA' : ∀ c k, kd1 c = k → (k = 1 ∨ k = 4 ∨ k = 22 ∨ k = 23 ∨ k = 24 ∨ k = 25 ∨ k = 26 ∨ k = 27 ∨ k = 28) → G c = σ1.1 c := fun c k hc hk => gk c (fun z => by rw [z, hx0.2] at hc; omega) (by omega) (by omega) (by omega) (by omega) (by omega) (by omega) (by omega)
    have gr : ∀ j, 2 ≤ j → j ≤ 9 → j ≠ 8 → G ((σ1.2.2 tt j).getD 0) = E.1 ((σ1.2.2 tt j).getD 0) := fun j j1 j2 j3 => by
      have := krn j j1 j2 j3
      exact g1 _ (fun z => by rw [z, P2.2] at this; omega) (fun z => by rw [z, s2.2] at this; omega) (fun z => by rw [z, hx0.2] at this; omega) (fun z => by rw [z, t2.2] at this; omega)
    have kt : ∀ j, τ1.1 tt j = G tt j := fun j => congrFun (b8k tt (by rw [s2.2]; decide) (by rw [s2.2]; decide) (by rw [s2.2]; decide) (by rw [s2.2]; decide) (by rw [s2.2]; decide) (by rw [s2.2]; decide) (by rw [s2.2]; decide)) j
    refine ⟨hz1, ?_, ?_, fun k hk h0 => ?_, ?_, b5, fun dy' hy' => ?_, b7, ?_, fun j hj => ?_, fun j j1 j2 j3 => ?_, fun c hc => ?_⟩
    · rw [show τ1.2.2 = R9 from congrArg (fun z => z.2) b1, hR9, rE]
    · rw [b2]
      show (zt12 (G ((σ1.2.2 tt 2).getD 0)), _) = _
      rw [gr 2 (by decide) (by decide) (by decide)]
    · rw [b3 k hk h0]
      obtain ⟨⟨uA, uI, uW, uM⟩, -⟩ := hL.2.2.2.1 k hk
      exact zcc.st (kA' _ _ uA.2 (by omega)) (kA' _ _ uI.2 (by omega)) (kA' _ _ uW.2 (by omega)) (kA' _ _ uM.2 (by omega))
    · rw [b4]
      exact congrFun (kA' _ _ tps.2 (by omega)) 1
    · have : dy' = dy := by rw [y1] at hy'; exact (Option.some.inj hy').symm
      rw [this]; exact b6
    · rw [kt, gtt, if_pos rfl]; exact hz2
    · rw [kt, gtt, if_neg hj]
    · have := krn j j1 j2 j3
      rw [b8k _ (by omega) (by omega) (by omega) (by omega) (by omega) (by omega) (by omega)]
      exact gr j j1 j2 j3
    · rw [b8k c (by omega) (by omega) (by omega) (by omega) (by omega) (by omega) (by omega)]
      exact kA' c _ rfl (by omega)
end CREAD
end
-- 35x48.rd7
section
/-! THE REFERENCE READS: where it begins, what is left -/
section MREADA
variable {a b : Nat} {τ t : zS} {Y : Nat → Nat}
/-- the side that is told is made plain -/
theorem aPm.pn (hY : zYz Y a τ.2.2) (h : zFi (aPm Y a b) τ t) {p : Int32} (hp : p.toInt = b) : zFi (aPm Y a b) τ (F_X11_plain a p t) ∧ (F_X11_plain a p t).1 (Y 21) b = 0 ∧ (F_X11_plain a p t).1 (Y 26) b = 0 ∧ (F_X11_plain a p t).1 (Y 27) b = 0 ∧ (F_X11_plain a p t).1 (Y 28) b = 1 ∧ (F_X11_plain a p t).1 (Y 29) b = 0 := by
  have e : ∀ j, zQs j → (t.2.2 a j).getD 0 = Y j := fun j hj => by rw [h.1]; exact (hY.1 j hj).1
  have en : p.toNatClampNeg = b := by rw [ztn, hp]; rfl
  have q : ∀ j, (j = 21 ∨ j = 26 ∨ j = 27 ∨ j = 28 ∨ j = 29 ∨ j = 30 ∨ j = 31) → zQs j := fun j hj => by unfold zQs; omega
  have d : ∀ i j, (i = 21 ∨ i = 26 ∨ i = 27 ∨ i = 28 ∨ i = 29 ∨ i = 30 ∨ i = 31) → (j = 21 ∨ j = 26 ∨ j = 27 ∨ j = 28 ∨ j = 29 ∨ j = 30 ∨ j = 31) → i ≠ j → Y i ≠ Y j := fun i j hi hj n => hY.2 i j (q i hi) (q j hj) n
  have E : F_X11_plain a p t = F_X11_plain_37 a p 10000 0 (zu (zu (zu (zu (zu t.1 ((t.2.2 a 21).getD 0) p.toNatClampNeg 0) ((t.2.2 a 26).getD 0) p.toNatClampNeg 0) ((t.2.2 a 27).getD 0) p.toNatClampNeg 0) ((t.2.2 a 28).getD 0) p.toNatClampNeg 1) ((t.2.2 a 29).getD 0) p.toNatClampNeg 0, t.2.1, t.2.2) := by
    unfold F_X11_plain
    simp only [zlt]
  rw [e 21 (q 21 (by omega)), e 26 (q 26 (by omega)), e 27 (q 27 (by omega)), e 28 (q 28 (by omega)), e 29 (q 29 (by omega)), en] at E
  obtain ⟨u, hu⟩ : ∃ u : zS, u = (zu (zu (zu (zu (zu t.1 (Y 21) b 0) (Y 26) b 0) (Y 27) b 0) (Y 28) b 1) (Y 29) b 0, t.2.1, t.2.2) := ⟨_, rfl⟩
  rw [← hu] at E
  have ru : u.2.2 = t.2.2 := by rw [hu]
  have hu2 : zFi (aPm Y a b) τ u := by
    rw [hu]
    exact ((((h.w (r := Y 21) (j := b) (v := (0 : Int32)) (Or.inr (Or.inr (Or.inl ⟨rfl, rfl⟩)))).w (r := Y 26) (j := b) (v := (0 : Int32)) (aPm.r (q 26 (by omega)) (by omega) b)).w (r := Y 27) (j := b) (v := (0 : Int32)) (aPm.r (q 27 (by omega)) (by omega) b)).w (r := Y 28) (j := b) (v := (1 : Int32)) (aPm.r (q 28 (by omega)) (by omega) b)).w (r := Y 29) (j := b) (v := (0 : Int32)) (aPm.r (q 29 (by omega)) (by omega) b)
  have f1 : zFi (fun c _ => c = Y 30 ∨ c = Y 31) u (F_X11_plain_37 a p 10000 0 u) := fi_X11_plain_37 (fun _ => Or.inl (by rw [ru]; exact e 30 (q 30 (by omega)))) (fun _ => Or.inr (by rw [ru]; exact e 31 (q 31 (by omega)))) _ _ _ zFi.id
  have f2 : zFi (aPm Y a b) τ (F_X11_plain_37 a p 10000 0 u) := hu2.tr (f1.up (fun c j z => by
    rcases z with z | z
    · rw [z]; exact aPm.r (q 30 (by omega)) (by omega) j
    · rw [z]; exact aPm.r (q 31 (by omega)) (by omega) j))
  have v : ∀ j, (j = 21 ∨ j = 26 ∨ j = 27 ∨ j = 28 ∨ j = 29) → (F_X11_plain_37 a p 10000 0 u).1 (Y j) b = u.1 (Y j) b := fun j hj => f1.2 _ _ (by
    rintro (z | z)
    · exact d j 30 (by omega) (by omega) (by omega) z
    · exact d j 31 (by omega) (by omega) (by omega) z)
  rw [E]
  refine ⟨f2, ?_, ?_, ?_, ?_, ?_⟩
  · rw [v 21 (by omega), hu]
    show zu _ (Y 29) b 0 (Y 21) b = 0
    rw [zu_n _ _ _ (d 21 29 (by omega) (by omega) (by decide)), zu_n _ _ _ (d 21 28 (by omega) (by omega) (by decide)), zu_n _ _ _ (d 21 27 (by omega) (by omega) (by decide)), zu_n _ _ _ (d 21 26 (by omega) (by omega) (by decide)), zu_s]
  · rw [v 26 (by omega), hu]
    show zu _ (Y 29) b 0 (Y 26) b = 0
    rw [zu_n _ _ _ (d 26 29 (by omega) (by omega) (by decide)), zu_n _ _ _ (d 26 28 (by omega) (by omega) (by decide)), zu_n _ _ _ (d 26 27 (by omega) (by omega) (by decide)), zu_s]
  · rw [v 27 (by omega), hu]
    show zu _ (Y 29) b 0 (Y 27) b = 0
    rw [zu_n _ _ _ (d 27 29 (by omega) (by omega) (by decide)), zu_n _ _ _ (d 27 28 (by omega) (by omega) (by decide)), zu_s]
  · rw [v 28 (by omega), hu]
    show zu _ (Y 29) b 0 (Y 28) b = 1
    rw [zu_n _ _ _ (d 28 29 (by omega) (by omega) (by decide)), zu_s]
  · rw [v 29 (by omega), hu]
    show zu _ (Y 29) b 0 (Y 29) b = 0
    rw [zu_s]
theorem zRi_e {a : Nat} {t : zS} : ∃ (p : Int32) (f : Nat → Nat → Int32) (x y : Int32), p = (1 : Int32) - t.1 a 18 ∧ f = zu (zu (zu (zu (zu t.1 a 11 0) a 12 0) a 13 0) a 15 0) a 19 p ∧ zRi a t = (zu (zu (zu (zu (F_X11_plain a p (f, t.2.1, t.2.2)).1 a 32 x) a 38 y) a 41 0) a 42 0, (F_X11_plain a p (f, t.2.1, t.2.2)).2.1, (F_X11_plain a p (f, t.2.1, t.2.2)).2.2) := by
  have e18 : zu (zu (zu (zu t.1 a 11 0) a 12 0) a 13 0) a 15 (0 : Int32) a 18 = t.1 a 18 := by rw [zu_j _ _ _ _ _ (by decide), zu_j _ _ _ _ _ (by decide), zu_j _ _ _ _ _ (by decide), zu_j _ _ _ _ _ (by decide)]
  obtain ⟨r, hr⟩ : ∃ r, r = zRi a t := ⟨_, rfl⟩
  rw [← hr]
  unfold zRi at hr
  simp only [zlt, e18, zu_s] at hr
  exact ⟨_, _, _, _, rfl, rfl, hr⟩
/-- the reference begins to read -/
theorem zRi_g (hY : zYz Y a t.2.2) (hb1 : b ≤ 1) (h18 : (t.1 a 18).toInt = 1 - (b : Int)) : ∃ t5 : zS, t5.2 = t.2 ∧ (t5.1 a 19).toInt = b ∧ (∀ c j, ¬ (c = a ∧ (j = 11 ∨ j = 12 ∨ j = 13 ∨ j = 15 ∨ j = 19)) → t5.1 c j = t.1 c j) ∧ zFi (aPm Y a b) t5 (zRi a t) ∧ (zRi a t).1 (Y 21) b = 0 ∧ (zRi a t).1 (Y 26) b = 0 ∧ (zRi a t).1 (Y 27) b = 0 ∧ (zRi a t).1 (Y 28) b = 1 ∧ (zRi a t).1 (Y 29) b = 0 := by
  have e1 : (1 : Int32).toInt = 1 := by decide
  obtain ⟨p, f, x, y, hp, hf, E⟩ := zRi_e (a := a) (t := t)
  have hpb : p.toInt = b := by rw [hp, zb_sub (by rw [e1, h18]; omega) (by rw [e1, h18]; omega), e1, h18]; omega
  obtain ⟨P, v21, v26, v27, v28, v29⟩ := aPm.pn (Y := Y) (a := a) (b := b) (τ := (f, t.2.1, t.2.2)) (t := (f, t.2.1, t.2.2)) hY zFi.id hpb
  obtain ⟨C, hC⟩ : ∃ C, C = F_X11_plain a p (f, t.2.1, t.2.2) := ⟨_, rfl⟩
  rw [← hC] at E P v21 v26 v27 v28 v29
  have n : ∀ j, (j = 21 ∨ j = 26 ∨ j = 27 ∨ j = 28 ∨ j = 29) → ∀ i, (zRi a t).1 (Y j) i = C.1 (Y j) i := fun j hj i => by
    have hn : ¬ Y j = a := (hY.1 j (by unfold zQs; omega)).2
    rw [E]
    show zu (zu (zu (zu C.1 a 32 x) a 38 y) a 41 0) a 42 0 (Y j) i = _
    rw [zu_n _ _ _ hn, zu_n _ _ _ hn, zu_n _ _ _ hn, zu_n _ _ _ hn]
  refine ⟨(f, t.2.1, t.2.2), rfl, ?_, fun c j hc => ?_, ?_, (n 21 (by omega) b).trans v21, (n 26 (by omega) b).trans v26, (n 27 (by omega) b).trans v27, (n 28 (by omega) b).trans v28, (n 29 (by omega) b).trans v29⟩
  · show (f a 19).toInt = b
    rw [hf, zu_s]; exact hpb
  · show f c j = t.1 c j
    rw [hf]
    by_cases e : c = a
    · subst e
      rw [zu_j _ _ _ _ _ (fun z => hc ⟨rfl, by omega⟩), zu_j _ _ _ _ _ (fun z => hc ⟨rfl, by omega⟩), zu_j _ _ _ _ _ (fun z => hc ⟨rfl, by omega⟩), zu_j _ _ _ _ _ (fun z => hc ⟨rfl, by omega⟩), zu_j _ _ _ _ _ (fun z => hc ⟨rfl, by omega⟩)]
    · rw [zu_n _ _ _ e, zu_n _ _ _ e, zu_n _ _ _ e, zu_n _ _ _ e, zu_n _ _ _ e]
  · rw [E]
    exact (((P.w (r := a) (j := 32) (v := x) (aPm.o (by decide))).w (r := a) (j := 38) (v := y) (aPm.o (by decide))).w (r := a) (j := 41) (v := (0 : Int32)) (aPm.o (by decide))).w (r := a) (j := 42) (v := (0 : Int32)) (aPm.o (by decide))
end MREADA
section MREADB
variable {κ : Int} {L2 : List Nat} {kd2 : Nat → Nat} {σ2 τ2 D0 : zS} {m0 k q v nm nO m x : Nat} {T : zTn}
theorem zYz.of (hJ : zJ κ L2 kd2 σ2) (hm : zT L2 kd2 m0 11) : zYz (mR σ2 m0) m0 σ2.2.2 := ⟨fun j hj => ⟨rfl, mR_m hJ hm (zQs_k hj).1 (by have := (zQs_k hj).2; omega)⟩, fun i j hi hj n => mR_ne hJ hm (zQs_k hi).1 (zQs_k hj).1 (by omega)⟩
/-- what the reference writes while it reads (b: the side told) -/
def zAm (Y : Nat → Nat) (a b x k q v : Nat) : Nat → Nat → Prop := fun c j => aPm Y a b c j ∨ (c = a ∧ j = 19) ∨ c = x ∨ c = k ∨ c = q ∨ c = v
/-- what beginning anew writes -/
def zBm (σ : zS) (a : Nat) : Nat → Nat → Prop := fun c j => (c = a ∧ (j = 17 ∨ j = 18 ∨ j = 50 ∨ j = 51 ∨ j = 57 ∨ j = 62)) ∨ c = mR σ a 48 ∨ c = mR σ a 49 ∨ c = mR σ a 67
set_option maxHeartbeats 1000000 in
theorem mRead (hJ : zJ κ L2 kd2 σ2) (hm : zT L2 kd2 m0 11) (hd : zWd m0 k q v nm nO) (hT : zTm T m) (hK : zTK T m) (w0 : zXo m0 k q v nm nO m T (zRi m0 D0) aZ) {y : Int32} {K : Int32 → zS → Int32 × zS} (e2 : F_X11_read m0 σ2 = F_X11_read_117 y m0 K 10000 (zRi m0 D0)) (dF : zFi (fun c j => (c = m0 ∧ (j = 2 ∨ j = 4 ∨ j = 10)) ∨ c = x ∨ c = k ∨ c = q ∨ c = v) σ2 D0) (tk : zT L2 kd2 x 103 ∧ zT L2 kd2 k 105 ∧ zT L2 kd2 q 106 ∧ zT L2 kd2 v 107) {v2 : Int32} (f2 : (v2, τ2) = F_X11_read m0 σ2) (g : zGa) :
    ∃ (b : Nat) (E : zS), b ≤ 1 ∧ (σ2.1 m0 18).toInt = 1 - (b : Int) ∧ E = xEnd m0 T 500 aZ (zRi m0 D0) ∧ E.2.2 = σ2.2.2 ∧ (E.1 m0 19).toInt = b ∧ (∀ c j, ¬ zAm (mR σ2 m0) m0 b x k q v c j → E.1 c j = σ2.1 c j) ∧ zXg (mR σ2 m0) b E (aRun T 500 aZ) (gRun T (aG T) 500 aZ g) ∧
      (aAns (aRun T 500 aZ) ≠ 0 → τ2.2.2 = σ2.2.2 ∧ ∀ c j, ¬ (c = m0 ∧ j = 17) → τ2.1 c j = E.1 c j) ∧
      (aAns (aRun T 500 aZ) = 0 → ((aRun T 500 aZ).1 = 0 ∧ (aRun T 500 aZ).2.2.2.1 = 0) ∧ ∃ N : Nat, N ≤ 12 ∧ (E.1 (mR σ2 m0 21) b).toInt = N ∧ v2 = 0 ∧ τ2.2.2 = σ2.2.2 ∧ (τ2.1 m0 18).toInt = b ∧ τ2.1 m0 57 = 0 ∧ τ2.1 m0 62 = 0 ∧ (∀ j, j < 3 → τ2.1 (mR σ2 m0 67) j = 0) ∧ (∀ j, j < 50 → τ2.1 (mR σ2 m0 48) j = if j < N then E.1 (mR σ2 m0 22) (12 * b + j) else 0) ∧ ∀ c j, ¬ zBm σ2 m0 c j → τ2.1 c j = E.1 c j) := by
  have hY := zYz.of hJ hm
  have r18 : 0 ≤ (σ2.1 m0 18).toInt ∧ (σ2.1 m0 18).toInt ≤ 1 := zj_get (j := 18) hJ hm (lo := 0) (hi := 1) (by rfl)
  obtain ⟨b, hb1, h18⟩ : ∃ b : Nat, b ≤ 1 ∧ (σ2.1 m0 18).toInt = 1 - (b : Int) := ⟨(1 - (σ2.1 m0 18).toInt).toNat, by omega, by omega⟩
  have nk : ∀ c kc : Nat, zT L2 kd2 c kc → kc ≠ 103 → kc ≠ 105 → kc ≠ 106 → kc ≠ 107 → c ≠ x ∧ c ≠ k ∧ c ≠ q ∧ c ≠ v := fun c kc hc n1 n2 n3 n4 => ⟨zNk hc tk.1 n1, zNk hc tk.2.1 n2, zNk hc tk.2.2.1 n3, zNk hc tk.2.2.2 n4⟩
  have m1 := nk m0 11 hm (by decide) (by decide) (by decide) (by decide)
  have d18 : D0.1 m0 18 = σ2.1 m0 18 := dF.2 _ _ (by
    rintro (⟨-, z⟩ | z | z | z | z)
    · omega
    · exact m1.1 z
    · exact m1.2.1 z
    · exact m1.2.2.1 z
    · exact m1.2.2.2 z)
  have rD : D0.2.2 = σ2.2.2 := dF.1
  have hYD : zYz (mR σ2 m0) m0 D0.2.2 := by rw [rD]; exact hY
  obtain ⟨t5, g1, g2, g3, g4, g5, -⟩ := zRi_g (t := D0) hYD hb1 (by rw [d18]; exact h18)
  have r5 : t5.2.2 = σ2.2.2 := (congrArg Prod.snd g1).trans rD
  have hY5 : zYz (mR σ2 m0) m0 t5.2.2 := by rw [r5]; exact hY
  have X0 : zXg (mR σ2 m0) b (zRi m0 D0) aZ g := fun _ _ => ⟨by rw [g5]; rfl, fun z => absurd rfl z, fun p h1 h2 => by have h2' : (p : Int) ≤ 0 := h2; omega⟩
  obtain ⟨E, hE⟩ : ∃ E, E = xEnd m0 T 500 aZ (zRi m0 D0) := ⟨_, rfl⟩
  obtain ⟨I0, I1, I2⟩ := xEndI hd hT hK (fun τ s g => zXg (mR σ2 m0) b τ s g ∧ zFi (aPm (mR σ2 m0) m0 b) t5 τ) (aG T) (fun τ s g h hs hi => ⟨xTellG hd hT hK h hs (by rw [hi.2.1, r5]; exact hY) (by rw [(aPm.sv hY5 hi.2).1]; exact g2) hb1 hi.1, xTellF hd hT hK h hs hY5 g2 hb1 hi.2⟩) 500 (zRi m0 D0) aZ g w0 ⟨X0, g4⟩
  rw [← hE] at I0 I1 I2
  have rE : E.2.2 = σ2.2.2 := I2.1.trans r5
  have E19 : (E.1 m0 19).toInt = b := by rw [(aPm.sv hY5 I2).1]; exact g2
  have EF : ∀ c j, ¬ zAm (mR σ2 m0) m0 b x k q v c j → E.1 c j = σ2.1 c j := fun c j n => by
    have n1 : ¬ aPm (mR σ2 m0) m0 b c j := fun z => n (Or.inl z)
    rw [I2.2 c j n1, g3 c j (fun z => by
      rcases z with ⟨z0, z⟩
      by_cases c19 : j = 19
      · exact n (Or.inr (Or.inl ⟨z0, c19⟩))
      · exact n1 (Or.inl ⟨z0, by omega⟩)), dF.2 c j (by
      rintro (⟨z0, z⟩ | z | z | z | z)
      · exact n1 (Or.inl ⟨z0, by omega⟩)
      · exact n (Or.inr (Or.inr (Or.inl z)))
      · exact n (Or.inr (Or.inr (Or.inr (Or.inl z))))
      · exact n (Or.inr (Or.inr (Or.inr (Or.inr (Or.inl z)))))
      · exact n (Or.inr (Or.inr (Or.inr (Or.inr (Or.inr z))))))]
  obtain ⟨A1, A2⟩ := xRunE hd hT hK (x7 := y) K 10000 (zRi m0 D0) aZ w0 (fun _ => by show 401 < 10000 + 0; omega) (by omega) 500 (fun _ => by show 401 < 500 + 0; omega) (by omega)
  rw [← hE] at A1 A2
  rw [← e2, ← f2] at A1 A2
  refine ⟨b, E, hb1, h18, hE, rE, E19, EF, I1, fun na => ?_, fun za => ?_⟩
  · obtain ⟨x', hx'⟩ := A1 na
    have hx2 : τ2 = (zu E.1 m0 17 x', E.2.1, E.2.2) := hx'
    refine ⟨by rw [hx2]; exact rE, fun c j n => ?_⟩
    rw [hx2]
    show zu E.1 m0 17 x' c j = _
    by_cases e : c = m0
    · rw [e, zu_j _ _ _ _ _ (fun z => n ⟨e, z.symm⟩)]
    · rw [zu_n _ _ _ e]
  · obtain ⟨⟨z1, z2⟩, K2, hK2⟩ := A2 za
    obtain ⟨s, hs⟩ : ∃ s : zS, s = (zu E.1 m0 17 (-1), E.2.1, E.2.2) := ⟨_, rfl⟩
    rw [← hs] at hK2
    have rs : s.2.2 = σ2.2.2 := by rw [hs]; exact rE
    have sn : ∀ c, c ≠ m0 → s.1 c = E.1 c := fun c hc => by rw [hs]; exact zu_n _ _ _ hc
    have s0 : ∀ j, j ≠ 17 → s.1 m0 j = E.1 m0 j := fun j hj => by rw [hs]; exact zu_j _ _ _ _ _ (fun z => hj z.symm)
    have n21 : mR σ2 m0 21 ≠ m0 := mR_m hJ hm (s := 21) (k := 121) (by rfl) (by decide)
    have n22 : mR σ2 m0 22 ≠ m0 := mR_m hJ hm (s := 22) (k := 122) (by rfl) (by decide)
    have n67 : mR σ2 m0 67 ≠ m0 := mR_m hJ hm (s := 67) (k := 167) (by rfl) (by decide)
    have n48 : mR σ2 m0 48 ≠ mR σ2 m0 67 := mR_ne hJ hm (s := 48) (s' := 67) (k := 148) (k' := 167) (by rfl) (by rfl) (by decide)
    have c11 := (I0.1.2.2.2.2 z1).2.2.2.2.2.2.2.1
    obtain ⟨N, hN, h12⟩ : ∃ N : Nat, (E.1 (mR σ2 m0 21) b).toInt = N ∧ N ≤ 12 := by
      have q := (I1 z1 z2).1
      by_cases cm : (aRun T 500 aZ).2.2.2.2.2.1 = 0
      · rw [if_pos cm] at q
        exact ⟨0, q, by omega⟩
      · rw [if_neg cm] at q
        exact ⟨(1 + (aRun T 500 aZ).2.2.2.2.2.2.1).toNat, by omega, by omega⟩
    -- the same world with the longs of now
    have hJ' : zJ κ L2 kd2 ((σ2.1, s.2.1, σ2.2.2) : zS) := hJ
    have sb : (s.1 m0 19).toInt = b := by rw [s0 19 (by decide)]; exact E19
    obtain ⟨B1, B2, B3, B4, B5, B6⟩ := mBg_e (σ := ((σ2.1, s.2.1, σ2.2.2) : zS)) (s := s) (N := N) (b := b) hJ' hm (Prod.ext rfl rs) sb hb1 (by show (s.1 (mR σ2 m0 21) b).toInt = N; rw [sn _ n21]; exact hN) h12
    have rb : (mBg m0 s).2.2 = σ2.2.2 := by rw [B1]
    have gh : ((mBg m0 s).2.2 m0 67).getD 0 = mR σ2 m0 67 := by rw [rb]
    obtain ⟨H1, H2, H3⟩ := mHeld (m0 := m0) (h := mR σ2 m0 67) (s := mBg m0 s) gh (kA := K) (kB := K2) 10000 0 0 (mBg m0 s) (by decide) (by omega) (by omega) zFr.id (fun j hj => absurd hj (by omega))
    rw [← hK2] at H1 H2 H3
    have H2' : zFr (fun c _ => c = mR σ2 m0 67) (mBg m0 s) τ2 := H2
    have H3' : ∀ j, j < 3 → τ2.1 (mR σ2 m0 67) j = 0 := H3
    have o : ∀ c j, c ≠ mR σ2 m0 67 → τ2.1 c j = (mBg m0 s).1 c j := fun c j hc => H2'.2 c j hc
    refine ⟨⟨z1, z2⟩, N, h12, hN, H1, H2'.rf.trans rb, ?_, ?_, ?_, H3', fun j hj => ?_, fun c j n => ?_⟩
    · rw [o m0 18 (fun z => n67 z.symm), B2]; exact sb
    · rw [o m0 57 (fun z => n67 z.symm)]; exact B3
    · rw [o m0 62 (fun z => n67 z.symm)]; exact B4
    · rw [o _ j n48]
      refine (B5 j hj).trans ?_
      show (if j < N then s.1 (mR σ2 m0 22) (12 * b + j) else 0) = _
      rw [sn _ n22]
    · have nn : ¬ zFm [18, 50, 51, 57, 62] [48, 49] m0 σ2.2.2 c j := by
        rintro (⟨w1, w2⟩ | ⟨w, w1, w2⟩)
        · simp only [List.mem_cons, List.not_mem_nil, or_false] at w2
          exact n (Or.inl ⟨w1, by omega⟩)
        · simp only [List.mem_cons, List.not_mem_nil, or_false] at w1
          rcases w1 with rfl | rfl
          · exact n (Or.inr (Or.inl w2))
          · exact n (Or.inr (Or.inr (Or.inl w2)))
      rw [o c j (fun z => n (Or.inr (Or.inr (Or.inr z)))), B6.2 c j nn]
      by_cases e : c = m0
      · rw [e]; exact s0 j (fun z => n (Or.inl ⟨e, Or.inl z⟩))
      · rw [sn _ e]
end MREADB
end
-- 35x49.rd8
section
/-! BOTH READ: what goes on then -/
section RD8A
variable {κ k : Int} {L1 : List Nat} {kd1 : Nat → Nat} {L2 : List Nat} {kd2 : Nat → Nat} {σ1 σ2 τ1 τ2 : zS} {m0 x0 : Nat} {Q : Nat → zCo → (Nat → Int32) → Prop} {V : zWh} {ps pc sl rv sh cd td tt dy : Nat}
theorem zRv.cl2 (hV : zRv L1 kd1 x0 rv sh cd σ1.2.2) (hr : ∀ a ∈ L1, (kd1 a = 0 ∨ kd1 a = 5 ∨ kd1 a = 6) → τ1.2.2 a = σ1.2.2 a) (h0 : ∀ j, j < 10 → τ1.2.2 x0 j = σ1.2.2 x0 j) (h10 : zT L1 kd1 ((τ1.2.2 x0 10).getD 0) 9) : zRv L1 kd1 x0 rv sh cd τ1.2.2 := by
  obtain ⟨⟨b1, b2, b3, b4⟩, ⟨t0, t1, t2, t3⟩, b, c, d, e, f⟩ := hV
  have rr : τ1.2.2 rv = σ1.2.2 rv := hr rv t1.1 (by rw [t1.2]; decide)
  have rs : τ1.2.2 sh = σ1.2.2 sh := hr sh t2.1 (by rw [t2.2]; decide)
  have rc : τ1.2.2 cd = σ1.2.2 cd := hr cd t3.1 (by rw [t3.2]; decide)
  exact ⟨⟨by rw [h0 2 (by decide)]; exact b1, by rw [h0 3 (by decide)]; exact b2, by rw [rr]; exact b3, by rw [rr]; exact b4⟩, ⟨t0, t1, t2, t3⟩, fun j hj => by rw [rr]; exact b j hj, fun j hj => by rw [rc]; exact c j hj, fun j h1 h2 => by rw [rs]; exact d j h1 h2, by rw [h0 9 (by decide)]; exact e, h10⟩
/-- the class' side, by the cells that bear on it -/
theorem zRL.cl2 (h : zRL Q L1 kd1 x0 m0 V ps pc sl rv sh cd σ1 σ2) (hx : zT L1 kd1 x0 10) (d1 : σ1.2.2 x0 10 = some td) (y1 : σ1.2.2 x0 5 = some dy) (hr : ∀ a ∈ L1, (kd1 a = 0 ∨ kd1 a = 1 ∨ kd1 a = 4 ∨ kd1 a = 5 ∨ kd1 a = 6 ∨ kd1 a = 10 ∨ kd1 a = 29 ∨ kd1 a = 52) → τ1.2.2 a = σ1.2.2 a) (hN : τ1.1 td 0 = σ1.1 td 0) (h1 : τ1.1 ps 1 = σ1.1 ps 1) (h2 : τ1.1 ps 2 = σ1.1 ps 2) (hy : τ1.1 dy 4 = σ1.1 dy 4) (h12 : τ1.1 x0 12 = σ1.1 x0 12) (hc : ∀ k, k < 45 → zcc V τ1.1 k = zcc V σ1.1 k) : zRL Q L1 kd1 x0 m0 V ps pc sl rv sh cd τ1 σ2 := by
  obtain ⟨hL, hV, N, n, u, ⟨a1, a2, a3, a4, a5, a6, a7, a8, a9⟩, hq, hu, hh⟩ := h
  have rx : τ1.2.2 x0 = σ1.2.2 x0 := hr x0 hx.1 (by rw [hx.2]; decide)
  have gd : (σ1.2.2 x0 10).getD 0 = td := by rw [d1]; rfl
  have gy : (σ1.2.2 x0 5).getD 0 = dy := by rw [y1]; rfl
  rw [gd] at a1
  rw [gy] at a9
  refine ⟨hL.keep (fun a ha hk => hr a ha (by omega)) (fun j _ => by rw [rx]), hV.cl2 (fun a ha hk => hr a ha (by omega)) (fun j _ => by rw [rx]) (by rw [rx]; exact hV.2.2.2.2.2.2), N, n, u, ⟨by rw [rx, gd, hN]; exact a1, a2, a3, by rw [h1]; exact a4, a5, by rw [h2]; exact a6, a7, a8, by rw [rx, gy, hy]; exact a9⟩, by rw [hc 0 (by decide)]; exact hq, fun i hi => by rw [hc _ (by omega)]; exact hu i hi, fun s hs => by rw [h12, hc (2 + s) (by omega)]; exact hh s hs⟩
/-- the reference's side, likewise -/
theorem zRL.m2 (h : zRL Q L1 kd1 x0 m0 V ps pc sl rv sh cd σ1 σ2) (hR : τ2.2.2 = σ2.2.2) (hf : ∀ j, j = 18 ∨ j = 57 ∨ j = 62 → τ2.1 m0 j = σ2.1 m0 j) (h21 : τ2.1 (mR σ2 m0 21) (σ2.1 m0 18).toInt.toNat = σ2.1 (mR σ2 m0 21) (σ2.1 m0 18).toInt.toNat) (hs : ∀ s, s = 48 ∨ s = 58 ∨ s = 67 ∨ s = 68 → ∀ j, τ2.1 (mR σ2 m0 s) j = σ2.1 (mR σ2 m0 s) j) : zRL Q L1 kd1 x0 m0 V ps pc sl rv sh cd σ1 τ2 := by
  obtain ⟨hL, hV, N, n, u, ⟨a1, a2, a3, a4, a5, a6, a7, a8, a9⟩, hq, hu, hh⟩ := h
  have er : ∀ s, mR τ2 m0 s = mR σ2 m0 s := fun s => by rw [mR, hR]
  refine ⟨hL, hV, N, n, u, ⟨a1, ?_, a3, a4, a5, a6, a7, by rw [hf 57 (by omega)]; exact a8, by rw [hf 62 (by omega)]; exact a9⟩, ?_, fun i hi => ?_, fun s hs3 => ?_⟩
  · rw [← a2]
    unfold zM zp
    rw [hf 18 (by omega)]
    show (τ2.1 (mR τ2 m0 21) _).toInt = (σ2.1 (mR σ2 m0 21) _).toInt
    rw [er, h21]
  · rw [er, rC_e (g := σ2.1) (r' := mR σ2 m0 48) (o' := 0) (fun j _ => hs 48 (by omega) _)]; exact hq
  · rw [er, rC_e (g := σ2.1) (r' := mR σ2 m0 58) (o' := 50 * (u - 1 - i)) (fun j _ => hs 58 (by omega) _)]; exact hu i hi
  · rw [er, er, hs 67 (by omega), rC_e (g := σ2.1) (r' := mR σ2 m0 68) (o' := 50 * s) (fun j _ => hs 68 (by omega) _)]; exact hh s hs3
end RD8A
section RD8B
variable {κ : Int} {L2 : List Nat} {kd2 : Nat → Nat} {σ2 : zS} {m0 b x k q v : Nat}
theorem zAm.row (hJ : zJ κ L2 kd2 σ2) (hm : zT L2 kd2 m0 11) (tk : zT L2 kd2 x 103 ∧ zT L2 kd2 k 105 ∧ zT L2 kd2 q 106 ∧ zT L2 kd2 v 107) {s : Nat} (hs : zf 0 11 s = some (100 + s)) (h44 : 44 ≤ s) (j : Nat) : ¬ zAm (mR σ2 m0) m0 b x k q v (mR σ2 m0 s) j := by
  have ts : zT L2 kd2 (mR σ2 m0 s) (100 + s) := mR_t hJ hm hs
  have n : ∀ i, zQs i → i ≤ 43 → mR σ2 m0 s ≠ mR σ2 m0 i := fun i hi h => mR_ne hJ hm hs (zQs_k hi).1 (by omega)
  have q : ∀ i, (i = 21 ∨ i = 22 ∨ i = 23 ∨ i = 24 ∨ i = 25) → zQs i := fun i hi => by unfold zQs; omega
  rintro ((⟨z, -⟩ | ⟨z, -⟩ | ⟨z, -⟩ | ⟨i, z1, -, z2, z⟩) | ⟨z, -⟩ | z | z | z | z)
  · exact zNk ts hm (by omega) z
  · rcases z with z | z | z | z
    · exact n 22 (q 22 (by omega)) (by decide) z
    · exact n 23 (q 23 (by omega)) (by decide) z
    · exact n 24 (q 24 (by omega)) (by decide) z
    · exact n 25 (q 25 (by omega)) (by decide) z
  · exact n 21 (q 21 (by omega)) (by decide) z
  · exact n i z1 z2 z
  · exact zNk ts hm (by omega) z
  · exact zNk ts tk.1 (by omega) z
  · exact zNk ts tk.2.1 (by omega) z
  · exact zNk ts tk.2.2.1 (by omega) z
  · exact zNk ts tk.2.2.2 (by omega) z
theorem zAm.fld (hJ : zJ κ L2 kd2 σ2) (hm : zT L2 kd2 m0 11) (tk : zT L2 kd2 x 103 ∧ zT L2 kd2 k 105 ∧ zT L2 kd2 q 106 ∧ zT L2 kd2 v 107) {j : Nat} (hj : j = 18 ∨ j = 57 ∨ j = 62) : ¬ zAm (mR σ2 m0) m0 b x k q v m0 j := by
  have n : ∀ i, zQs i → m0 ≠ mR σ2 m0 i := fun i hi z => mR_m hJ hm (zQs_k hi).1 (by have := (zQs_k hi).2; omega) z.symm
  have q : ∀ i, (i = 21 ∨ i = 22 ∨ i = 23 ∨ i = 24 ∨ i = 25) → zQs i := fun i hi => by unfold zQs; omega
  rintro ((⟨-, z⟩ | ⟨z, -⟩ | ⟨z, -⟩ | ⟨i, z1, -, z2, z⟩) | ⟨-, z⟩ | z | z | z | z)
  · omega
  · rcases z with z | z | z | z
    · exact n 22 (q 22 (by omega)) z
    · exact n 23 (q 23 (by omega)) z
    · exact n 24 (q 24 (by omega)) z
    · exact n 25 (q 25 (by omega)) z
  · exact n 21 (q 21 (by omega)) z
  · exact n i z1 z
  · omega
  · exact zNk hm tk.1 (by decide) z
  · exact zNk hm tk.2.1 (by decide) z
  · exact zNk hm tk.2.2.1 (by decide) z
  · exact zNk hm tk.2.2.2 (by decide) z
theorem zAm.r21 (hJ : zJ κ L2 kd2 σ2) (hm : zT L2 kd2 m0 11) (tk : zT L2 kd2 x 103 ∧ zT L2 kd2 k 105 ∧ zT L2 kd2 q 106 ∧ zT L2 kd2 v 107) {j : Nat} (hj : j ≠ b) : ¬ zAm (mR σ2 m0) m0 b x k q v (mR σ2 m0 21) j := by
  have q21 : zQs 21 := by unfold zQs; omega
  have ts : zT L2 kd2 (mR σ2 m0 21) 121 := mR_t hJ hm (by rfl)
  have n : ∀ i, zQs i → i ≠ 21 → mR σ2 m0 21 ≠ mR σ2 m0 i := fun i hi h => mR_ne hJ hm (zQs_k q21).1 (zQs_k hi).1 (by omega)
  have q : ∀ i, (i = 22 ∨ i = 23 ∨ i = 24 ∨ i = 25) → zQs i := fun i hi => by unfold zQs; omega
  rintro ((⟨z, -⟩ | ⟨z, -⟩ | ⟨-, z⟩ | ⟨i, z1, z2, z3, z⟩) | ⟨z, -⟩ | z | z | z | z)
  · exact zNk ts hm (by omega) z
  · rcases z with z | z | z | z
    · exact n 22 (q 22 (by omega)) (by decide) z
    · exact n 23 (q 23 (by omega)) (by decide) z
    · exact n 24 (q 24 (by omega)) (by decide) z
    · exact n 25 (q 25 (by omega)) (by decide) z
  · exact hj z
  · exact n i z1 (by omega) z
  · exact zNk ts hm (by omega) z
  · exact zNk ts tk.1 (by omega) z
  · exact zNk ts tk.2.1 (by omega) z
  · exact zNk ts tk.2.2.1 (by omega) z
  · exact zNk ts tk.2.2.2 (by omega) z
end RD8B
section RD8C
variable {κ : Int} {L1 : List Nat} {kd1 : Nat → Nat} {L2 : List Nat} {kd2 : Nat → Nat} {σ1 σ2 τ1 τ2 : zS} {m0 x0 : Nat} {V : zWh} {ps pc sl rv sh cd td tt : Nat}
theorem zTt.keep {R R' : Nat → Nat → Option Nat} (h : zTt x0 R td tt) (h1 : ∀ j, R' x0 j = R x0 j) (h2 : ∀ j, R' td j = R td j) (h3 : ∀ j, R' tt j = R tt j) : zTt x0 R' td tt := ⟨(h1 10).trans h.1, (h1 11).trans h.2.1, h.2.2.1, fun j a b c => by rw [h2, h3]; exact h.2.2.2 j a b c⟩
set_option maxHeartbeats 1000000 in
theorem zRL.read0 {v1 v2 : Int32} (hS : zSAM κ L1 kd1 L2 kd2 σ1 σ2) (h : zRL zQ0 L1 kd1 x0 m0 V ps pc sl rv sh cd σ1 σ2) (hTt : zTt x0 σ1.2.2 td tt) (hI1 : zI κ 0 L1 kd1 σ1) (hI2 : zJ κ L2 kd2 σ2) (hx0 : zT L1 kd1 x0 10) (hm0 : zT L2 kd2 m0 11) (f1 : (v1, τ1) = F_X10_read x0 σ1) (f2 : (v2, τ2) = F_X11_read m0 σ2) : zRL zQ0 L1 kd1 x0 m0 V ps pc sl rv sh cd τ1 τ2 ∧ ∃ td' tt', zTt x0 τ1.2.2 td' tt' := by
  obtain ⟨T, m, P, tk, kA, vA, qA, tt', N0, k, q, v, nm, nO, x, p1, p2, C0, D0, S0, y, K, ⟨hd, hd', hTm, hK⟩, ⟨v0, w0⟩, ⟨e, e2⟩, ⟨P1, s1, P2, s2⟩, er, ef, -, dF, tks⟩ := zRead1 hS hI1 hI2 hx0 hm0
  have ett : tt' = tt := Option.some.inj (s1.symm.trans hTt.2.1)
  subst ett
  obtain ⟨hL, hV, N, n, u, ⟨a1, a2, a3, a4, a5, a6, a7, a8, a9⟩, hq, hu, hh⟩ := id h
  obtain ⟨c1, c2, c3⟩ := cRead hL hI1 hx0 hTt P1 P2 s2 hd hK v0 e er ef f1
  obtain ⟨b, E, hb1, h18, hE, rE, E19, EF, EX, m1, m2⟩ := mRead hI2 hm0 hd' hTm hK w0 e2 dF tks f2 (fun _ => (0, 0, 0, 0))
  obtain ⟨dy, y1, y2⟩ := zi_ref (j := 5) (k2 := 2) hI1 hx0 (by rfl)
  have d1 := hTt.1
  have td9 : zT L1 kd1 td 9 := by
    obtain ⟨z, z1, z2⟩ := zi_ref (j := 10) (k2 := 9) hI1 hx0 (by rfl)
    rw [d1] at z1
    rw [Option.some.inj z1]
    exact z2
  have xP : x0 ≠ P := zNk hx0 P2 (by decide)
  have tP : tt' ≠ P := zNk s2 P2 (by decide)
  have dP : td ≠ P := zNk td9 P2 (by decide)
  have tps : zT L1 kd1 ps 4 := hL.2.2.2.2.2.2.1
  have kr := fun j j1 j2 j3 => zTt_k hI1 s2 j j1 j2 j3
  have krn : ∀ j, 2 ≤ j → j ≤ 9 → j ≠ 8 → 45 ≤ kd1 ((σ1.2.2 tt' j).getD 0) ∧ kd1 ((σ1.2.2 tt' j).getD 0) ≤ 51 := fun j j1 j2 j3 => by
    rw [(kr j j1 j2 j3).2]
    split <;> omega
  by_cases za : aAns (aRun T 500 aZ) = 0
  · obtain ⟨⟨z1, z2⟩, g1, g2, g3, g4, g5, g6, g7, g8, -, g10, -⟩ := c3 za
    obtain ⟨-, N2, l1, l2, -, l4, l5, l6, l7, l8, l9, l10⟩ := m2 za
    obtain ⟨X1, -, X3⟩ := EX z1 z2
    have rx : ∀ j, j ≠ 10 → j ≠ 11 → τ1.2.2 x0 j = σ1.2.2 x0 j := fun j j1 j2 => by
      rw [g1, zu_j _ _ _ _ _ (fun z => j1 z.symm), zu_j _ _ _ _ _ (fun z => j2 z.symm), zu_n _ _ _ xP]
    have ro : ∀ c, c ≠ x0 → c ≠ P → τ1.2.2 c = σ1.2.2 c := fun c h1 h2 => by rw [g1, zu_n _ _ _ h1, zu_n _ _ _ h1, zu_n _ _ _ h2]
    have rk : ∀ a ∈ L1, kd1 a ≠ 10 → kd1 a ≠ 3 → τ1.2.2 a = σ1.2.2 a := fun a _ k1 k2 => ro a (fun z => k1 (by rw [z]; exact hx0.2)) (fun z => k2 (by rw [z]; exact P2.2))
    have r10 : τ1.2.2 x0 10 = some tt' := by rw [g1, zu_s]
    have r11 : τ1.2.2 x0 11 = some td := by rw [g1, zu_j _ _ _ _ _ (by decide), zu_s]
    have g10' : (τ1.2.2 x0 10).getD 0 = tt' := by rw [r10]; rfl
    have g5' : (τ1.2.2 x0 5).getD 0 = dy := by rw [rx 5 (by decide) (by decide), y1]; rfl
    have er2 : ∀ s, mR τ2 m0 s = mR σ2 m0 s := fun s => by rw [mR, l4]
    have n48 : ∀ j, ¬ zBm σ2 m0 (mR σ2 m0 21) j := fun j => by
      rintro (⟨z, -⟩ | z | z | z)
      · exact mR_m hI2 hm0 (s := 21) (k := 121) (by rfl) (by decide) z
      · exact mR_ne hI2 hm0 (s := 21) (s' := 48) (k := 121) (k' := 148) (by rfl) (by rfl) (by decide) z
      · exact mR_ne hI2 hm0 (s := 21) (s' := 49) (k := 121) (k' := 149) (by rfl) (by rfl) (by decide) z
      · exact mR_ne hI2 hm0 (s := 21) (s' := 67) (k := 121) (k' := 167) (by rfl) (by rfl) (by decide) z
    -- the class' rows at the end of the tellings
    obtain ⟨W, hW⟩ : ∃ W : Nat → Nat, W = fun j => (σ1.2.2 tt' j).getD 0 := ⟨_, rfl⟩
    have Wk : ∀ j, 2 ≤ j → j ≤ 5 → zT L1 kd1 (W j) (43 + j) := fun j j1 j2 => by
      have := kr j j1 (by omega) (by omega)
      rw [if_neg (by omega)] at this
      rw [hW]; exact this
    have rC0 : ∀ j, C0.2.2 tt' j = σ1.2.2 tt' j := fun j => by rw [er, zu_n _ _ _ tP]
    have hWz : zWz W P tt' C0.2.2 := ⟨fun j j1 j2 => ⟨by rw [rC0, hW], zNk (Wk j j1 j2) P2 (by omega)⟩, fun i j i1 i2 j1 j2 n => zNk (Wk i i1 i2) (Wk j j1 j2) (by omega)⟩
    have hXz : ∀ j, 2 ≤ j → j ≤ 5 → W j ≠ tt' ∧ W j ≠ (C0.2.2 tt' 6).getD 0 ∧ W j ≠ (C0.2.2 tt' 7).getD 0 ∧ W j ≠ (C0.2.2 tt' 9).getD 0 := fun j j1 j2 => by
      have q6 : zT L1 kd1 ((σ1.2.2 tt' 6).getD 0) 49 := kr 6 (by decide) (by decide) (by decide)
      have q7 : zT L1 kd1 ((σ1.2.2 tt' 7).getD 0) 50 := kr 7 (by decide) (by decide) (by decide)
      have q9 : zT L1 kd1 ((σ1.2.2 tt' 9).getD 0) 51 := kr 9 (by decide) (by decide) (by decide)
      rw [rC0, rC0, rC0]
      exact ⟨zNk (Wk j j1 j2) s2 (by omega), zNk (Wk j j1 j2) q6 (by omega), zNk (Wk j j1 j2) q7 (by omega), zNk (Wk j j1 j2) q9 (by omega)⟩
    obtain ⟨-, VG, -⟩ := vEndI (tt := tt') hd hK (fun τ s g => zVg W τ s g ∧ τ.2.2 = C0.2.2) (aG T) (fun τ s g hv hs hi => ⟨vTellG hd hK hv hs (by rw [hi.2]; exact hWz) (by rw [hi.2]; exact hXz) hi.1, by rw [show (F_X3_telling P τ).2.2 = τ.2.2 from rf_X3_telling (R := τ.2.2) rfl]; exact hi.2⟩) 500 C0 aZ (fun _ => (0, 0, 0, 0)) v0 ⟨fun _ _ p h1 h2 => by have h2' : (p : Int) ≤ 0 := h2; omega, rfl⟩
    have VG' := VG z1 z2
    have tree : ∀ p : Nat, 1 ≤ p → p < N2 → (vEnd P T 500 aZ C0).1 ((σ1.2.2 tt' 2).getD 0) p = E.1 (mR σ2 m0 22) (12 * b + p) := fun p h1 h2 => by
      have hp : (p : Int) ≤ (aRun T 500 aZ).2.2.2.2.2.2.1 := by
        rw [l2] at X1
        split at X1
        · omega
        · omega
      have q1 := (VG' p h1 hp).1
      have q2 := (X3 p h1 hp).1
      rw [hW] at q1
      exact Int32.toInt_inj.mp (q1.trans q2.symm)
    refine ⟨⟨hL.keep (fun a ha hk => rk a ha (by omega) (by omega)) (fun j hj => rx j (by omega) (by omega)), hV.cl2 (fun a ha hk => rk a ha (by omega) (by omega)) (fun j hj => rx j (by omega) (by omega)) (by rw [g10']; exact s2), N2, n, 0, ⟨?_, ?_, l1, by rw [g4]; exact a4, a5, by rw [g5]; rfl, by omega, by rw [l6]; rfl, ?_⟩, ?_, fun i hi => absurd hi (by omega), fun s hs => Or.inr ⟨by rw [g7]; exact b_0 s, by rw [er2]; exact l8 s hs⟩⟩, tt', td, r10, r11, fun z => hTt.2.2.1 z.symm, fun j j1 j2 j3 => ?_⟩
    · rw [g10', g8, ← X1, l2]
    · unfold zM zp
      show (τ2.1 (mR τ2 m0 21) (τ2.1 m0 18).toInt.toNat).toInt = N2
      rw [er2, l5, l10 _ _ (n48 _)]
      exact l2
    · rw [g5', g6 dy y1, l7]
    · have e0 : ∀ j, j < 50 → rC τ2.1 (mR τ2 m0 48) 0 j = if j < N2 then E.1 (mR σ2 m0 22) (12 * b + j) else 0 := fun j hj => by rw [rC_i hj, Nat.zero_add, er2, l9 j hj]
      rw [g2]
      refine ⟨fun p h1 h2 => ?_, fun p h1 h2 => Or.inr ⟨b_0 p, ?_⟩, ?_, ?_⟩
      · rw [e0 p (by omega), if_pos h2]
        show zt12 _ p = _
        unfold zt12
        rw [if_pos (by omega)]
        exact tree p h1 h2
      · rw [e0 _ (by omega), if_neg (by omega)]
      · rw [e0 _ (by omega), if_neg (by omega)]
      · rw [e0 _ (by omega), if_neg (by omega)]
    · rw [ro tt' (zNk s2 hx0 (by decide)) tP, ro td (zNk td9 hx0 (by decide)) dP]
      exact fun z => hTt.2.2.2 j j1 j2 j3 z.symm
  · obtain ⟨g1, g2⟩ := c2 za
    obtain ⟨l1, l2⟩ := m1 za
    have ro : ∀ c, c ≠ P → τ1.2.2 c = σ1.2.2 c := fun c h1 => by rw [g1, zu_n _ _ _ h1]
    have fr : ∀ c j, kd1 c ≠ 3 → kd1 c ≠ 7 → kd1 c ≠ 8 → kd1 c ≠ 41 → kd1 c ≠ 43 → ¬ (45 ≤ kd1 c ∧ kd1 c ≤ 51) → c ≠ tt' → ¬ (c = x0 ∧ j = 13) → τ1.1 c j = σ1.1 c j := fun c j n3 n7 n8 n41 n43 n45 nt nx => g2 c j (by
      rintro (⟨-, z⟩ | z | ⟨i, i1, i2, i3, z⟩)
      · omega
      · exact nt z
      · have := krn i i1 i2 i3
        rw [← z] at this
        exact n45 this) nx n7
    have frk : ∀ c kc, zT L1 kd1 c kc → kc = 1 ∨ kc = 2 ∨ kc = 4 ∨ kc = 22 ∨ kc = 23 ∨ kc = 24 → τ1.1 c = σ1.1 c := fun c kc hc hk => funext (fun j => fr c j (by rw [hc.2]; omega) (by rw [hc.2]; omega) (by rw [hc.2]; omega) (by rw [hc.2]; omega) (by rw [hc.2]; omega) (by rw [hc.2]; omega) (fun z => by rw [z] at hc; have := hc.2.symm.trans s2.2; omega) (fun z => by have z1 := z.1; rw [z1] at hc; have := hc.2.symm.trans hx0.2; omega))
    have A := h.cl2 (τ1 := τ1) hx0 d1 y1 (fun a ha hk => ro a (fun z => by rw [z, P2.2] at hk; omega)) (fr td 0 (by rw [td9.2]; decide) (by rw [td9.2]; decide) (by rw [td9.2]; decide) (by rw [td9.2]; decide) (by rw [td9.2]; decide) (by rw [td9.2]; decide) hTt.2.2.1 (fun z => by omega)) (congrFun (frk ps 4 tps (by omega)) 1) (congrFun (frk ps 4 tps (by omega)) 2) (congrFun (frk dy 2 y2 (by omega)) 4) (fr x0 12 (by rw [hx0.2]; decide) (by rw [hx0.2]; decide) (by rw [hx0.2]; decide) (by rw [hx0.2]; decide) (by rw [hx0.2]; decide) (by rw [hx0.2]; decide) (zNk hx0 s2 (by decide)) (fun z => by omega)) (fun k hk => by
      obtain ⟨⟨uA, uI, uW, uM⟩, -⟩ := hL.2.2.2.1 k hk
      exact zcc.st (frk _ _ uA (by omega)) (frk _ _ uI (by omega)) (frk _ _ uW (by omega)) (frk _ _ uM (by omega)))
    have l : ∀ c j, ¬ (c = m0 ∧ j = 17) → ¬ zAm (mR σ2 m0) m0 b x k q v c j → τ2.1 c j = σ2.1 c j := fun c j n1 n2 => (l2 c j n1).trans (EF c j n2)
    refine ⟨A.m2 l1 (fun j hj => l _ _ (fun z => by omega) (zAm.fld hI2 hm0 tks hj)) (l _ _ (fun z => mR_m hI2 hm0 (s := 21) (k := 121) (by rfl) (by decide) z.1) (zAm.r21 hI2 hm0 tks (by omega))) (fun s hs j => l _ _ (fun z => mR_m hI2 hm0 (s := s) (k := 100 + s) (by rcases hs with rfl | rfl | rfl | rfl <;> rfl) (by omega) z.1) (zAm.row hI2 hm0 tks (by rcases hs with rfl | rfl | rfl | rfl <;> rfl) (by omega) j)), td, tt', hTt.keep (fun j => by rw [ro x0 xP]) (fun j => by rw [ro td dP]) (fun j => by rw [ro tt' tP])⟩
end RD8C
end
-- 35x50.rd9
section
/-! BOTH AS THEY ARE MADE -/
section RD9A
variable {b : Bool} {ks L : List Nat} {kd : Nat → Nat} {σ : zS} {x0 : Nat}
theorem zLay.of (hk : zKb b ks L kd σ) (hx : zT L kd x0 10) : ∃ V ps pc sl, zLay L kd x0 σ.2.2 V ps pc sl := by
  have hI := hk.1
  have ow := hk.2.2.2.2.1
  obtain ⟨nw, n1, n2⟩ := zi_ref (j := 6) (k2 := 1) hI hx (by rfl)
  obtain ⟨tr, r1, r2⟩ := zi_ref (j := 7) (k2 := 1) hI hx (by rfl)
  obtain ⟨sl, s1, s2⟩ := zi_ref (j := 8) (k2 := 52) hI hx (by rfl)
  obtain ⟨ps, p1, p2⟩ := zi_ref (j := 4) (k2 := 4) hI hx (by rfl)
  obtain ⟨pc, q1, q2⟩ := zi_ref (j := 0) (k2 := 29) hI p2 (by rfl)
  obtain ⟨A, hA⟩ : ∃ A : Nat → Nat, A = fun k => if k < 2 then x0 else if k < 5 then sl else pc := ⟨_, rfl⟩
  obtain ⟨J, hJ⟩ : ∃ J : Nat → Nat, J = fun k => if k < 2 then k + 6 else if k < 5 then k - 2 else k - 5 := ⟨_, rfl⟩
  obtain ⟨C, hC⟩ : ∃ C : Nat → Nat, C = fun k => if k < 2 then 10 else if k < 5 then 52 else 29 := ⟨_, rfl⟩
  have z : ∀ k, (k < 2 ∧ A k = x0 ∧ C k = 10 ∧ J k = k + 6) ∨ (2 ≤ k ∧ k < 5 ∧ A k = sl ∧ C k = 52 ∧ J k = k - 2) ∨ (5 ≤ k ∧ A k = pc ∧ C k = 29 ∧ J k = k - 5) := fun k => by
    rw [hA, hC, hJ]
    by_cases c : k < 2
    · exact Or.inl ⟨c, if_pos c, if_pos c, if_pos c⟩
    · by_cases c2 : k < 5
      · exact Or.inr (Or.inl ⟨by omega, c2, (if_neg c).trans (if_pos c2), (if_neg c).trans (if_pos c2), (if_neg c).trans (if_pos c2)⟩)
      · exact Or.inr (Or.inr ⟨by omega, (if_neg c).trans (if_neg c2), (if_neg c).trans (if_neg c2), (if_neg c).trans (if_neg c2)⟩)
  have tA : ∀ k, zT L kd (A k) (C k) := fun k => by
    rcases z k with ⟨-, a, c, -⟩ | ⟨-, -, a, c, -⟩ | ⟨-, a, c, -⟩
    · rw [a, c]; exact hx
    · rw [a, c]; exact s2
    · rw [a, c]; exact q2
  have rf : ∀ k, k < 45 → ∃ y, σ.2.2 (A k) (J k) = some y ∧ zT L kd y 1 := fun k hk => by
    rcases z k with ⟨k2, a, -, j⟩ | ⟨-, -, a, -, j⟩ | ⟨-, a, -, j⟩
    · rw [a, j]
      rcases (show k = 0 ∨ k = 1 by omega) with rfl | rfl
      · exact ⟨nw, n1, n2⟩
      · exact ⟨tr, r1, r2⟩
    · rw [a]; exact zi_ref (k2 := 1) hI s2 (by rfl)
    · rw [a]; exact zi_ref (k2 := 1) hI q2 (by rfl)
  have ro : ∀ k, k < 45 → zro (kd (A k)) (J k) := fun k hk => by
    rw [(tA k).2]
    rcases z k with ⟨k2, -, c, j⟩ | ⟨k2, k5, -, c, j⟩ | ⟨k5, -, c, j⟩
    · rw [c]; exact Or.inl (by decide)
    · rw [c, j]; exact Or.inr (by show k - 2 < 3; omega)
    · rw [c, j]; exact Or.inr (by show k - 5 < 40; omega)
  have inj : ∀ k k', k < 45 → k' < 45 → A k = A k' → J k = J k' → k = k' := fun k k' hk hk' eA eJ => by
    have eC : C k = C k' := (tA k).2.symm.trans ((congrArg kd eA).trans (tA k').2)
    have a := z k
    have b := z k'
    omega
  obtain ⟨v, hv0⟩ : ∃ v : Nat → Nat, v = fun k => (σ.2.2 (A k) (J k)).getD 0 := ⟨_, rfl⟩
  have hv : ∀ k, k < 45 → σ.2.2 (A k) (J k) = some (v k) ∧ zT L kd (v k) 1 := fun k hk => by
    obtain ⟨y, y1, y2⟩ := rf k hk
    rw [hv0]
    show σ.2.2 (A k) (J k) = some ((σ.2.2 (A k) (J k)).getD 0) ∧ zT L kd ((σ.2.2 (A k) (J k)).getD 0) 1
    rw [y1]
    exact ⟨rfl, y2⟩
  obtain ⟨w, hw0⟩ : ∃ w : Nat → Nat → Nat, w = fun k i => (σ.2.2 (v k) i).getD 0 := ⟨_, rfl⟩
  have hw : ∀ k, k < 45 → ∀ i, i < 3 → σ.2.2 (v k) i = some (w k i) ∧ zT L kd (w k i) (22 + i) := fun k hk i hi => by
    have q : ∃ y, σ.2.2 (v k) i = some y ∧ zT L kd y (22 + i) := by
      rcases (show i = 0 ∨ i = 1 ∨ i = 2 by omega) with rfl | rfl | rfl
      · exact zi_ref hI (hv k hk).2 (by rfl)
      · exact zi_ref hI (hv k hk).2 (by rfl)
      · exact zi_ref hI (hv k hk).2 (by rfl)
    obtain ⟨y, y1, y2⟩ := q
    rw [hw0]
    show σ.2.2 (v k) i = some ((σ.2.2 (v k) i).getD 0) ∧ zT L kd ((σ.2.2 (v k) i).getD 0) (22 + i)
    rw [y1]
    exact ⟨rfl, y2⟩
  have iv : ∀ k k', k < 45 → k' < 45 → v k = v k' → k = k' := fun k k' hk hk' e => by
    have e2 : σ.2.2 (A k') (J k') = some (v k) := by rw [(hv k' hk').1, e]
    obtain ⟨o1, o2⟩ := ow (A k) (tA k).1 (A k') (tA k').1 (J k) (J k') (v k) (hv k hk).1 e2 (by rw [(hv k hk).2.2]; decide) (ro k hk) (ro k' hk')
    exact inj k k' hk hk' o1 o2
  have iw : ∀ k k' i, k < 45 → k' < 45 → i < 3 → w k i = w k' i → k = k' := fun k k' i hk hk' hi e => by
    have e2 : σ.2.2 (v k') i = some (w k i) := by rw [(hw k' hk' i hi).1, e]
    obtain ⟨o1, -⟩ := ow (v k) (hv k hk).2.1 (v k') (hv k' hk').2.1 i i (w k i) (hw k hk i hi).1 e2 (by rw [(hw k hk i hi).2.2]; omega) (by rw [(hv k hk).2.2]; exact Or.inl (by decide)) (by rw [(hv k' hk').2.2]; exact Or.inl (by decide))
    exact iv k k' hk hk' o1
  have at' : ∀ k, k < 45 → ∀ a j, A k = a → J k = j → σ.2.2 a j = some (v k) := fun k hk a j ea ej => by rw [← ea, ← ej]; exact (hv k hk).1
  refine ⟨(v, fun k => w k 0, fun k => w k 1, fun k => w k 2), ps, pc, sl, ⟨?_, ?_, s1, p1, q1⟩, fun s hs => ?_, fun i hi => ?_, fun k hk => ⟨⟨(hv k hk).2, (hw k hk 0 (by decide)).2, (hw k hk 1 (by decide)).2, (hw k hk 2 (by decide)).2⟩, (hw k hk 0 (by decide)).1, (hw k hk 1 (by decide)).1, (hw k hk 2 (by decide)).1⟩, fun k k' hk hk' e => ?_, hx, p2, q2, s2⟩
  · refine at' 0 (by decide) x0 6 ?_ ?_
    · have := z 0; omega
    · have := z 0; omega
  · refine at' 1 (by decide) x0 7 ?_ ?_
    · have := z 1; omega
    · have := z 1; omega
  · refine at' (2 + s) (by omega) sl s ?_ ?_
    · have := z (2 + s); omega
    · have := z (2 + s); omega
  · refine at' (5 + i) (by omega) pc i ?_ ?_
    · have := z (5 + i); omega
    · have := z (5 + i); omega
  · rcases e with e | e | e | e
    · exact iv k k' hk hk' e
    · exact iw k k' 0 hk hk' (by decide) e
    · exact iw k k' 1 hk hk' (by decide) e
    · exact iw k k' 2 hk hk' (by decide) e
theorem zRv.ofK (hk : zKb b ks L kd σ) (hx : zT L kd x0 10) : ∃ rv sh cd, zRv L kd x0 rv sh cd σ.2.2 := by
  have hI := hk.1
  obtain ⟨rv, r1, r2⟩ := zi_ref (j := 2) (k2 := 5) hI hx (by rfl)
  obtain ⟨sh, s1, s2⟩ := zi_ref (j := 3) (k2 := 6) hI hx (by rfl)
  obtain ⟨sh', t1, t2⟩ := zi_ref (j := 0) (k2 := 6) hI r2 (by rfl)
  have e : sh = sh' := hk.2.2.2.2.2 sh s2.1 sh' t2.1 (by rw [s2.2]; rfl) (by rw [s2.2, t2.2])
  refine zRv.of hI hx ?_
  rw [s1, r1]
  show some sh = σ.2.2 rv 0
  rw [t1, e]
theorem zTt.of (hk : zKb b ks L kd σ) (hx : zT L kd x0 10) : ∃ td tt, zTt x0 σ.2.2 td tt := by
  have hI := hk.1
  have ow := hk.2.2.2.2.1
  obtain ⟨td, d1, d2⟩ := zi_ref (j := 10) (k2 := 9) hI hx (by rfl)
  obtain ⟨tt, t1, t2⟩ := zi_ref (j := 11) (k2 := 9) hI hx (by rfl)
  have xo : ∀ j, zro (kd x0) j := fun j => by rw [hx.2]; exact Or.inl (by decide)
  have dt : td ≠ tt := fun e => by
    have e2 : σ.2.2 x0 11 = some td := by rw [t1, e]
    have := (ow x0 hx.1 x0 hx.1 10 11 td d1 e2 (by rw [d2.2]; decide) (xo _) (xo _)).2
    omega
  refine ⟨td, tt, d1, t1, dt, fun j j1 j9 j8 e => ?_⟩
  have rf : ∀ t, zT L kd t 9 → ∃ y, σ.2.2 t j = some y ∧ ∃ k, zT L kd y k ∧ k ≠ 6 := fun t ht => by
    rcases (show j = 1 ∨ j = 2 ∨ j = 3 ∨ j = 4 ∨ j = 5 ∨ j = 6 ∨ j = 7 ∨ j = 9 by omega) with rfl | rfl | rfl | rfl | rfl | rfl | rfl | rfl
    · obtain ⟨y, y1, y2⟩ := zi_ref (j := 1) (k2 := 44) hI ht (by rfl)
      exact ⟨y, y1, 44, y2, by decide⟩
    · obtain ⟨y, y1, y2⟩ := zi_ref (j := 2) (k2 := 45) hI ht (by rfl)
      exact ⟨y, y1, 45, y2, by decide⟩
    · obtain ⟨y, y1, y2⟩ := zi_ref (j := 3) (k2 := 46) hI ht (by rfl)
      exact ⟨y, y1, 46, y2, by decide⟩
    · obtain ⟨y, y1, y2⟩ := zi_ref (j := 4) (k2 := 47) hI ht (by rfl)
      exact ⟨y, y1, 47, y2, by decide⟩
    · obtain ⟨y, y1, y2⟩ := zi_ref (j := 5) (k2 := 48) hI ht (by rfl)
      exact ⟨y, y1, 48, y2, by decide⟩
    · obtain ⟨y, y1, y2⟩ := zi_ref (j := 6) (k2 := 49) hI ht (by rfl)
      exact ⟨y, y1, 49, y2, by decide⟩
    · obtain ⟨y, y1, y2⟩ := zi_ref (j := 7) (k2 := 50) hI ht (by rfl)
      exact ⟨y, y1, 50, y2, by decide⟩
    · obtain ⟨y, y1, y2⟩ := zi_ref (j := 9) (k2 := 51) hI ht (by rfl)
      exact ⟨y, y1, 51, y2, by decide⟩
  obtain ⟨y, y1, k, y2, y3⟩ := rf td d2
  obtain ⟨y', z1, -, -, -⟩ := rf tt t2
  have e' : y = y' := by rw [y1, z1] at e; exact e
  exact dt (ow td d2.1 tt t2.1 j j y y1 (by rw [z1, e']) (by rw [y2.2]; exact y3) (by rw [d2.2]; exact Or.inl (by decide)) (by rw [t2.2]; exact Or.inl (by decide))).1
end RD9A
section RD9B
variable {b : Bool} {ks L1 L2 : List Nat} {kd1 kd2 : Nat → Nat} {σ1 σ2 : zS} {x0 m0 : Nat}
/-- what goes on of the reference is zeros first -/
theorem mStart (hJ : zJ 0 L2 kd2 σ2) (hm : zT L2 kd2 m0 11) (h0 : zRf0 m0 σ2) : ∀ j, j < 50 → σ2.1 (mR σ2 m0 48) j = 0 := by
  obtain ⟨-, -, -, h18, hM, -, s, hs⟩ := h0
  obtain ⟨t, ht⟩ : ∃ t, t = F_X11_begins m0 s := ⟨_, rfl⟩
  rw [← ht] at hs
  have ft : zFr (fun _ _ => True) s t := by rw [ht]; exact fr_X11_begins zFr.id (fun _ => trivial) trivial trivial
  have fk : zFr (fun c _ => c = (t.2.2 m0 48).getD 0) t σ2 := by rw [hs]; exact fr_X11_keepsRow zFr.id (fun _ => rfl)
  have rt : t.2.2 = σ2.2.2 := fk.rf.symm
  have rs : s.2.2 = σ2.2.2 := by rw [← rt]; exact ft.rf.symm
  have m49 : mR σ2 m0 49 ≠ m0 := mR_m hJ hm (s := 49) (k := 149) (by rfl) (by decide)
  have m48 : mR σ2 m0 48 ≠ m0 := mR_m hJ hm (s := 48) (k := 148) (by rfl) (by decide)
  have n1 : mR σ2 m0 22 ≠ mR σ2 m0 49 := mR_ne hJ hm (s := 22) (s' := 49) (k := 122) (k' := 149) (by rfl) (by rfl) (by decide)
  have n2 : mR σ2 m0 21 ≠ mR σ2 m0 49 := mR_ne hJ hm (s := 21) (s' := 49) (k := 121) (k' := 149) (by rfl) (by rfl) (by decide)
  have n3 : mR σ2 m0 21 ≠ mR σ2 m0 48 := mR_ne hJ hm (s := 21) (s' := 48) (k := 121) (k' := 148) (by rfl) (by rfl) (by decide)
  have f1 : zFr (fun c j => c = mR σ2 m0 49 ∨ (c = m0 ∧ (j = 50 ∨ j = 51))) s t := by
    rw [ht]
    exact fr_X11_begins zFr.id (fun _ => Or.inl (by rw [rs])) (Or.inr ⟨rfl, Or.inl rfl⟩) (Or.inr ⟨rfl, Or.inr rfl⟩)
  have s18 : s.1 m0 18 = σ2.1 m0 18 := by
    rw [fk.2 m0 18 (fun z => m48 (by rw [rt] at z; exact z.symm)), f1.2 m0 18 (by
      rintro (z | ⟨-, z⟩)
      · exact m49 z.symm
      · omega)]
  have s21 : ∀ j, s.1 (mR σ2 m0 21) j = σ2.1 (mR σ2 m0 21) j := fun j => by
    rw [fk.2 _ j (fun z => n3 (by rw [rt] at z; exact z)), f1.2 _ j (by
      rintro (z | ⟨z, -⟩)
      · exact n2 z
      · exact mR_m hJ hm (s := 21) (k := 121) (by rfl) (by decide) z)]
  have hM' : (σ2.1 (mR σ2 m0 21) (σ2.1 m0 18).toInt.toNat).toInt = 0 := hM
  rw [h18] at hM'
  have many : ∀ τ, zFr (fun c _ => c = mR σ2 m0 49) s τ → (F_X11_many m0 τ).toInt = (0 : Nat) := fun τ g => by
    unfold F_X11_many
    simp only [zlt]
    rw [g.rf, rs, g.2 m0 18 (fun z => m49 z.symm), g.2 (mR σ2 m0 21) _ n2, s18, s21, show (σ2.1 m0 18).toNatClampNeg = 0 by rw [ztn, h18]; rfl]
    exact hM'
  have et : t = F_X11_begins_2 m0 10000 0 s := by
    rw [ht]
    unfold F_X11_begins
    simp only [zlt]
  obtain ⟨-, q2⟩ := mBeg2 (N := 0) (s := s) (m0 := m0) (w := mR σ2 m0 49) (d := mR σ2 m0 22) (b := 0) n1 (fun z => m49 z.symm) (by rw [rs]) (by rw [rs]) (by rw [s18]; exact h18) (by omega) (by omega) many 10000 0 0 s (by decide) (by omega) (by omega) zFr.id (fun j h => absurd h (by omega))
  rw [← et] at q2
  intro j hj
  have K := zKeep hJ hm (τ := t) fk.1.symm
  have e : σ2.1 = zcf t.1 (mR σ2 m0 48) (mR σ2 m0 49) 0 0 0 50 := by
    have := congrArg Prod.fst (hs.trans K)
    exact this
  have q := q2 j hj
  rw [if_neg (by omega)] at q
  rw [show σ2.1 (mR σ2 m0 48) j = zcf t.1 (mR σ2 m0 48) (mR σ2 m0 49) 0 0 0 50 (mR σ2 m0 48) j from congrFun (congrFun e _) j, zcf_i ⟨by omega, by omega⟩, show 0 + (j - 0) = j by omega]
  exact q
theorem zRL.start (hk : zKb b ks L1 kd1 σ1) (hx : zT L1 kd1 x0 10) (hJ : zJ 0 L2 kd2 σ2) (hm : zT L2 kd2 m0 11) (h0 : zRf0 m0 σ2) : ∃ V ps pc sl rv sh cd, zRL zQ0 L1 kd1 x0 m0 V ps pc sl rv sh cd σ1 σ2 := by
  obtain ⟨V, ps, pc, sl, hL⟩ := zLay.of hk hx
  obtain ⟨rv, sh, cd, hV⟩ := zRv.ofK hk hx
  have hI := hk.1
  have hz := hk.2.2.1
  obtain ⟨td, d1, d2⟩ := zi_ref (j := 10) (k2 := 9) hI hx (by rfl)
  obtain ⟨dy, y1, y2⟩ := zi_ref (j := 5) (k2 := 2) hI hx (by rfl)
  have gd : (σ1.2.2 x0 10).getD 0 = td := by rw [d1]; rfl
  have gy : (σ1.2.2 x0 5).getD 0 = dy := by rw [y1]; rfl
  have tp : zT L1 kd1 ps 4 := hL.2.2.2.2.2.2.1
  obtain ⟨⟨tA, tI, tW, tM⟩, -⟩ := hL.2.2.2.1 0 (by decide)
  have z1 := (hz _ tA.1).1 tA.2
  have z2 := (hz _ y2.1).2.1 y2.2
  have z4 := (hz _ tp.1).2.2.1 tp.2
  have z9 := (hz _ d2.1).2.2.2.1 d2.2
  have z10 := (hz _ hx.1).2.2.2.2.1 hx.2
  have hr := mStart hJ hm h0
  obtain ⟨-, h57, h62, -, hM, h67, -⟩ := h0
  have e0 : (0 : Int32).toInt = 0 := by decide
  refine ⟨V, ps, pc, sl, rv, sh, cd, hL, hV, 0, 0, 0, ⟨by rw [gd, z9.1]; exact e0, hM, by omega, by rw [z4.1]; exact e0, by omega, by rw [z4.2]; exact e0, by omega, h57, by rw [gy, z2, h62]; exact e0⟩, ⟨fun p h1 h2 => absurd h2 (by omega), fun p h1 h2 => absurd h2 (by omega), ?_, ?_⟩, fun i hi => absurd hi (by omega), fun s hs => Or.inr ⟨by rw [z10.1]; exact b_0 s, ?_⟩⟩
  · show σ1.1 (V.1 0) 4 = _
    rw [z1.2.1, rC_i (by decide), hr _ (by decide)]
  · show σ1.1 (V.1 0) 5 = _
    rw [z1.2.2, rC_i (by decide), hr _ (by decide)]
  · have q : (σ2.1 (mR σ2 m0 67) (s : Int).toNat).toInt = 0 := h67 s
    exact Int32.toInt_inj.mp (q.trans e0.symm)
end RD9B
/-! THE RELATION OF THE ROWS OF DEEDS -/
/-- as zSBM; what goes on alike; one river; two texts apart -/
def zRM (κ : Int) (L1 : List Nat) (kd1 : Nat → Nat) (L2 : List Nat) (kd2 : Nat → Nat) (x0 m0 : Nat) (σ1 σ2 : zS) : Prop := zSBM κ L1 kd1 L2 kd2 x0 m0 σ1 σ2 ∧ ∃ V ps pc sl rv sh cd, zRL zQ0 L1 kd1 x0 m0 V ps pc sl rv sh cd σ1 σ2 ∧ ∃ td tt, zTt x0 σ1.2.2 td tt
section RD9C
variable {κ k : Int} {L1 : List Nat} {kd1 : Nat → Nat} {L2 : List Nat} {kd2 : Nat → Nat} {σ1 σ2 τ1 τ2 : zS} {Wk Wr Wf Wa : List Nat} {m0 x0 : Nat}
theorem zRM.le (h0 : k ≤ κ) (h : zRM κ L1 kd1 L2 kd2 x0 m0 σ1 σ2) : zRM k L1 kd1 L2 kd2 x0 m0 σ1 σ2 := ⟨h.1.le h0, h.2⟩
theorem zI_rv (hI : zI κ 0 L1 kd1 σ1) {rv sh cd : Nat} (hV : zRv L1 kd1 x0 rv sh cd σ1.2.2) : ∀ a ∈ L1, kd1 a = 5 → a = rv := fun a ha e => hI.2.2.2.1 a ha rv hV.2.1.2.1.1 (e.trans hV.2.1.2.1.2.symm) (Or.inr (Or.inl e))
/-- texts stay where the class' references stay -/
theorem zTt.sm {td tt : Nat} (h : zTt x0 σ1.2.2 td tt) (hI : zI κ 0 L1 kd1 σ1) (hx : zT L1 kd1 x0 10) (g : zSm Wk Wr L1 kd1 σ1 τ1) (h2 : (Wr.all (fun j => j == 5)) = true) : zTt x0 τ1.2.2 td tt := by
  have n : ∀ a ∈ L1, kd1 a ≠ 5 → τ1.2.2 a = σ1.2.2 a := fun a ha h5 => (g a ha).2 (fun q => h5 (by
    have := List.all_eq_true.mp h2 _ q
    simpa using this))
  obtain ⟨td', d1, d2⟩ := zi_ref (j := 10) (k2 := 9) hI hx (by rfl)
  obtain ⟨tt', t1, t2⟩ := zi_ref (j := 11) (k2 := 9) hI hx (by rfl)
  have ed : td' = td := Option.some.inj (d1.symm.trans h.1)
  have et : tt' = tt := Option.some.inj (t1.symm.trans h.2.1)
  subst ed et
  exact h.keep (fun j => by rw [n x0 hx.1 (by rw [hx.2]; decide)]) (fun j => by rw [n _ d2.1 (by rw [d2.2]; decide)]) (fun j => by rw [n _ t2.1 (by rw [t2.2]; decide)])
/-- a question of the class -/
theorem zRM.c (h : zRM κ L1 kd1 L2 kd2 x0 m0 σ1 σ2) (hx : zT L1 kd1 x0 10) (hI : zI κ 0 L1 kd1 σ1) (g : zSm Wk Wr L1 kd1 σ1 τ1) (hv : zRz σ1.2.2 τ1) (h1 : ([1, 2, 4, 9, 10, 22, 23, 24, 39, 40].all (fun j => !(Wk.contains j))) = true) (h2 : (Wr.all (fun j => j == 5)) = true) : zRM κ L1 kd1 L2 kd2 x0 m0 τ1 σ2 := by
  obtain ⟨hB, V, ps, pc, sl, rv, sh, cd, hR, td, tt, hT⟩ := h
  have n : ∀ k, k ∈ [1, 2, 4, 9, 10, 22, 23, 24, 39, 40] → Wk.contains k = false := fun k hk => by
    have := List.all_eq_true.mp h1 k hk
    simpa using this
  have h7 : Wr.contains 7 = false := by
    cases hc : Wr.contains 7 with
    | false => rfl
    | true =>
      have q := List.all_eq_true.mp h2 7 (by simpa using hc)
      simp at q
  refine ⟨hB.c hx g (n 39 (by decide)) (n 40 (by decide)) (n 10 (by decide)) h7, V, ps, pc, sl, rv, sh, cd, hR.c hx hI g hv (List.all_eq_true.mpr (fun j hj => ?_)) h2, td, tt, hT.sm hI hx g h2⟩
  rw [n j (by
    simp only [List.mem_cons, List.not_mem_nil, or_false] at hj ⊢
    omega)]
  rfl
/-- a question that tries -/
theorem zRM.t (h : zRM κ L1 kd1 L2 kd2 x0 m0 σ1 σ2) (hx : zT L1 kd1 x0 10) (hI : zI κ 0 L1 kd1 σ1) (g : zSm Wk Wr L1 kd1 σ1 τ1) (p : ∀ (V : zWh) (ps pc sl rv sh cd : Nat), zLay L1 kd1 x0 σ1.2.2 V ps pc sl → zRv L1 kd1 x0 rv sh cd σ1.2.2 → zPv L1 kd1 V rv σ1 τ1) (h1 : ([2, 4, 9, 10, 39, 40].all (fun j => !(Wk.contains j))) = true) (h2 : (Wr.all (fun j => j == 5)) = true) : zRM κ L1 kd1 L2 kd2 x0 m0 τ1 σ2 := by
  obtain ⟨hB, V, ps, pc, sl, rv, sh, cd, hR, td, tt, hT⟩ := h
  have n : ∀ k, k ∈ [2, 4, 9, 10, 39, 40] → Wk.contains k = false := fun k hk => by
    have := List.all_eq_true.mp h1 k hk
    simpa using this
  have h7 : Wr.contains 7 = false := by
    cases hc : Wr.contains 7 with
    | false => rfl
    | true =>
      have q := List.all_eq_true.mp h2 7 (by simpa using hc)
      simp at q
  refine ⟨hB.c hx g (n 39 (by decide)) (n 40 (by decide)) (n 10 (by decide)) h7, V, ps, pc, sl, rv, sh, cd, hR.t hx hI g (p V ps pc sl rv sh cd hR.1 hR.2.1) (List.all_eq_true.mpr (fun j hj => ?_)) h2 (zI_rv hI hR.2.1), td, tt, hT.sm hI hx g h2⟩
  rw [n j (by
    simp only [List.mem_cons, List.not_mem_nil, or_false] at hj ⊢
    omega)]
  rfl
/-- a question of the reference -/
theorem zRM.m (h : zRM κ L1 kd1 L2 kd2 x0 m0 σ1 σ2) (hJ : zJ k L2 kd2 σ2) (hm : zT L2 kd2 m0 11) (g : zSame m0 Wf Wa L2 kd2 σ2 τ2) (h1 : ([17, 18, 57, 62].all (fun j => !(Wf.contains j))) = true) (h2 : ([101, 109, 121, 148, 158, 167, 168].all (fun j => !(Wa.contains j))) = true) : zRM κ L1 kd1 L2 kd2 x0 m0 σ1 τ2 := by
  obtain ⟨hB, V, ps, pc, sl, rv, sh, cd, hR, hT⟩ := h
  have n1 : ∀ k, k ∈ [17, 18, 57, 62] → Wf.contains k = false := fun k hk => by
    have := List.all_eq_true.mp h1 k hk
    simpa using this
  have n2 : ∀ k, k ∈ [101, 109, 121, 148, 158, 167, 168] → Wa.contains k = false := fun k hk => by
    have := List.all_eq_true.mp h2 k hk
    simpa using this
  refine ⟨hB.m g (n2 101 (by decide)) (n2 109 (by decide)) (n1 17 (by decide)), V, ps, pc, sl, rv, sh, cd, hR.m hJ hm g (List.all_eq_true.mpr (fun j hj => ?_)) (List.all_eq_true.mpr (fun j hj => ?_)), hT⟩
  · rw [n1 j (by
      simp only [List.mem_cons, List.not_mem_nil, or_false] at hj ⊢
      omega)]
    rfl
  · rw [n2 j (by
      simp only [List.mem_cons, List.not_mem_nil, or_false] at hj ⊢
      omega)]
    rfl
/-- a deed on both sides: zSBM by frames, what goes on by its own row -/
theorem zRM.d {A : Prop} (h : zRM κ L1 kd1 L2 kd2 x0 m0 σ1 σ2) (hx : zT L1 kd1 x0 10) (hI : zI κ 0 L1 kd1 σ1) (g1 : zSm Wk Wr L1 kd1 σ1 τ1) (g2 : zSame m0 Wf Wa L2 kd2 σ2 τ2) (h1 : ([10, 39, 40].all (fun j => !(Wk.contains j))) = true) (h2 : (Wr.all (fun j => j == 5)) = true) (h3 : Wf.contains 17 = false) (h4 : ([101, 109].all (fun j => !(Wa.contains j))) = true) (H : ∀ (V : zWh) (ps pc sl rv sh cd : Nat), zRL zQ0 L1 kd1 x0 m0 V ps pc sl rv sh cd σ1 σ2 → A ∧ zRL zQ0 L1 kd1 x0 m0 V ps pc sl rv sh cd τ1 τ2) : A ∧ zRM κ L1 kd1 L2 kd2 x0 m0 τ1 τ2 := by
  obtain ⟨hB, V, ps, pc, sl, rv, sh, cd, hR, td, tt, hT⟩ := h
  have n : ∀ k, k ∈ [10, 39, 40] → Wk.contains k = false := fun k hk => by
    have := List.all_eq_true.mp h1 k hk
    simpa using this
  have n2 : ∀ k, k ∈ [101, 109] → Wa.contains k = false := fun k hk => by
    have := List.all_eq_true.mp h4 k hk
    simpa using this
  have h7 : Wr.contains 7 = false := by
    cases hc : Wr.contains 7 with
    | false => rfl
    | true =>
      have q := List.all_eq_true.mp h2 7 (by simpa using hc)
      simp at q
  obtain ⟨a, hR'⟩ := H V ps pc sl rv sh cd hR
  exact ⟨a, (hB.c hx g1 (n 39 (by decide)) (n 40 (by decide)) (n 10 (by decide)) h7).m g2 (n2 101 (by decide)) (n2 109 (by decide)) h3, V, ps, pc, sl, rv, sh, cd, hR', td, tt, hT.sm hI hx g1 h2⟩
end RD9C
end
-- 35x51.rd10
section
/-! THE RELATION OF THE ROWS OF DEEDS: its rows, a method a row -/
section RD10
variable {κ k : Int} {L1 : List Nat} {kd1 : Nat → Nat} {L2 : List Nat} {kd2 : Nat → Nat} {σ1 σ2 τ1 τ2 : zS} {Wk Wr Wf Wa : List Nat} {m0 x0 : Nat} {v1 v2 p q r : Int32}
theorem nC {l W : List Nat} (h : l.all (fun j => !(W.contains j)) = true) {j : Nat} (hj : l.contains j = true) : W.contains j = false := by
  have := List.all_eq_true.mp h j (by simpa using hj)
  simpa using this
theorem nM {l W : List Nat} (h : l.all (fun j => !(W.contains j)) = true) {j : Nat} (hj : l.contains j = true) : j ∉ W := fun q => by
  have := nC h hj
  simp [q] at this
theorem aSub {l m W : List Nat} (h : l.all (fun j => !(W.contains j)) = true) (hs : m.all (fun j => l.contains j) = true) : m.all (fun j => !(W.contains j)) = true := List.all_eq_true.mpr (fun j hj => by
  have := List.all_eq_true.mp hs j hj
  rw [nC h this]
  rfl)
/-- no reference of the class is written, no cell that bears on what goes on -/
theorem zRL.c0 {Q : Nat → zCo → (Nat → Int32) → Prop} {V : zWh} {ps pc sl rv sh cd : Nat} (h : zRL Q L1 kd1 x0 m0 V ps pc sl rv sh cd σ1 σ2) (hx : zT L1 kd1 x0 10) (hI : zI κ 0 L1 kd1 σ1) (g : zSm Wk [] L1 kd1 σ1 τ1) (h1 : ([1, 2, 4, 9, 10, 22, 23, 24].all (fun j => !(Wk.contains j))) = true) : zRL Q L1 kd1 x0 m0 V ps pc sl rv sh cd τ1 σ2 := by
  have n : ∀ {j : Nat}, (j = 1 ∨ j = 2 ∨ j = 4 ∨ j = 9 ∨ j = 10 ∨ j = 22 ∨ j = 23 ∨ j = 24) → j ∉ Wk := fun {j} hj => nM h1 (by rcases hj with rfl | rfl | rfl | rfl | rfl | rfl | rfl | rfl <;> rfl)
  refine h.cl hx hI (fun a ha _ => (g a ha).2 (by simp)) (fun a ha _ j _ _ => by rw [(g a ha).2 (by simp)]) (fun a ha hk => ((g a ha).1 (n (by omega))).1) (fun k hk _ => ?_)
  obtain ⟨⟨tA, tI, tW, tM⟩, -⟩ := h.1.2.2.2.1 k hk
  exact zcc.st ((g _ tA.1).1 (n (by rw [tA.2]; omega))).1 ((g _ tI.1).1 (n (by rw [tI.2]; omega))).1 ((g _ tW.1).1 (n (by rw [tW.2]; omega))).1 ((g _ tM.1).1 (n (by rw [tM.2]; omega))).1
theorem zRM.c0 (h : zRM κ L1 kd1 L2 kd2 x0 m0 σ1 σ2) (hx : zT L1 kd1 x0 10) (hI : zI κ 0 L1 kd1 σ1) (g : zSm Wk [] L1 kd1 σ1 τ1) (h1 : ([1, 2, 4, 9, 10, 22, 23, 24, 39, 40].all (fun j => !(Wk.contains j))) = true) : zRM κ L1 kd1 L2 kd2 x0 m0 τ1 σ2 := by
  obtain ⟨hB, V, ps, pc, sl, rv, sh, cd, hR, td, tt, hT⟩ := h
  exact ⟨hB.c hx g (nC h1 (by rfl)) (nC h1 (by rfl)) (nC h1 (by rfl)) (by rfl), V, ps, pc, sl, rv, sh, cd, hR.c0 hx hI g (aSub h1 (by rfl)), td, tt, hT.sm hI hx g (by rfl)⟩
theorem zRM.feed {p1 p2 p3 p4 p5 : Int32} (h : zRM κ L1 kd1 L2 kd2 x0 m0 σ1 σ2) (hI1 : zI κ 0 L1 kd1 σ1) (hI2 : zJ κ L2 kd2 σ2) (hx0 : zT L1 kd1 x0 10) (hm0 : zT L2 kd2 m0 11) (f1 : (v1, τ1) = F_X10_feed x0 p1 p2 p3 p4 p5 σ1) (f2 : (v2, τ2) = F_X11_feed m0 p1 p2 p3 p4 p5 σ2) (g1 : zSm [7, 39] [] L1 kd1 σ1 τ1) (g2 : zSame m0 [2] [101] L2 kd2 σ2 τ2) (hk : (k = κ ∧ 2000 < κ + 20) ∨ (k = κ + 20 ∧ κ + 20 ≤ 2000)) : zRM k L1 kd1 L2 kd2 x0 m0 τ1 τ2 := by
  obtain ⟨hB, V, ps, pc, sl, rv, sh, cd, hR, td, tt, hT⟩ := h
  exact ⟨hB.feed hI1 hI2 hx0 hm0 f1 f2 g1 g2 hk, V, ps, pc, sl, rv, sh, cd, (hR.c0 hx0 hI1 g1 (by rfl)).m hI2 hm0 g2 (by rfl) (by rfl), td, tt, hT.sm hI1 hx0 g1 (by rfl)⟩
theorem zRM.read (h : zRM κ L1 kd1 L2 kd2 x0 m0 σ1 σ2) (hI1 : zI κ 0 L1 kd1 σ1) (hI2 : zJ κ L2 kd2 σ2) (hx0 : zT L1 kd1 x0 10) (hm0 : zT L2 kd2 m0 11) (f1 : (v1, τ1) = F_X10_read x0 σ1) (f2 : (v2, τ2) = F_X11_read m0 σ2) (g1 : zSm Wk Wr L1 kd1 σ1 τ1) (g2 : zSame m0 Wf Wa L2 kd2 σ2 τ2) (h1 : Wk.contains 39 = false := by decide) (h2 : Wk.contains 40 = false := by decide) (h3 : Wr.contains 7 = false := by decide) (h4 : Wa.contains 101 = false := by decide) (h5 : Wa.contains 109 = false := by decide) : v1.toInt = v2.toInt ∧ zRM 0 L1 kd1 L2 kd2 x0 m0 τ1 τ2 := by
  obtain ⟨hB, V, ps, pc, sl, rv, sh, cd, hR, td, tt, hT⟩ := h
  obtain ⟨a, hB'⟩ := hB.read hI1 hI2 hx0 hm0 f1 f2 g1 g2 h1 h2 h3 h4 h5
  obtain ⟨hR', hT'⟩ := zRL.read0 hB.1 hR hT hI1 hI2 hx0 hm0 f1 f2
  exact ⟨a, hB', V, ps, pc, sl, rv, sh, cd, hR', hT'⟩
theorem zRM.hold (h : zRM κ L1 kd1 L2 kd2 x0 m0 σ1 σ2) (hI : zI κ 0 L1 kd1 σ1) (hJ : zJ κ L2 kd2 σ2) (hx : zT L1 kd1 x0 10) (hm : zT L2 kd2 m0 11) (f1 : (v1, τ1) = F_X10_hold x0 p σ1) (f2 : (v2, τ2) = F_X11_hold m0 p σ2) (g1 : zSm Wk Wr L1 kd1 σ1 τ1) (g2 : zSame m0 Wf Wa L2 kd2 σ2 τ2) (h1 : ([39, 40].all (fun j => !(Wk.contains j))) = true := by decide) (h2 : (Wr.all (fun j => j == 5)) = true := by decide) (h3 : Wf.contains 17 = false := by decide) (h4 : ([101, 109].all (fun j => !(Wa.contains j))) = true := by decide) (h7 : Wr.contains 7 = false := by decide) : v1.toInt = v2.toInt ∧ zRM κ L1 kd1 L2 kd2 x0 m0 τ1 τ2 := by
  obtain ⟨hB, V, ps, pc, sl, rv, sh, cd, hR, td, tt, hT⟩ := h
  obtain ⟨a, hR'⟩ := hR.hold hx hI hJ hm f1 f2
  exact ⟨a, (hB.hold hI hx f1 g1 (nC h1 (by rfl)) (nC h1 (by rfl)) h7).m g2 (nC h4 (by rfl)) (nC h4 (by rfl)) h3, V, ps, pc, sl, rv, sh, cd, hR', td, tt, hT.sm hI hx g1 h2⟩
theorem zRM.rule (h : zRM κ L1 kd1 L2 kd2 x0 m0 σ1 σ2) (hI : zI κ 0 L1 kd1 σ1) (hJ : zJ κ L2 kd2 σ2) (hx : zT L1 kd1 x0 10) (hm : zT L2 kd2 m0 11) (f1 : (v1, τ1) = F_X10_rule x0 p σ1) (f2 : (v2, τ2) = F_X11_rule m0 p σ2) (g1 : zSm Wk Wr L1 kd1 σ1 τ1) (g2 : zSame m0 Wf Wa L2 kd2 σ2 τ2) (h1 : ([10, 39, 40].all (fun j => !(Wk.contains j))) = true := by decide) (h2 : (Wr.all (fun j => j == 5)) = true := by decide) (h3 : Wf.contains 17 = false := by decide) (h4 : ([101, 109].all (fun j => !(Wa.contains j))) = true := by decide) : v1.toInt = v2.toInt ∧ zRM κ L1 kd1 L2 kd2 x0 m0 τ1 τ2 := h.d hx hI g1 g2 h1 h2 h3 h4 (fun _ _ _ _ _ _ _ hR => hR.rule zGd.q0 hx hI hJ hm f1 f2)
theorem zRM.dam (h : zRM κ L1 kd1 L2 kd2 x0 m0 σ1 σ2) (hI : zI κ 0 L1 kd1 σ1) (hJ : zJ κ L2 kd2 σ2) (hx : zT L1 kd1 x0 10) (hm : zT L2 kd2 m0 11) (f1 : (v1, τ1) = F_X10_dam x0 p q σ1) (f2 : (v2, τ2) = F_X11_dam m0 p q σ2) (g1 : zSm Wk Wr L1 kd1 σ1 τ1) (g2 : zSame m0 Wf Wa L2 kd2 σ2 τ2) (hq : q.toInt = 0 ∨ q.toInt = 1) (h1 : ([10, 39, 40].all (fun j => !(Wk.contains j))) = true := by decide) (h2 : (Wr.all (fun j => j == 5)) = true := by decide) (h3 : Wf.contains 17 = false := by decide) (h4 : ([101, 109].all (fun j => !(Wa.contains j))) = true := by decide) : v1.toInt = v2.toInt ∧ zRM κ L1 kd1 L2 kd2 x0 m0 τ1 τ2 := h.d hx hI g1 g2 h1 h2 h3 h4 (fun _ _ _ _ _ _ _ hR => hR.dam zGd.q0 hx hI hJ hm hq f1 f2)
theorem zRM.turn (h : zRM κ L1 kd1 L2 kd2 x0 m0 σ1 σ2) (hI : zI κ 0 L1 kd1 σ1) (hJ : zJ κ L2 kd2 σ2) (hx : zT L1 kd1 x0 10) (hm : zT L2 kd2 m0 11) (f1 : (v1, τ1) = F_X10_turn x0 p q σ1) (f2 : (v2, τ2) = F_X11_turn m0 p q σ2) (g1 : zSm Wk Wr L1 kd1 σ1 τ1) (g2 : zSame m0 Wf Wa L2 kd2 σ2 τ2) (hg : gN m0 σ2) (h1 : ([10, 39, 40].all (fun j => !(Wk.contains j))) = true := by decide) (h2 : (Wr.all (fun j => j == 5)) = true := by decide) (h3 : Wf.contains 17 = false := by decide) (h4 : ([101, 109].all (fun j => !(Wa.contains j))) = true := by decide) : v1.toInt = v2.toInt ∧ zRM κ L1 kd1 L2 kd2 x0 m0 τ1 τ2 := h.d hx hI g1 g2 h1 h2 h3 h4 (fun _ _ _ _ _ _ _ hR => hR.turn zGd.q0 hx hI hJ hm hg f1 f2)
theorem zRM.months (h : zRM κ L1 kd1 L2 kd2 x0 m0 σ1 σ2) (hI : zI κ 0 L1 kd1 σ1) (hJ : zJ κ L2 kd2 σ2) (hx : zT L1 kd1 x0 10) (hm : zT L2 kd2 m0 11) (f1 : (v1, τ1) = F_X10_months x0 p σ1) (f2 : (v2, τ2) = F_X11_months m0 p σ2) (g1 : zSm Wk Wr L1 kd1 σ1 τ1) (g2 : zSame m0 Wf Wa L2 kd2 σ2 τ2) (h1 : ([10, 39, 40].all (fun j => !(Wk.contains j))) = true := by decide) (h2 : (Wr.all (fun j => j == 5)) = true := by decide) (h3 : Wf.contains 17 = false := by decide) (h4 : ([101, 109].all (fun j => !(Wa.contains j))) = true := by decide) : v1.toInt = v2.toInt ∧ zRM κ L1 kd1 L2 kd2 x0 m0 τ1 τ2 := h.d hx hI g1 g2 h1 h2 h3 h4 (fun _ _ _ _ _ _ _ hR => hR.months0 hx hI hJ hm (zI_rv hI hR.2.1) f1 f2)
theorem zRM.undo (h : zRM κ L1 kd1 L2 kd2 x0 m0 σ1 σ2) (hI : zI κ 0 L1 kd1 σ1) (hJ : zJ κ L2 kd2 σ2) (hx : zT L1 kd1 x0 10) (hm : zT L2 kd2 m0 11) (f1 : (v1, τ1) = F_X10_undo x0 σ1) (f2 : (v2, τ2) = F_X11_undo m0 σ2) (g1 : zSm Wk Wr L1 kd1 σ1 τ1) (g2 : zSame m0 Wf Wa L2 kd2 σ2 τ2) (h1 : ([10, 39, 40].all (fun j => !(Wk.contains j))) = true := by decide) (h2 : (Wr.all (fun j => j == 5)) = true := by decide) (h3 : Wf.contains 17 = false := by decide) (h4 : ([101, 109].all (fun j => !(Wa.contains j))) = true := by decide) : v1.toInt = v2.toInt ∧ zRM κ L1 kd1 L2 kd2 x0 m0 τ1 τ2 := h.d hx hI g1 g2 h1 h2 h3 h4 (fun _ _ _ _ _ _ _ hR => hR.undo hx hI hJ hm f1 f2)
theorem zRM.restore (h : zRM κ L1 kd1 L2 kd2 x0 m0 σ1 σ2) (hI : zI κ 0 L1 kd1 σ1) (hJ : zJ κ L2 kd2 σ2) (hx : zT L1 kd1 x0 10) (hm : zT L2 kd2 m0 11) (f1 : (v1, τ1) = F_X10_restore x0 p σ1) (f2 : (v2, τ2) = F_X11_restore m0 p σ2) (g1 : zSm Wk Wr L1 kd1 σ1 τ1) (g2 : zSame m0 Wf Wa L2 kd2 σ2 τ2) (h1 : ([10, 39, 40].all (fun j => !(Wk.contains j))) = true := by decide) (h2 : (Wr.all (fun j => j == 5)) = true := by decide) (h3 : Wf.contains 17 = false := by decide) (h4 : ([101, 109].all (fun j => !(Wa.contains j))) = true := by decide) : v1.toInt = v2.toInt ∧ zRM κ L1 kd1 L2 kd2 x0 m0 τ1 τ2 := h.d hx hI g1 g2 h1 h2 h3 h4 (fun _ _ _ _ _ _ _ hR => hR.restore hx hI hJ hm f1 f2)
theorem zRM.forget (h : zRM κ L1 kd1 L2 kd2 x0 m0 σ1 σ2) (hI : zI κ 0 L1 kd1 σ1) (hJ : zJ κ L2 kd2 σ2) (hx : zT L1 kd1 x0 10) (hm : zT L2 kd2 m0 11) (f1 : (v1, τ1) = F_X10_forget x0 σ1) (f2 : (v2, τ2) = F_X11_forget m0 σ2) (g1 : zSm Wk [] L1 kd1 σ1 τ1) (g2 : zSame m0 Wf Wa L2 kd2 σ2 τ2) (h1 : ([1, 4, 9, 10, 22, 23, 24, 39, 40].all (fun j => !(Wk.contains j))) = true := by decide) (h3 : ([17, 18, 57].all (fun j => !(Wf.contains j))) = true := by decide) (h4 : ([101, 109, 121, 148, 158, 167, 168].all (fun j => !(Wa.contains j))) = true := by decide) : v1.toInt = v2.toInt ∧ zRM κ L1 kd1 L2 kd2 x0 m0 τ1 τ2 := h.d hx hI g1 g2 (aSub h1 (by rfl)) (by rfl) (nC h3 (by rfl)) (aSub h4 (by rfl)) (fun _ _ _ _ _ _ _ hR => hR.forget hx hI hJ hm f1 f2 g1 g2 (aSub h1 (by rfl)) (aSub h3 (by rfl)) (aSub h4 (by rfl)))
theorem zRM.tell {a b c e : Int32} (h : zRM κ L1 kd1 L2 kd2 x0 m0 σ1 σ2) (hI : zI κ 0 L1 kd1 σ1) (hJ : zJ κ L2 kd2 σ2) (hx : zT L1 kd1 x0 10) (hm : zT L2 kd2 m0 11) (f1 : (v1, τ1) = F_X10_tell x0 a b c e σ1) (f2 : (v2, τ2) = F_X11_tell m0 a b c e σ2) (g1 : zSm Wk [] L1 kd1 σ1 τ1) (g2 : zSame m0 Wf Wa L2 kd2 σ2 τ2) (h1 : ([1, 4, 9, 10, 22, 23, 24, 39, 40].all (fun j => !(Wk.contains j))) = true := by decide) (h3 : ([17, 18, 57].all (fun j => !(Wf.contains j))) = true := by decide) (h4 : ([101, 109, 121, 148, 158, 167, 168].all (fun j => !(Wa.contains j))) = true := by decide) : v1.toInt = v2.toInt ∧ zRM κ L1 kd1 L2 kd2 x0 m0 τ1 τ2 := h.d hx hI g1 g2 (aSub h1 (by rfl)) (by rfl) (nC h3 (by rfl)) (aSub h4 (by rfl)) (fun _ _ _ _ _ _ _ hR => hR.tell hx hI hJ hm f1 f2 g1 g2 (aSub h1 (by rfl)) (aSub h3 (by rfl)) (aSub h4 (by rfl)))
/-- as they are made -/
theorem zRM.start {b : Bool} {ks : List Nat} (hS : zSAM 0 L1 kd1 L2 kd2 σ1 σ2) (hk : zKb b ks L1 kd1 σ1) (hx : zT L1 kd1 x0 10) (hJ : zJ 0 L2 kd2 σ2) (hm : zT L2 kd2 m0 11) (h0 : zRf0 m0 σ2) : zRM 0 L1 kd1 L2 kd2 x0 m0 σ1 σ2 := by
  obtain ⟨V, ps, pc, sl, rv, sh, cd, hR⟩ := zRL.start hk hx hJ hm h0
  refine ⟨⟨hS, ?_⟩, V, ps, pc, sl, rv, sh, cd, hR, zTt.of hk hx⟩
  rw [((hk.2.2.1 x0 hx.1).2.2.2.2.1 hx.2).2, h0.1]
  rfl
end RD10
end
-- 35x52.sh1
section
/-! TREES: each place but 0 runs into another one, by a rank -/
def zTr (N : Nat) (u : Nat → Nat) : Prop := ∃ q : Nat → Nat, ∀ c, 1 ≤ c → c < N → u c < N ∧ q (u c) < q c
def up (u : Nat → Nat) : Nat → Nat → Nat
  | 0, c => c
  | k + 1, c => if up u k c = 0 then 0 else u (up u k c)
/-- j's water comes by t -/
def An (u : Nat → Nat) (t j : Nat) : Prop := ∃ k, up u k j = t
noncomputable def cnt (P : Nat → Prop) : Nat → Nat
  | 0 => 0
  | n + 1 => cnt P n + @ite Nat (P n) (Classical.propDecidable _) 1 0
section TREE
variable {N : Nat} {u : Nat → Nat} {a b c j t : Nat}
theorem up_1 : ∀ k, up u (k + 1) c = if c = 0 then 0 else up u k (u c) := by
  intro k
  induction k with
  | zero => rfl
  | succ k ih =>
    show (if up u (k + 1) c = 0 then 0 else u (up u (k + 1) c)) = _
    rw [ih]
    by_cases h : c = 0
    · rw [if_pos h, if_pos rfl, if_pos h]
    · rw [if_neg h, if_neg h]
      rfl
theorem up_0 : ∀ k, up u k 0 = 0 := by
  intro k
  induction k with
  | zero => rfl
  | succ k ih => rw [up_1, if_pos rfl]
theorem up_add : ∀ k m, up u (k + m) c = up u k (up u m c) := by
  intro k m
  induction k with
  | zero => rw [Nat.zero_add]; rfl
  | succ k ih =>
    rw [Nat.succ_add]
    show (if up u (k + m) c = 0 then 0 else u (up u (k + m) c)) = (if up u k (up u m c) = 0 then 0 else u (up u k (up u m c)))
    rw [ih]
theorem An_0 : An u t 0 ↔ t = 0 := ⟨fun ⟨k, h⟩ => by rw [up_0] at h; exact h.symm, fun h => ⟨0, h.symm⟩⟩
theorem An_s (hc : c ≠ 0) : An u t c ↔ t = c ∨ An u t (u c) := by
  constructor
  · rintro ⟨k, h⟩
    cases k with
    | zero => exact Or.inl h.symm
    | succ k =>
      rw [up_1, if_neg hc] at h
      exact Or.inr ⟨k, h⟩
  · rintro (h | ⟨k, h⟩)
    · exact ⟨0, h.symm⟩
    · exact ⟨k + 1, by rw [up_1, if_neg hc]; exact h⟩
theorem An_rf : An u c c := ⟨0, rfl⟩
theorem An_tr (h : An u a b) (g : An u b c) : An u a c := by
  obtain ⟨k, hk⟩ := h
  obtain ⟨m, hm⟩ := g
  exact ⟨k + m, by rw [up_add, hm, hk]⟩
/-- of two on one way, one is on the other's -/
theorem An_or (h : An u a j) (g : An u b j) : An u a b ∨ An u b a := by
  obtain ⟨k, hk⟩ := h
  obtain ⟨m, hm⟩ := g
  by_cases c : k ≤ m
  · right
    refine ⟨m - k, ?_⟩
    rw [← hk, ← up_add, show m - k + k = m by omega]
    exact hm
  · left
    refine ⟨k - m, ?_⟩
    rw [← hm, ← up_add, show k - m + m = k by omega]
    exact hk
theorem zTr.ind (h : zTr N u) (P : Nat → Prop) (h0 : P 0) (hs : ∀ c, 1 ≤ c → c < N → P (u c) → P c) : ∀ c, c < N → P c := by
  obtain ⟨q, hq⟩ := h
  have key : ∀ n c, q c < n → c < N → P c := by
    intro n
    induction n with
    | zero => intro c h; exact absurd h (by omega)
    | succ n ih =>
      intro c h1 h2
      by_cases e : c = 0
      · rw [e]; exact h0
      · obtain ⟨z1, z2⟩ := hq c (by omega) h2
        exact hs c (by omega) h2 (ih (u c) (by omega) z1)
  exact fun c hc => key (q c + 1) c (by omega) hc
theorem zTr.lt (h : zTr N u) (hN : 0 < N) : ∀ j, j < N → ∀ t, An u t j → t < N := by
  refine h.ind _ (fun t ht => by rw [An_0.mp ht]; exact hN) (fun c h1 h2 ih t ht => ?_)
  rcases (An_s (by omega)).mp ht with e | e
  · rw [e]; exact h2
  · exact ih t e
theorem zTr.u_lt (h : zTr N u) (h1 : 1 ≤ c) (h2 : c < N) : u c < N := by
  obtain ⟨q, hq⟩ := h
  exact (hq c h1 h2).1
/-- the way up is no way down -/
theorem zTr.acyc (h : zTr N u) (h1 : 1 ≤ c) (h2 : c < N) : ¬ An u c (u c) := by
  obtain ⟨q, hq⟩ := id h
  have key : ∀ j, j < N → ∀ t, An u t j → t = j ∨ q t < q j := h.ind _ (fun t ht => Or.inl (An_0.mp ht)) (fun c h1 h2 ih t ht => by
    rcases (An_s (by omega)).mp ht with e | e
    · exact Or.inl e
    · have := hq c h1 h2
      rcases ih t e with z | z
      · rw [z]; exact Or.inr this.2
      · exact Or.inr (by omega))
  intro z
  have := hq c h1 h2
  rcases key (u c) this.1 c z with e | e
  · rw [← e] at this; omega
  · omega
/-- one child on a way -/
theorem zTr.one (h : zTr N u) {c' : Nat} (h1 : 1 ≤ c) (h2 : c < N) (h1' : 1 ≤ c') (h2' : c' < N) (e : u c = u c') (g : An u c j) (g' : An u c' j) : c = c' := by
  have key : ∀ {a b : Nat}, 1 ≤ a → a < N → 1 ≤ b → b < N → u a = u b → An u a b → a = b := fun {a b} a1 a2 b1 b2 e g => by
    rcases (An_s (by omega)).mp g with z | z
    · exact z
    · rw [← e] at z
      exact absurd z (h.acyc a1 a2)
  rcases An_or g g' with z | z
  · exact key h1 h2 h1' h2' e z
  · exact (key h1' h2' h1 h2 e.symm z).symm
/-- two that go the same way by the same rule are one -/
theorem zTr.uniq {α : Type} {f g : Nat → α} (h : zTr N u) (h0 : f 0 = g 0) (hs : ∀ c, 1 ≤ c → c < N → f (u c) = g (u c) → f c = g c) : ∀ c, c < N → f c = g c := h.ind (fun c => f c = g c) h0 hs
theorem zTr.cg {v : Nat → Nat} (h : zTr N u) (e : ∀ c, 1 ≤ c → c < N → v c = u c) : zTr N v := by
  obtain ⟨q, hq⟩ := h
  exact ⟨q, fun c h1 h2 => by rw [e c h1 h2]; exact hq c h1 h2⟩
theorem An_cg {v : Nat → Nat} (h : zTr N u) (e : ∀ c, 1 ≤ c → c < N → v c = u c) : ∀ j, j < N → ∀ t, An v t j ↔ An u t j := h.ind _ (fun t => by rw [An_0, An_0]) (fun c h1 h2 ih t => by rw [An_s (u := v) (c := c) (by omega), An_s (u := u) (c := c) (by omega), e c h1 h2, ih t])
end TREE
section COUNT
variable {P Q : Nat → Prop} {n : Nat}
theorem cnt_cg : ∀ n, (∀ j, j < n → (P j ↔ Q j)) → cnt P n = cnt Q n := by
  intro n
  induction n with
  | zero => intro _; rfl
  | succ n ih =>
    intro h
    rw [cnt, cnt, ih (fun j hj => h j (by omega))]
    by_cases c : P n
    · rw [if_pos c, if_pos ((h n (by omega)).mp c)]
    · rw [if_neg c, if_neg (fun z => c ((h n (by omega)).mpr z))]
theorem cnt_or : ∀ n, (∀ j, j < n → ¬ (P j ∧ Q j)) → cnt (fun j => P j ∨ Q j) n = cnt P n + cnt Q n := by
  intro n
  induction n with
  | zero => intro _; rfl
  | succ n ih =>
    intro h
    rw [cnt, cnt, cnt, ih (fun j hj => h j (by omega))]
    by_cases c : P n
    · have d : ¬ Q n := fun z => h n (by omega) ⟨c, z⟩
      rw [if_pos (Or.inl c), if_pos c, if_neg d]
      omega
    · by_cases d : Q n
      · rw [if_pos (Or.inr d), if_neg c, if_pos d]
        omega
      · rw [if_neg (fun z => z.elim c d), if_neg c, if_neg d]
        omega
theorem cnt_le : ∀ n, cnt P n ≤ n := by
  intro n
  induction n with
  | zero => exact Nat.le_refl _
  | succ n ih =>
    rw [cnt]
    by_cases c : P n
    · rw [if_pos c]; omega
    · rw [if_neg c]; omega
theorem cnt_0 : ∀ n, (∀ j, j < n → ¬ P j) → cnt P n = 0 := by
  intro n
  induction n with
  | zero => intro _; rfl
  | succ n ih =>
    intro h
    rw [cnt, ih (fun j hj => h j (by omega)), if_neg (h n (by omega))]
theorem cnt_1 {k : Nat} : ∀ n, cnt (fun j => j = k) n = if k < n then 1 else 0 := by
  intro n
  induction n with
  | zero => rw [if_neg (by omega)]; rfl
  | succ n ih =>
    rw [cnt, ih]
    by_cases c : n = k
    · rw [if_pos c, if_neg (by omega), if_pos (by omega)]
    · rw [if_neg c]
      by_cases d : k < n
      · rw [if_pos d, if_pos (by omega)]
      · rw [if_neg d, if_neg (by omega)]
theorem cnt_p {k : Nat} : ∀ n, k < n → P k → 0 < cnt P n := by
  intro n
  induction n with
  | zero => intro h; exact absurd h (by omega)
  | succ n ih =>
    intro h hp
    rw [cnt]
    by_cases c : k = n
    · subst c
      rw [if_pos hp]
      omega
    · have := ih (by omega) hp
      omega
/-- n unlike numbers below n are all of them -/
theorem pigeon : ∀ (n : Nat) (f : Nat → Nat), (∀ i, i < n → f i < n) → (∀ i j, i < n → j < n → f i = f j → i = j) → ∀ q, q < n → ∃ i, i < n ∧ f i = q := by
  intro n
  induction n with
  | zero => intro f _ _ q h; exact absurd h (by omega)
  | succ n ih =>
    intro f hf hi q hq
    apply Classical.byContradiction
    intro no
    have ne : ∀ i, i < n + 1 → f i ≠ q := fun i h e => no ⟨i, h, e⟩
    obtain ⟨g, hg⟩ : ∃ g : Nat → Nat, g = fun i => if f i < q then f i else f i - 1 := ⟨_, rfl⟩
    have ge : ∀ i, (f i < q ∧ g i = f i) ∨ (¬ f i < q ∧ g i = f i - 1) := fun i => by
      rw [hg]
      by_cases c : f i < q
      · exact Or.inl ⟨c, if_pos c⟩
      · exact Or.inr ⟨c, if_neg c⟩
    have inj : ∀ i j, i < n + 1 → j < n + 1 → g i = g j → i = j := fun i j h1 h2 e => by
      have a := ge i
      have b := ge j
      have c := ne i h1
      have d := ne j h2
      exact hi i j h1 h2 (by omega)
    have lt : ∀ i, i < n + 1 → g i < n := fun i h1 => by
      have a := ge i
      have b := ne i h1
      have c := hf i h1
      omega
    obtain ⟨i, h1, h2⟩ := ih g (fun i h => lt i (by omega)) (fun i j h1 h2 => inj i j (by omega) (by omega)) (g n) (lt n (by omega))
    have := inj i n (by omega) (by omega) h2
    omega
end COUNT
/-- the tree of a row -/
def uOf (r : Nat → Int32) : Nat → Nat := fun c => (r c).toInt.toNat
section UOF
variable {N : Nat} {r r' : Nat → Int32}
theorem zRow.tr (h : zRow N r) : zTr N (uOf r) := by
  obtain ⟨q, h1, -⟩ := h
  refine ⟨fun c => q (c : Int), fun c c1 c2 => ?_⟩
  obtain ⟨a, b, d⟩ := h1 c c1 c2
  unfold uOf
  refine ⟨by omega, ?_⟩
  show q (((r c).toInt.toNat : Nat) : Int) < q c
  rw [show (((r c).toInt.toNat : Nat) : Int) = (r c).toInt by omega]
  exact d
theorem zRow.u (h : zRow N r) {c : Nat} (c1 : 1 ≤ c) (c2 : c < N) : (r c).toInt = uOf r c := by
  obtain ⟨q, h1, -⟩ := h
  have := h1 c c1 c2
  unfold uOf
  omega
theorem pa_up (h : zRow N r) (hN : N ≤ 12) {j : Nat} (hj : j < N) : ∀ k, (pa r k (nI j)).toInt = up (uOf r) k j := by
  intro k
  have i0 : (nI j).toInt = (j : Int) := nI_t (by omega)
  induction k with
  | zero => exact i0
  | succ k ih =>
    obtain ⟨z0, z1⟩ := pa_in (p := nI j) h (by omega) (by omega) k
    show (stp r (pa r k (nI j))).toInt = ((if up (uOf r) k j = 0 then 0 else uOf r (up (uOf r) k j) : Nat) : Int)
    unfold stp
    by_cases c : 0 < (pa r k (nI j)).toInt
    · rw [if_pos c, if_neg (by omega)]
      have e : (pa r k (nI j)).toNatClampNeg = up (uOf r) k j := by rw [ztn, ih]; rfl
      rw [e]
      exact h.u (by omega) (by omega)
    · rw [if_neg c, if_pos (by omega)]
      omega
theorem pa_An (h : zRow N r) (hN : N ≤ 12) {j t : Nat} (hj : j < N) : (∃ k, (pa r k (nI j)).toInt = (t : Int)) ↔ An (uOf r) t j := by
  constructor
  · rintro ⟨k, hk⟩
    rw [pa_up h hN hj] at hk
    exact ⟨k, by omega⟩
  · rintro ⟨k, hk⟩
    exact ⟨k, by rw [pa_up h hN hj, hk]⟩
theorem uOf_cg (e : ∀ c, 1 ≤ c → c < N → r' c = r c) : ∀ c, 1 ≤ c → c < N → uOf r' c = uOf r c := fun c c1 c2 => by unfold uOf; rw [e c c1 c2]
end UOF
end
-- 35x53.sh2
section
/-! THE CLASS' SHAPE: the places in line, how far, the ways -/
def zShD (sh A1 A2 A3 A4 A6 I : Nat) : Prop := (A1 ≠ sh ∧ A2 ≠ sh ∧ A3 ≠ sh ∧ A4 ≠ sh ∧ A6 ≠ sh ∧ I ≠ sh) ∧ (A2 ≠ A1 ∧ A3 ≠ A1 ∧ A4 ≠ A1 ∧ A6 ≠ A1) ∧ (A3 ≠ A2 ∧ A4 ≠ A2 ∧ A6 ≠ A2) ∧ (A4 ≠ A3 ∧ A6 ≠ A3) ∧ A6 ≠ A4 ∧ (I ≠ A2 ∧ I ≠ A3 ∧ I ≠ A4 ∧ I ≠ A6)
def zShR (sh co A1 A2 A3 A4 A6 I : Nat) (R : Nat → Nat → Option Nat) : Prop := (R sh 1).getD 0 = A1 ∧ (R sh 2).getD 0 = A2 ∧ (R sh 3).getD 0 = A3 ∧ (R sh 4).getD 0 = A4 ∧ (R sh 6).getD 0 = A6 ∧ (R co 0).getD 0 = I
/-- in line so far: m places (l), those that run into the first i of them, and of the i-th those below p -/
def zLn (N : Nat) (u : Nat → Nat) (A2 A3 A6 : Nat) (FR : Nat → Int32) (i p m : Nat) (l : Nat → Nat) (τ : zS) : Prop :=
  (1 ≤ m ∧ m ≤ N ∧ l 0 = 0) ∧ (∀ j, j < m → (τ.1 A2 j).toInt = l j ∧ l j < N ∧ τ.1 A3 (l j) = FR (l j) ∧ ∀ t, t < 32 → (bt (τ.1 A6 (l j)) t = true ↔ An u t (l j))) ∧ (∀ j j', j < m → j' < m → l j = l j' → j = j') ∧ (∀ j, 1 ≤ j → j < m → 1 ≤ l j ∧ ∃ j', j' < j ∧ l j' = u (l j)) ∧ ∀ q, 1 ≤ q → q < N → ((∃ j, j < m ∧ l j = q) ↔ ((∃ j, j < i ∧ l j = u q) ∨ (l i = u q ∧ q < p)))
def zB3 (A2 A3 A6 : Nat) : Nat → Nat → Prop := fun c _ => c = A2 ∨ c = A3 ∨ c = A6
section CFORM
variable {N sh co tt A1 A2 A3 A4 A6 I : Nat} {u : Nat → Nat} {FR ℓ : Nat → Int32} {s : zS}
set_option maxHeartbeats 1000000 in
theorem cForm1 (D : zShD sh A1 A2 A3 A4 A6 I) (hR : zShR sh co A1 A2 A3 A4 A6 I s.2.2) (hN : N ≤ 12) (hu : ∀ c, 1 ≤ c → c < N → (s.1 I c).toInt = u c) (hF : ∀ c, 1 ≤ c → c < N → FR c = FR (u c) + ℓ c) (hl : ∀ c, 1 ≤ c → c < N → s.1 A1 c = ℓ c) (h0 : (s.1 sh 0).toInt = N) {k : Int32 → Int32 → zS → zS} {i : Nat} {v x30 : Int32} : ∀ (n : Nat) (x : Int32) (p : Nat) (y : Int32) (m : Nat) (τ : zS) (l : Nat → Nat), x.toInt = p → 1 ≤ p → p ≤ N → N - p < n → y.toInt = m → i < m → v.toInt = l i → zFr (zB3 A2 A3 A6) s τ → zLn N u A2 A3 A6 FR i p m l τ → ∃ (y' : Int32) (m' : Nat) (τ' : zS) (l' : Nat → Nat), y'.toInt = m' ∧ i < m' ∧ zFr (zB3 A2 A3 A6) s τ' ∧ zLn N u A2 A3 A6 FR (i + 1) 1 m' l' τ' ∧ F_X6_form_81_1 v x30 sh tt co k n x y τ = k (x30 + (1 : Int32)) y' τ' := by
  obtain ⟨⟨d1, d2, d3, d4, d5, d6⟩, ⟨e2, e3, e4, e6⟩, ⟨f3, f4, f6⟩, ⟨g4, g6⟩, g7, ⟨i2, i3, i4, i6⟩⟩ := D
  obtain ⟨R1, R2, R3, R4, R6, RI⟩ := hR
  intro n
  induction n with
  | zero => intro x p y m τ l _ _ _ h; exact absurd h (by omega)
  | succ n ih =>
    intro x p y m τ l hx hp1 hpN hm hy him hv g h
    obtain ⟨⟨a1, a2, a3⟩, b, inj, ord, c5⟩ := id h
    have r0 : τ.2.2 = s.2.2 := g.rf
    have t0 : τ.1 sh 0 = s.1 sh 0 := g.2 _ _ (by
      rintro (z | z | z)
      · exact d2 z.symm
      · exact d3 z.symm
      · exact d5 z.symm)
    have tI : ∀ j, τ.1 I j = s.1 I j := fun j => g.2 _ _ (by
      rintro (z | z | z)
      · exact i2 z
      · exact i3 z
      · exact i6 z)
    have t1 : ∀ j, τ.1 A1 j = s.1 A1 j := fun j => g.2 _ _ (by
      rintro (z | z | z)
      · exact e2 z.symm
      · exact e3 z.symm
      · exact e6 z.symm)
    have nx : x.toNatClampNeg = p := by rw [ztn, hx]; rfl
    have ny : y.toNatClampNeg = m := by rw [ztn, hy]; rfl
    have nv : v.toNatClampNeg = l i := by rw [ztn, hv]; rfl
    -- the inner loop is over
    have over : (m = N ∨ p = N) → zLn N u A2 A3 A6 FR (i + 1) 1 m l τ := fun ho => ⟨⟨a1, a2, a3⟩, b, inj, ord, fun q q1 q2 => by
      rw [c5 q q1 q2]
      constructor
      · rintro (⟨j, j1, j2⟩ | ⟨j1, j2⟩)
        · exact Or.inl ⟨j, by omega, j2⟩
        · exact Or.inl ⟨i, by omega, j1⟩
      · rintro (⟨j, j1, j2⟩ | ⟨-, j2⟩)
        · by_cases e : j = i
          · rcases ho with ho | ho
            · have z : ∃ j, j < m ∧ l j = q := by
                obtain ⟨j', w1, w2⟩ := pigeon N l (fun j hj => (b j (by omega)).2.1) (fun j j' h1 h2 => inj j j' (by omega) (by omega)) q q2
                exact ⟨j', by omega, w2⟩
              exact (c5 q q1 q2).mp z
            · exact Or.inr ⟨by rw [← e]; exact j2, by omega⟩
          · exact Or.inl ⟨j, by omega, j2⟩
        · omega⟩
    rw [F_X6_form_81_1]
    simp only [zlt, r0, R1, R2, R3, R6, RI, t0, nx, ny, nv, tI, t1]
    by_cases cp : p < N
    · rw [if_pos (by omega)]
      by_cases cm : m < N
      · rw [if_pos (by omega)]
        have up' := hu p hp1 cp
        by_cases cu : u p = l i
        · rw [if_pos (by omega)]
          have new : ∀ j, j < m → l j ≠ p := fun j hj e => by
            rcases (c5 p hp1 cp).mp ⟨j, hj, e⟩ with ⟨j', w1, w2⟩ | ⟨-, w⟩
            · have := inj j' i (by omega) him (w2.trans cu)
              omega
            · omega
          obtain ⟨l', hl'⟩ : ∃ l' : Nat → Nat, l' = fun j => if j = m then p else l j := ⟨_, rfl⟩
          have lm : l' m = p := by rw [hl']; exact if_pos rfl
          have lo : ∀ j, j ≠ m → l' j = l j := fun j hj => by rw [hl']; exact if_neg hj
          obtain ⟨bi1, bi2, bi3, bi4⟩ := b i him
          refine ih (x + (1 : Int32)) (p + 1) (y + (1 : Int32)) (m + 1) _ l' (zp1 hx (by omega)) (by omega) (by omega) (by omega) (zp1 hy (by omega)) (by omega) (by rw [lo i (by omega)]; exact hv) (by rw [← r0]; exact ((g.w (r := A3) (j := p) (Or.inr (Or.inl rfl))).w (r := A6) (j := p) (Or.inr (Or.inr rfl))).w (r := A2) (j := m) (Or.inl rfl)) ⟨⟨by omega, by omega, by rw [lo 0 (by omega)]; exact a3⟩, fun j hj => ?_, fun j j' h1 h2 e => ?_, fun j h1 h2 => ?_, fun q q1 q2 => ?_⟩
          · by_cases ej : j = m
            · subst ej
              rw [lm]
              refine ⟨?_, cp, ?_, fun t ht => ?_⟩
              · show (zu _ A2 j x A2 j).toInt = _
                rw [zu_s]; exact hx
              · show zu (zu (zu τ.1 A3 p _) A6 p _) A2 j x A3 p = _
                rw [zu_n _ _ _ f3, zu_n _ _ _ (fun z => g6 z.symm), zu_s, bi3, hl p hp1 cp, hF p hp1 cp, cu]
              · show bt (zu (zu (zu τ.1 A3 p _) A6 p _) A2 j x A6 p) t = true ↔ _
                rw [zu_n _ _ _ f6, zu_s, zu_n _ _ _ g6, b_or, bt_bit hx (by omega) ht, Bool.or_eq_true, bi4 t ht, decide_eq_true_eq, An_s (u := u) (t := t) (c := p) (by omega), cu]
                exact ⟨fun z => z.elim Or.inr Or.inl, fun z => z.elim Or.inr Or.inl⟩
            · have hj' : j < m := by omega
              obtain ⟨w1, w2, w3, w4⟩ := b j hj'
              rw [lo j ej]
              refine ⟨?_, w2, ?_, fun t ht => ?_⟩
              · show (zu (zu (zu τ.1 A3 p _) A6 p _) A2 m x A2 j).toInt = _
                rw [zu_j _ _ _ _ _ (fun z => ej z.symm), zu_n _ _ _ (fun z => f6 z.symm), zu_n _ _ _ (fun z => f3 z.symm)]
                exact w1
              · show zu (zu (zu τ.1 A3 p _) A6 p _) A2 m x A3 (l j) = _
                rw [zu_n _ _ _ f3, zu_n _ _ _ (fun z => g6 z.symm), zu_j _ _ _ _ _ (fun z => new j hj' z.symm)]
                exact w3
              · show bt (zu (zu (zu τ.1 A3 p _) A6 p _) A2 m x A6 (l j)) t = true ↔ _
                rw [zu_n _ _ _ f6, zu_j _ _ _ _ _ (fun z => new j hj' z.symm), zu_n _ _ _ g6]
                exact w4 t ht
          · by_cases e1 : j = m
            · by_cases e2' : j' = m
              · omega
              · rw [e1, lm, lo j' e2'] at e
                exact absurd e.symm (new j' (by omega))
            · by_cases e2' : j' = m
              · rw [e2', lm, lo j e1] at e
                exact absurd e (new j (by omega))
              · rw [lo j e1, lo j' e2'] at e
                exact inj j j' (by omega) (by omega) e
          · by_cases e1 : j = m
            · rw [e1, lm]
              exact ⟨hp1, i, him, by rw [lo i (by omega)]; exact cu.symm⟩
            · rw [lo j e1]
              obtain ⟨w1, j', w2, w3⟩ := ord j h1 (by omega)
              exact ⟨w1, j', w2, by rw [lo j' (by omega)]; exact w3⟩
          · have A : (∃ j, j < m + 1 ∧ l' j = q) ↔ ((∃ j, j < m ∧ l j = q) ∨ q = p) := by
              constructor
              · rintro ⟨j, w1, w2⟩
                by_cases e1 : j = m
                · rw [e1, lm] at w2
                  exact Or.inr w2.symm
                · rw [lo j e1] at w2
                  exact Or.inl ⟨j, by omega, w2⟩
              · rintro (⟨j, w1, w2⟩ | e)
                · exact ⟨j, by omega, by rw [lo j (by omega)]; exact w2⟩
                · exact ⟨m, by omega, by rw [lm, e]⟩
            rw [A, c5 q q1 q2, lo i (by omega)]
            constructor
            · rintro ((⟨j, w1, w2⟩ | ⟨w1, w2⟩) | e)
              · exact Or.inl ⟨j, w1, by rw [lo j (by omega)]; exact w2⟩
              · exact Or.inr ⟨w1, by omega⟩
              · exact Or.inr ⟨by rw [e]; exact cu.symm, by omega⟩
            · rintro (⟨j, w1, w2⟩ | ⟨w1, w2⟩)
              · rw [lo j (by omega)] at w2
                exact Or.inl (Or.inl ⟨j, w1, w2⟩)
              · by_cases e : q = p
                · exact Or.inr e
                · exact Or.inl (Or.inr ⟨w1, by omega⟩)
        · rw [if_neg (by omega)]
          refine ih (x + (1 : Int32)) (p + 1) y m τ l (zp1 hx (by omega)) (by omega) (by omega) (by omega) hy him hv g ⟨⟨a1, a2, a3⟩, b, inj, ord, fun q q1 q2 => ?_⟩
          rw [c5 q q1 q2]
          constructor
          · rintro (w | ⟨w1, w2⟩)
            · exact Or.inl w
            · exact Or.inr ⟨w1, by omega⟩
          · rintro (w | ⟨w1, w2⟩)
            · exact Or.inl w
            · by_cases e : q = p
              · rw [e] at w1
                exact absurd w1.symm cu
              · exact Or.inr ⟨w1, by omega⟩
      · rw [if_neg (by omega)]
        exact ⟨y, m, τ, l, hy, him, g, over (Or.inl (by omega)), rfl⟩
    · rw [if_neg (by omega)]
      exact ⟨y, m, τ, l, hy, him, g, over (Or.inr (by omega)), rfl⟩
/-- all in line -/
def zLnE (N : Nat) (u : Nat → Nat) (A2 A3 A6 : Nat) (FR : Nat → Int32) (l : Nat → Nat) (τ : zS) : Prop :=
  (∀ j, j < N → (τ.1 A2 j).toInt = l j ∧ l j < N) ∧ (∀ p, p < N → τ.1 A3 p = FR p) ∧ (∀ p, p < N → ∀ t, t < 32 → (bt (τ.1 A6 p) t = true ↔ An u t p)) ∧ (∀ j j', j < N → j' < N → l j = l j' → j = j') ∧ (∀ j, 1 ≤ j → j < N → 1 ≤ l j ∧ ∃ j', j' < j ∧ l j' = u (l j)) ∧ ∀ q, q < N → ∃ j, j < N ∧ l j = q
theorem zLn.e {m : Nat} {l : Nat → Nat} {τ : zS} (hT : zTr N u) (h : zLn N u A2 A3 A6 FR m 1 m l τ) : zLnE N u A2 A3 A6 FR l τ := by
  obtain ⟨⟨a1, a2, a3⟩, b, inj, ord, c5⟩ := h
  have all : ∀ q, q < N → ∃ j, j < m ∧ l j = q := hT.ind _ ⟨0, by omega, a3⟩ (fun c h1 h2 ih => (c5 c h1 h2).mpr (Or.inl ih))
  have eN : m = N := by
    apply Classical.byContradiction
    intro n
    have ex : ∀ q, ∃ j, q < N → j < m ∧ l j = q := fun q => by
      by_cases c : q < N
      · obtain ⟨j, h⟩ := all q c
        exact ⟨j, fun _ => h⟩
      · exact ⟨0, fun z => absurd z c⟩
    obtain ⟨f, hf⟩ := Classical.axiomOfChoice ex
    obtain ⟨q, h1, h2⟩ := pigeon N f (fun q hq => by have := (hf q hq).1; omega) (fun q q' h1 h2 e => by
      have w1 := (hf q h1).2
      have w2 := (hf q' h2).2
      rw [← w1, ← w2, e]) (N - 1) (by omega)
    have := (hf q h1).1
    omega
  subst eN
  refine ⟨fun j hj => ⟨(b j hj).1, (b j hj).2.1⟩, fun p hp => ?_, fun p hp => ?_, inj, ord, all⟩
  · obtain ⟨j, h1, h2⟩ := all p hp
    rw [← h2]
    exact (b j h1).2.2.1
  · obtain ⟨j, h1, h2⟩ := all p hp
    rw [← h2]
    exact (b j h1).2.2.2
theorem cForm2 (D : zShD sh A1 A2 A3 A4 A6 I) (hR : zShR sh co A1 A2 A3 A4 A6 I s.2.2) (hN : N ≤ 12) (hT : zTr N u) (hu : ∀ c, 1 ≤ c → c < N → (s.1 I c).toInt = u c) (hF : ∀ c, 1 ≤ c → c < N → FR c = FR (u c) + ℓ c) (hl : ∀ c, 1 ≤ c → c < N → s.1 A1 c = ℓ c) (h0 : (s.1 sh 0).toInt = N) : ∀ (n : Nat) (x : Int32) (i : Nat) (y : Int32) (m : Nat) (τ : zS) (l : Nat → Nat), x.toInt = i → i ≤ m → y.toInt = m → N - i < n → zFr (zB3 A2 A3 A6) s τ → zLn N u A2 A3 A6 FR i 1 m l τ → ∃ (τ' : zS) (l' : Nat → Nat), zFr (zB3 A2 A3 A6) s τ' ∧ zLnE N u A2 A3 A6 FR l' τ' ∧ F_X6_form_63_1 sh tt co n x y τ = F_X6_countAbove sh co τ' := by
  intro n
  induction n with
  | zero => intro x i y m τ l _ _ _ h; exact absurd h (by omega)
  | succ n ih =>
    intro x i y m τ l hx him hy hm g h
    have r0 : τ.2.2 = s.2.2 := g.rf
    have nx : x.toNatClampNeg = i := by rw [ztn, hx]; rfl
    have e1 : (1 : Int32).toInt = (1 : Nat) := by decide
    rw [F_X6_form_63_1]
    simp only [zlt, r0, hR.2.1, nx]
    by_cases c : i < m
    · rw [if_pos (by omega)]
      obtain ⟨y', m', τ', l', w1, w2, w3, w4, w5⟩ := cForm1 (tt := tt) D hR hN hu hF hl h0 (k := F_X6_form_63_1 sh tt co n) (i := i) (v := τ.1 A2 i) (x30 := x) 10000 1 1 y m τ l e1 (by omega) (by have := h.1; omega) (by omega) hy c (h.2.1 i c).1 g h
      rw [w5]
      exact ih (x + (1 : Int32)) (i + 1) y' m' τ' l' (zp1 hx (by have := h.1; omega)) (by omega) w1 (by have := h.1; omega) w3 w4
    · rw [if_neg (by omega)]
      obtain rfl : i = m := by omega
      exact ⟨τ, l, g, h.e hT, rfl⟩
end CFORM
end
