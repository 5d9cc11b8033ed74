/-! A PLACE TOLD, the reference's side: what is written in the end -/
noncomputable def mPEnd (a : Nat) (x : Int32) (t : zS) : zS :=
  if 0 < (t.1 a 13).toInt then t else
    if (zu t.1 a 42 (t.1 a 42 + (1 : Int32)) a 41).toInt = 0 then (zu t.1 a 42 (t.1 a 42 + (1 : Int32)), zu t.2.1 ((t.2.2 a 20).getD 0) (zu t.1 a 42 (t.1 a 42 + (1 : Int32)) a 42).toNatClampNeg (t.2.1 ((t.2.2 a 8).getD 0) x.toNatClampNeg), t.2.2)
    else (zu (zu t.1 a 42 (t.1 a 42 + (1 : Int32))) ((t.2.2 a 21).getD 0) (zu t.1 a 42 (t.1 a 42 + (1 : Int32)) a 19).toNatClampNeg (zu t.1 a 42 (t.1 a 42 + (1 : Int32)) a 42 + (1 : Int32)), zu t.2.1 ((t.2.2 a 20).getD 0) (zu t.1 a 42 (t.1 a 42 + (1 : Int32)) a 42).toNatClampNeg (t.2.1 ((t.2.2 a 8).getD 0) x.toNatClampNeg), t.2.2)
theorem mPl_e {a iv : Nat} {x v23 x1 x2 x3 : Int32} {τ τ1 t0 t1 t2 t3 : zS} (p1 : F_X11_named a τ = (x, τ1)) (p2 : F_X11_must a 1 τ1 = t0) (h0 : ¬ 0 < (t0.1 a 13).toInt) (hv : F_X11_numberOf a (τ1.1 a 11) t0 = v23) (hiv : ((12 : Int32) * τ.1 a 19 + τ.1 a 42 + (1 : Int32)).toNatClampNeg = iv) (hn : ¬ v23.toInt < 0) (b1 : F_X11_bounded a 1 99 (zu t0.1 ((t0.2.2 a 22).getD 0) iv v23, t0.2.1, t0.2.2) = (x1, t1)) (d1 : F_X11_bounded a 0 99 (zu t1.1 ((t0.2.2 a 23).getD 0) iv x1, t1.2.1, t1.2.2) = (x2, t2)) (g1 : F_X11_bounded a 0 99 (zu t2.1 ((t1.2.2 a 24).getD 0) iv x2, t2.2.1, t2.2.2) = (x3, t3)) : F_X11_tellPlace a τ = mPEnd a x (F_X11_must a 4 (zu t3.1 ((t2.2.2 a 25).getD 0) iv x3, t3.2.1, t3.2.2)) := by
  unfold F_X11_tellPlace
  simp only [zlt, zlt2, p1, p2, hv, hiv, zu_s, b1, d1, g1]
  rw [if_neg h0, if_neg hn]
  unfold mPEnd
  simp only [zu_s]
theorem mPEnd_fi {a : Nat} {x : Int32} {t : zS} (h : ¬ 0 < (t.1 a 13).toInt) : zFi (fun c _ => c = a ∨ c = (t.2.2 a 21).getD 0) t (mPEnd a x t) := by
  have K1 : zFi (fun c _ => c = a ∨ c = (t.2.2 a 21).getD 0) t (zu t.1 a 42 (t.1 a 42 + (1 : Int32)), t.2.1, t.2.2) := zFi.id.w (Or.inl rfl)
  unfold mPEnd
  rw [if_neg h]
  split
  · exact K1
  · exact K1.w (Or.inr rfl)
section RTG3
variable {a k q v nm nO m b : Nat} {T : zTn} {τ τ' : zS} {s s' : zA} {Y : Nat → Nat} {g : zGa}
/-- while no fault is there: how many places, the mouth's row, the others' -/
def zXg (Y : Nat → Nat) (b : Nat) (τ : zS) (s : zA) (g : zGa) : Prop := s.1 = 0 → s.2.2.2.1 = 0 → (τ.1 (Y 21) b).toInt = (if s.2.2.2.2.2.1 = 0 then 0 else 1 + s.2.2.2.2.2.2.1) ∧ (s.2.2.2.2.2.1 ≠ 0 → (τ.1 (Y 23) (12 * b)).toInt = 0 ∧ (τ.1 (Y 24) (12 * b)).toInt = 0 ∧ (τ.1 (Y 25) (12 * b)).toInt = 0) ∧ ∀ p : Nat, 1 ≤ p → (p : Int) ≤ s.2.2.2.2.2.2.1 → (τ.1 (Y 22) (12 * b + p)).toInt = (g p).1 ∧ (τ.1 (Y 23) (12 * b + p)).toInt = (g p).2.1 ∧ (τ.1 (Y 24) (12 * b + p)).toInt = (g p).2.2.1 ∧ (τ.1 (Y 25) (12 * b + p)).toInt = (g p).2.2.2
def aF (a : Nat) : Nat → Nat → Prop := fun c j => c = a ∧ j ≠ 19
theorem aF.c {t t' : zS} (h : zFi (aF a) t t') : zFi (fun c _ => c = a) t t' := h.up (fun _ _ z => z.1)
theorem aF.sv {t t' : zS} (h : zFi (aF a) t t') : t'.1 a 19 = t.1 a 19 := h.2 _ _ (fun z => z.2 rfl)
set_option maxHeartbeats 1000000 in
theorem xPlaceG (hd : zWd a k q v nm nO) (hT : zTm T m) (hK : zTK T m) (h : zXo a k q v nm nO m T τ s) (h11 : s.1 = 0 → s.2.2.2.2.2.2.1 < 11) (hY : zYz Y a τ.2.2) (hb : (τ.1 a 19).toInt = b) (hb1 : b ≤ 1) (hg : zXg Y b τ s g) : zXg Y b (F_X11_tellPlace a τ) (aTake T 24 (if (aPlace2 T s).1 = 0 ∧ (aPlace2 T s).2.2.2.2.2.2.1 < 11 then aSetP (aPlace2 T s) (T.2.1 s.2.2.1) else aPlace2 T s)) (fun p : Nat => if (p : Int) = s.2.2.2.2.2.2.1 + 1 then aVals T s else g p) := by
  intro hq l
  have q21 : zQs 21 := by unfold zQs; omega
  have q22 : zQs 22 := by unfold zQs; omega
  have q23 : zQs 23 := by unfold zQs; omega
  have q24 : zQs 24 := by unfold zQs; omega
  have q25 : zQs 25 := by unfold zQs; omega
  have e12 : (12 : Int32).toInt = 12 := by decide
  have e1 : (1 : Int32).toInt = 1 := by decide
  have z2 : (aPlace2 T s).1 = 0 := by
    have := (aTake_i hq).1
    split at this
    · next c => exact c.1
    · exact this
  have w := aPlace2_i z2
  have l11 : (aPlace2 T s).2.2.2.2.2.2.1 < 11 := by rw [w.2.2]; exact h11 w.1
  have hc0 : (aPlace2 T s).1 = 0 ∧ (aPlace2 T s).2.2.2.2.2.2.1 < 11 := ⟨z2, l11⟩
  rw [if_pos hc0] at hq l ⊢
  have cnt : (aPlace2 T s).2.2.2.2.2.2.1 = s.2.2.2.2.2.2.1 := congrArg (fun z => z.2.1) w.2.2
  have mou : (aPlace2 T s).2.2.2.2.2.1 = s.2.2.2.2.2.1 := congrArg (fun z => z.1) w.2.2
  have i4 := (aTake_i hq).2.2.2
  have sC : (aTake T 24 (aSetP (aPlace2 T s) (T.2.1 s.2.2.1))).2.2.2.2.2.2.1 = s.2.2.2.2.2.2.1 + 1 := (congrArg (fun z => z.2.2.2.1) i4).trans (congrArg (fun z => z + 1) cnt)
  have sM : (aTake T 24 (aSetP (aPlace2 T s) (T.2.1 s.2.2.1))).2.2.2.2.2.1 = s.2.2.2.2.2.1 := (congrArg (fun z => z.2.2.1) i4).trans mou
  have l2 : (aPlace2 T s).2.2.2.1 = 0 := by rw [aTake_l] at l; exact l
  have q24t : (aTake T 24 (aPlace2 T s)).1 = 0 := by
    have i := aTake_i hq
    have c4 := aTake_400 hq
    rw [aTake_1 (s := aPlace2 T s) z2 i.2.1 c4]
    exact z2
  obtain ⟨z4, -, -⟩ := aNumb_i (lo := 0) (hi := 99) z2
  obtain ⟨z3, -, -⟩ := aNumb_i z4
  obtain ⟨zk, -, -⟩ := aNumb_i z3
  obtain ⟨zn, k22, -⟩ := aKnown_i zk
  have l4 := aNumb_l (lo := 0) (hi := 99) z4 l2
  have l3 := aNumb_l z3 l4
  have l1 := aNumb_l zk l3
  obtain ⟨l0, c5⟩ := aKnown_l zn l1 k22
  have lS := aNew_l w.1 l0
  obtain ⟨g1, g2, g3⟩ := hg w.1 lS
  obtain ⟨x, τ1, p1, p2, p3⟩ := xNamed hd hT hK h
  have p4 := xMust hd hT hK p2 1 22 (by decide) (by decide)
  have c : (aTake T 22 (aNew T s)).1 = 0 := by
    have : aKnown T (aNew T s) = aTake T 22 (aNew T s) := by
      unfold aKnown
      rw [if_neg (fun z => c5 z.2.2)]
    rw [← this]
    exact zk
  obtain ⟨c1, c2, c3, c4⟩ := aTake_i c
  have r1 := p2.1.2.2.2.2 c1
  have en := wNum p4.1 c (τ1.1 a 11) (aNew T s).2.2.1 r1.2.1 (T.2.1 (aNew T s).2.2.1).1 (T.2.1 (aNew T s).2.2.1).2 (hT.2.2 _ r1.1 c2) (p4.1.1.2.1 _ r1.1).2.2.2
  have en2 : aNum (aTake T 22 (aNew T s)) (T.2.1 (aNew T s).2.2.1).1 = aNum (aNew T s) (T.2.1 (aNew T s).2.2.1).1 := by
    unfold aNum
    rw [c4]
  rw [en2] at en
  have nn := aNum_nn (aNew T s) (T.2.1 (aNew T s).2.2.1).1
  have r0 := h.1.2.2.2.2 w.1
  obtain ⟨-, -, -, -, -, -, r42, r10, -⟩ := r0
  have em : ((12 : Int32) * τ.1 a 19).toInt = 12 * b := by rw [zb_mul (by rw [e12, hb]; omega) (by rw [e12, hb]; omega), e12, hb]
  have e42 : ((12 : Int32) * τ.1 a 19 + τ.1 a 42).toInt = 12 * b + s.2.2.2.2.2.2.1 := by rw [zb_add (by rw [em, r42]; omega) (by rw [em, r42]; omega), em, r42]
  have ev : ((12 : Int32) * τ.1 a 19 + τ.1 a 42 + (1 : Int32)).toNatClampNeg = 12 * b + (s.2.2.2.2.2.2.1 + 1).toNat := by rw [ztn, zb_add (by rw [e42, e1]; omega) (by rw [e42, e1]; omega), e42, e1]; omega
  obtain ⟨iv, hiv⟩ : ∃ iv, iv = 12 * b + (s.2.2.2.2.2.2.1 + 1).toNat := ⟨_, rfl⟩
  rw [← hiv] at ev
  obtain ⟨t0, ht0⟩ : ∃ t0, F_X11_must a 1 τ1 = t0 := ⟨_, rfl⟩
  rw [ht0] at p4 en
  obtain ⟨v23, hv⟩ : ∃ v23, F_X11_numberOf a (τ1.1 a 11) t0 = v23 := ⟨_, rfl⟩
  rw [hv] at en
  have h0 : ¬ 0 < (t0.1 a 13).toInt := by rw [p4.1.2.1, c]; decide
  have hn : ¬ v23.toInt < 0 := by rw [en]; omega
  have a22 := xArr p4 22 iv v23 q22
  have hk : zXo a k q v nm nO m T (zu t0.1 ((t0.2.2 a 22).getD 0) iv v23, t0.2.1, t0.2.2) (aKnown T (aNew T s)) := by
    unfold aKnown
    rw [if_neg (show ¬ ((aNew T s).1 = 0 ∧ T.1 (aNew T s).2.2.1 = 22 ∧ aNum (aNew T s) (T.2.1 (aNew T s).2.2.1).1 = -1) from fun z => c5 z.2.2)]
    exact a22
  obtain ⟨x1, t1, b1, b2⟩ := xBound hd hT hK hk 1 99 1 99 (by decide) (by decide)
  have v1 := xBoundV hT hk 1 99 z3
  have a1 := xArrB hk b2 23 iv x1 q23
  obtain ⟨x2, t2, d1, d2⟩ := xBound hd hT hK a1 0 99 0 99 (by decide) (by decide)
  have v2 := xBoundV hT a1 0 99 z4
  have a2 := xArrB a1 d2 24 iv x2 q24
  obtain ⟨x3, t3, f1, f2⟩ := xBound hd hT hK a2 0 99 0 99 (by decide) (by decide)
  have v3 := xBoundV hT a2 0 99 z2
  have a3 := xArrB a2 f2 25 iv x3 q25
  rw [b1] at v1
  rw [d1] at v2
  rw [f1] at v3
  have p6 := xMust hd hT hK a3 4 24 (by decide) (by decide)
  have E := mPl_e p1 ht0 h0 hv ev hn b1 d1 f1
  obtain ⟨t6, h6⟩ : ∃ t6, t6 = F_X11_must a 4 (zu t3.1 ((t2.2.2 a 25).getD 0) iv x3, t3.2.1, t3.2.2) := ⟨_, rfl⟩
  have p6' : zXo a k q v nm nO m T t6 (aTake T 24 (aPlace2 T s)) := by rw [h6]; exact p6
  rw [← h6] at E
  have A0 : zFi (aF a) τ τ1 := (fi_X11_named zFi.id ⟨rfl, by decide⟩ ⟨rfl, by decide⟩ ⟨rfl, by decide⟩ ⟨rfl, by decide⟩ ⟨rfl, by decide⟩).of p1.symm
  have A1 : zFi (aF a) τ t0 := by rw [← ht0]; exact fi_X11_must A0 ⟨rfl, by decide⟩ ⟨rfl, by decide⟩ ⟨rfl, by decide⟩
  have y : ∀ (t : zS), t.2.2 = τ.2.2 → ∀ j, zQs j → (t.2.2 a j).getD 0 = Y j := fun t e j hj => by rw [e]; exact (hY.1 j hj).1
  have B1 : zFi (aF a) (zu t0.1 ((t0.2.2 a 22).getD 0) iv v23, t0.2.1, t0.2.2) t1 := (fi_X11_bounded zFi.id ⟨rfl, by decide⟩ ⟨rfl, by decide⟩ ⟨rfl, by decide⟩ ⟨rfl, by decide⟩ ⟨rfl, by decide⟩).of b1.symm
  have rt1 : t1.2.2 = τ.2.2 := B1.1.trans A1.1
  have B2 : zFi (aF a) (zu t1.1 ((t0.2.2 a 23).getD 0) iv x1, t1.2.1, t1.2.2) t2 := (fi_X11_bounded zFi.id ⟨rfl, by decide⟩ ⟨rfl, by decide⟩ ⟨rfl, by decide⟩ ⟨rfl, by decide⟩ ⟨rfl, by decide⟩).of d1.symm
  have rt2 : t2.2.2 = τ.2.2 := B2.1.trans rt1
  have B3 : zFi (aF a) (zu t2.1 ((t1.2.2 a 24).getD 0) iv x2, t2.2.1, t2.2.2) t3 := (fi_X11_bounded zFi.id ⟨rfl, by decide⟩ ⟨rfl, by decide⟩ ⟨rfl, by decide⟩ ⟨rfl, by decide⟩ ⟨rfl, by decide⟩).of f1.symm
  have rt3 : t3.2.2 = τ.2.2 := B3.1.trans rt2
  have B4 : zFi (aF a) (zu t3.1 ((t2.2.2 a 25).getD 0) iv x3, t3.2.1, t3.2.2) t6 := by rw [h6]; exact fi_X11_must zFi.id ⟨rfl, by decide⟩ ⟨rfl, by decide⟩ ⟨rfl, by decide⟩
  have rt6 : t6.2.2 = τ.2.2 := B4.1.trans rt3
  rw [y t0 A1.1 22 q22] at B1
  rw [y t0 A1.1 23 q23] at B2
  rw [y t1 rt1 24 q24] at B3
  rw [y t2 rt2 25 q25] at B4
  have h13 : ¬ 0 < (t6.1 a 13).toInt := by rw [p6'.1.2.1, q24t]; decide
  have s1 := hY.n.1
  have s2 := hY.n.2
  have n19 : ∀ (f : Nat → Nat → Int32) (r i : Nat) (z : Int32), r ≠ a → zu f r i z a 19 = f a 19 := fun f r i z hr => by rw [zu_n _ _ _ (fun e => hr e.symm)]
  have k19 : t6.1 a 19 = τ.1 a 19 := by
    rw [aF.sv B4]
    show zu t3.1 (Y 25) iv x3 a 19 = _
    rw [n19 _ _ _ _ (s2 25 (by decide) (by decide)), aF.sv B3]
    show zu t2.1 (Y 24) iv x2 a 19 = _
    rw [n19 _ _ _ _ (s2 24 (by decide) (by decide)), aF.sv B2]
    show zu t1.1 (Y 23) iv x1 a 19 = _
    rw [n19 _ _ _ _ (s2 23 (by decide) (by decide)), aF.sv B1]
    show zu t0.1 (Y 22) iv v23 a 19 = _
    rw [n19 _ _ _ _ (s2 22 (by decide) (by decide)), aF.sv A1]
  have K := mPEnd_fi (x := x) h13
  rw [y t6 rt6 21 q21] at K
  have rows := fun i => xRows (i := i) s1 s2 (aF.c A1) (aF.c B1) (aF.c B2) (aF.c B3) (aF.c B4) K
  obtain ⟨-, -, -, -, -, t41, t42, -, -⟩ := p6'.1.2.2.2.2 q24t
  have k4 := (aTake_i q24t).2.2.2
  have t41' : (t6.1 a 41).toInt = s.2.2.2.2.2.1 := t41.trans ((congrArg (fun z => z.2.2.1) k4).trans mou)
  have t42' : (t6.1 a 42).toInt = s.2.2.2.2.2.2.1 := t42.trans ((congrArg (fun z => z.2.2.2.1) k4).trans cnt)
  rw [E]
  refine ⟨?_, fun nm0 => ?_, fun p hp1 hp2 => ?_⟩
  · rw [sM, sC]
    have m21 := s2 21 (by decide) (by decide)
    have r21 := (rows 0).2.2.2.2
    unfold mPEnd
    rw [if_neg h13, zu_j _ _ _ _ _ (by decide : ¬ 42 = 41), t41']
    by_cases cm : s.2.2.2.2.2.1 = 0
    · rw [if_pos cm, if_pos cm]
      show (zu t6.1 a 42 _ (Y 21) b).toInt = 0
      rw [zu_n _ _ _ m21, r21, g1, if_pos cm]
    · rw [if_neg cm, if_neg cm]
      show (zu (zu t6.1 a 42 _) ((t6.2.2 a 21).getD 0) (zu t6.1 a 42 _ a 19).toNatClampNeg (zu t6.1 a 42 (t6.1 a 42 + (1 : Int32)) a 42 + (1 : Int32)) (Y 21) b).toInt = _
      rw [y t6 rt6 21 q21, zu_j _ _ _ _ _ (by decide : ¬ 42 = 19), k19, show (τ.1 a 19).toNatClampNeg = b by rw [ztn, hb]; rfl, zu_s, zu_s]
      have u1 : (t6.1 a 42 + (1 : Int32)).toInt = s.2.2.2.2.2.2.1 + 1 := by rw [zb_add (by rw [t42', e1]; omega) (by rw [t42', e1]; omega), t42', e1]
      rw [zb_add (by rw [u1, e1]; omega) (by rw [u1, e1]; omega), u1, e1]
      omega
  · rw [sM] at nm0
    obtain ⟨-, o2, o3, o4, -⟩ := rows (12 * b)
    rw [o2, o3, o4, if_neg (by omega), if_neg (by omega), if_neg (by omega)]
    exact g2 nm0
  · rw [sC] at hp2
    obtain ⟨o1, o2, o3, o4, -⟩ := rows (12 * b + p)
    rw [o1, o2, o3, o4]
    by_cases cp : (p : Int) = s.2.2.2.2.2.2.1 + 1
    · have ci : 12 * b + p = iv := (ivL r10.1 hiv).mp cp
      rw [if_pos ci, if_pos ci, if_pos ci, if_pos ci]
      simp only [if_pos cp]
      exact ⟨en, v1, v2, v3⟩
    · have ci : ¬ 12 * b + p = iv := fun z => cp ((ivL r10.1 hiv).mpr z)
      rw [if_neg ci, if_neg ci, if_neg ci, if_neg ci]
      simp only [if_neg cp]
      exact g3 p hp1 (ivM hp2 cp)
end RTG3
