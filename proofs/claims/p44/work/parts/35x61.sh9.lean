/-! MEET -/
/-- how many are on the way -/
noncomputable def dep (N : Nat) (u : Nat → Nat) (c : Nat) : Nat := cnt (fun t => An u t c) N
section DEP
variable {N : Nat} {u : Nat → Nat} {c : Nat} {FR ℓ : Nat → Int32}
theorem dep_0 (hN : 0 < N) : dep N u 0 = 1 := by
  unfold dep
  rw [cnt_cg (Q := fun t => t = 0) N (fun t _ => An_0), cnt_1, if_pos hN]
theorem dep_s (h : zTr N u) (h1 : 1 ≤ c) (h2 : c < N) : dep N u c = dep N u (u c) + 1 := by
  unfold dep
  have e : cnt (fun t => An u t c) N = cnt (fun t => t = c ∨ An u t (u c)) N := cnt_cg N (fun t _ => An_s (by omega))
  rw [e, cnt_or N (fun t _ ⟨z1, z2⟩ => h.acyc h1 h2 (by rw [z1] at z2; exact z2)), cnt_1, if_pos h2]
  omega
theorem An_z (h : zTr N u) : ∀ c, c < N → An u 0 c := h.ind _ An_rf (fun c h1 h2 ih => (An_s (by omega)).mpr (Or.inr ih))
theorem dep_b (h : zTr N u) : ∀ c, c < N → 1 ≤ dep N u c ∧ dep N u c ≤ N := fun c hc => ⟨cnt_p N (k := 0) (by omega) (An_z h c hc), cnt_le N⟩
theorem fr_b (h : zTr N u) (hN : N ≤ 12) (F0 : FR 0 = 0) (hF : ∀ c, 1 ≤ c → c < N → FR c = FR (u c) + ℓ c) (hl : ∀ c, 1 ≤ c → c < N → 1 ≤ (ℓ c).toInt ∧ (ℓ c).toInt ≤ 99) : ∀ c, c < N → 0 ≤ (FR c).toInt ∧ (FR c).toInt + 99 ≤ 99 * (dep N u c : Int) := by
  have e0 : (0 : Int32).toInt = 0 := by decide
  by_cases hz : 0 < N
  · refine h.ind _ (by rw [F0, e0, dep_0 hz]; omega) (fun c h1 h2 ih => ?_)
    have d := dep_s h h1 h2
    have b := (dep_b h c h2).2
    have l := hl c h1 h2
    rw [hF c h1 h2, zb_add (by omega) (by omega)]
    omega
  · intro c hc
    omega
theorem fr_s (h : zTr N u) (hN : N ≤ 12) (F0 : FR 0 = 0) (hF : ∀ c, 1 ≤ c → c < N → FR c = FR (u c) + ℓ c) (hl : ∀ c, 1 ≤ c → c < N → 1 ≤ (ℓ c).toInt ∧ (ℓ c).toInt ≤ 99) (h1 : 1 ≤ c) (h2 : c < N) : (FR (u c)).toInt < (FR c).toInt := by
  have a := fr_b h hN F0 hF hl (u c) (h.u_lt h1 h2)
  have d := (dep_b h (u c) (h.u_lt h1 h2)).2
  have l := hl c h1 h2
  rw [hF c h1 h2, zb_add (by omega) (by omega)]
  omega
theorem fr_m (h : zTr N u) (hN : N ≤ 12) (F0 : FR 0 = 0) (hF : ∀ c, 1 ≤ c → c < N → FR c = FR (u c) + ℓ c) (hl : ∀ c, 1 ≤ c → c < N → 1 ≤ (ℓ c).toInt ∧ (ℓ c).toInt ≤ 99) : ∀ c, c < N → ∀ t, An u t c → t = c ∨ (FR t).toInt < (FR c).toInt := by
  refine h.ind _ (fun t ht => Or.inl (An_0.mp ht)) (fun c h1 h2 ih t ht => ?_)
  have s := fr_s h hN F0 hF hl h1 h2
  rcases (An_s (by omega)).mp ht with e | e
  · exact Or.inl e
  · rcases ih t e with z | z
    · rw [z]; exact Or.inr s
    · exact Or.inr (by omega)
end DEP
section MEETC
variable {N sh A1 A2 A3 A4 A6 : Nat} {u l : Nat → Nat} {ℓ FR : Nat → Int32} {s : zS}
theorem cMeet1 (hP : zShp N u ℓ FR sh A1 A2 A3 A4 A6 l s) (g3 : (s.2.2 sh 3).getD 0 = A3) (hN : N ≤ 12) (hN0 : 0 < N) {P : Nat → Prop} {both p1 p2 : Int32} (hb : ∀ j, j < 32 → (bt both j = true ↔ P j)) : ∀ (n : Nat) (x : Int32) (i : Nat) (y : Int32) (w : Nat), x.toInt = i → 1 ≤ i → i ≤ 12 → 12 - i < n → y.toInt = w → w < N → (w = 0 ∨ P w) → (∀ c, 1 ≤ c → c < i → c < N → P c → (FR c).toInt ≤ (FR w).toInt) → ∃ (z : Int32) (w' : Nat), F_X6_meeting_20 both sh p1 p2 n x y s = (z, s) ∧ z.toInt = w' ∧ w' < N ∧ (w' = 0 ∨ P w') ∧ ∀ c, 1 ≤ c → c < N → P c → (FR c).toInt ≤ (FR w').toInt := by
  have h0 := hP.1
  intro n
  induction n with
  | zero => intro x i y w _ _ _ h; exact absurd h (by omega)
  | succ n ih =>
    intro x i y w hx h1 hi hm hy hw hP0 hmax
    have nx : x.toNatClampNeg = i := by rw [ztn, hx]; rfl
    have ny : y.toNatClampNeg = w := by rw [ztn, hy]; rfl
    rw [F_X6_meeting_20]
    simp only [zlt, g3, nx, ny]
    by_cases c : i < N
    · rw [if_pos (by omega)]
      have hh := cHas (x := both) hx (by omega)
      have x1 : (x + (1 : Int32)).toInt = (i + 1 : Nat) := zp1 hx (by omega)
      rw [hP.2.1.2.1 i c, hP.2.1.2.1 w hw]
      by_cases c2 : bt both i = true
      · rw [hh, if_pos c2, if_neg (by decide)]
        by_cases c3 : (FR w).toInt < (FR i).toInt
        · rw [if_pos c3]
          refine ih (x + (1 : Int32)) (i + 1) x i x1 (by omega) (by omega) (by omega) hx c (Or.inr ((hb i (by omega)).mp c2)) (fun d d1 d2 d3 d4 => ?_)
          by_cases e : d = i
          · rw [e]; exact Int.le_refl _
          · have := hmax d d1 (by omega) d3 d4
            omega
        · rw [if_neg c3]
          refine ih (x + (1 : Int32)) (i + 1) y w x1 (by omega) (by omega) (by omega) hy hw hP0 (fun d d1 d2 d3 d4 => ?_)
          by_cases e : d = i
          · rw [e]; omega
          · exact hmax d d1 (by omega) d3 d4
      · rw [hh, if_neg c2, if_pos rfl]
        refine ih (x + (1 : Int32)) (i + 1) y w x1 (by omega) (by omega) (by omega) hy hw hP0 (fun d d1 d2 d3 d4 => ?_)
        by_cases e : d = i
        · rw [e] at d4
          exact absurd ((hb i (by omega)).mpr d4) c2
        · exact hmax d d1 (by omega) d3 d4
    · rw [if_neg (by omega)]
      exact ⟨y, w, rfl, hy, hw, hP0, fun d d1 d2 d3 => hmax d d1 (by omega) d2 d3⟩
end MEETC
section MEETM
variable {L : List Nat} {kd : Nat → Nat} {m0 N : Nat} {u : Nat → Nat} {FR SR : Nat → Int32} {σ t : zS} {κ : Int}
theorem mMeet1 (h : zShM N u FR SR m0 σ t) (hT : zTr N u) (hN : N ≤ 12) (hu : ∀ c, 1 ≤ c → c < N → (σ.1 (mR σ m0 48) c).toInt = u c) {p q r : Int32} {a b : Nat} (hp : p.toInt = a) (hq : q.toInt = b) (ha : a < N) (hb : b < N) : ∀ (n : Nat) (x : Int32) (d : Nat), x.toInt = d → d < N → dep N u d < n → An u d a → (∀ c, An u c a → An u c b → An u c d) → ∃ (x' : Int32) (c0 : Nat), x'.toInt = c0 ∧ c0 < N ∧ An u c0 a ∧ An u c0 b ∧ (∀ c, An u c a → An u c b → An u c c0) ∧ F_X11_meet_34 m0 p q r n x t = (if r.toInt = 0 then x' else FR a + FR b - (2 : Int32) * FR c0, t) := by
  intro n
  induction n with
  | zero => intro x d _ _ h; exact absurd h (by omega)
  | succ n ih =>
    intro x d hx hd hm ha' hc
    have nx : x.toNatClampNeg = d := by rw [ztn, hx]; rfl
    have np : p.toNatClampNeg = a := by rw [ztn, hp]; rfl
    have nq : q.toNatClampNeg = b := by rw [ztn, hq]; rfl
    have cut := (bt_cut (x := t.1 (mR σ m0 54) d) hq (by omega)).1
    have bb := h.2.1 d b hd (by omega)
    rw [F_X11_meet_34]
    simp only [zlt, h.r 54, h.r 49, h.r 52, nx, np, nq]
    by_cases c : An u d b
    · have w : ¬ ((t.1 (mR σ m0 54) d >>> (q &&& 31)) &&& (1 : Int32)).toInt = 0 := fun z => cut.mp z (bb.mpr ⟨hb, c⟩)
      rw [if_neg w]
      refine ⟨x, d, hx, hd, ha', c, hc, ?_⟩
      rw [(h.2.2.1 a ha).1, (h.2.2.1 b hb).1, (h.2.2.1 d hd).1]
      by_cases cr : r.toInt = 0
      · rw [if_pos cr, if_pos cr]
      · rw [if_neg cr, if_neg cr]
    · have w : ((t.1 (mR σ m0 54) d >>> (q &&& 31)) &&& (1 : Int32)).toInt = 0 := cut.mpr (fun z => c (bb.mp z).2)
      rw [if_pos w]
      have d0 : d ≠ 0 := fun z => c (by rw [z]; exact An_z hT b hb)
      have d1 : 1 ≤ d := by omega
      have e := h.2.2.2.1 d (by omega)
      rw [e]
      have ds := dep_s hT d1 hd
      refine ih _ (u d) (hu d d1 hd) (hT.u_lt d1 hd) (by omega) (An_tr ((An_s d0).mpr (Or.inr An_rf)) ha') (fun c' w1 w2 => ?_)
      rcases (An_s d0).mp (hc c' w1 w2) with z | z
      · rw [z] at w2
        exact absurd w2 c
      · exact z
end MEETM
section MEETB
variable {κ : Int} {L1 : List Nat} {kd1 : Nat → Nat} {L2 : List Nat} {kd2 : Nat → Nat} {σ1 σ2 τ1 τ2 : zS} {m0 x0 : Nat} {Q : Nat → zCo → (Nat → Int32) → Prop} {V : zWh} {ps pc sl rv sh cd : Nat} {v1 v2 p q r : Int32}
theorem zRL.meet (hG : zGd Q) (h : zRL Q L1 kd1 x0 m0 V ps pc sl rv sh cd σ1 σ2) (hl : zLen x0 m0 σ1 σ2) (hx : zT L1 kd1 x0 10) (hI : zI κ 0 L1 kd1 σ1) (hJ : zJ κ L2 kd2 σ2) (hm : zT L2 kd2 m0 11) (hg : gN m0 σ2) (f1 : (v1, τ1) = F_X10_meet x0 p q r σ1) (f2 : (v2, τ2) = F_X11_meet m0 p q r σ2) : v1.toInt = v2.toInt := by
  obtain ⟨N, M, u, FR, SR, ℓ, l, A1, A2, A3, A4, A6, s, t, hs, ht, ⟨⟨n1, n2, n3, n4⟩, ⟨F0, -, hF, -, hℓ⟩, hb, -, hM⟩, ⟨g0, g1, g2, g3, g4, g6⟩, hP, hMN⟩ := h.lk2 hG hl hx hI hJ hm hg
  have e0 : (0 : Int32).toInt = 0 := by decide
  have e1 : (1 : Int32).toInt = 1 := by decide
  have k1 := zN1 n3 n1
  have k2 := zN1 (x := F_X11_many m0 σ2) (mMany.trans n2) n1
  unfold F_X10_meet at f1
  unfold F_X11_meet at f2
  simp only [zlt, zlt2, cPlace, mPlc, cWithin, mIn, e0, e1, k1, k2] at f1 f2
  by_cases cp : 0 ≤ p.toInt ∧ p.toInt ≤ (N : Int) - 1
  · rw [if_neg (fun z => z cp)] at f1 f2
    by_cases cq : 0 ≤ q.toInt ∧ q.toInt ≤ (N : Int) - 1
    · rw [if_neg (fun z => z cq)] at f1 f2
      by_cases cr : 0 ≤ r.toInt ∧ r.toInt ≤ 1
      · rw [if_neg (fun z => z cr)] at f1 f2
        obtain ⟨a, ha⟩ : ∃ a : Nat, p.toInt = a := ⟨p.toInt.toNat, by omega⟩
        obtain ⟨b, hb'⟩ : ∃ b : Nat, q.toInt = b := ⟨q.toInt.toNat, by omega⟩
        have np : p.toNatClampNeg = a := by rw [ztn, ha]; rfl
        have nq : q.toNatClampNeg = b := by rw [ztn, hb']; rfl
        have a1 : a < N := by omega
        have b1 : b < N := by omega
        have bits : ∀ j, j < 32 → (bt (s.1 A6 a &&& s.1 A6 b) j = true ↔ (An u j a ∧ An u j b)) := fun j hj => by
          rw [b_and, Bool.and_eq_true, hP.2.1.2.2.1 a a1 j hj, hP.2.1.2.2.1 b b1 j hj]
        obtain ⟨z, w', q1, q2, q3, q4, q5⟩ := cMeet1 hP g3 n1 (by omega) (p1 := p) (p2 := q) bits 10000 1 1 0 0 e1 (by omega) (by omega) (by omega) e0 (by omega) (Or.inl rfl) (fun c c1 c2 => by omega)
        have eM : F_X6_meeting sh p q s = (z, s) := by
          unfold F_X6_meeting
          simp only [zlt, g6, np, nq]
          exact q1
        obtain ⟨x', c0, r1, r2, r3, r4, r5, r6⟩ := mMeet1 hM n4 n1 (fun c c1 c2 => (hb c c1 c2).2) ha hb' a1 b1 (r := r) 10000 p a ha a1 (by have := (dep_b n4 a a1).2; omega) An_rf (fun c h1 h2 => h1)
        have same : w' = c0 := by
          have cw : An u w' a ∧ An u w' b := by
            rcases q4 with e | e
            · rw [e]; exact ⟨An_z n4 a a1, An_z n4 b b1⟩
            · exact e
          rcases fr_m n4 n1 F0 hF hℓ c0 r2 w' (r5 w' cw.1 cw.2) with e | e
          · exact e
          · by_cases c00 : c0 = 0
            · rw [c00] at r5 ⊢
              exact An_0.mp (r5 w' cw.1 cw.2)
            · have := q5 c0 (by omega) r2 ⟨r3, r4⟩
              omega
        have nz : z.toNatClampNeg = c0 := by rw [ztn, q2, same]; rfl
        rw [← hs, g0, eM] at f1
        simp only [g0, g3, np, nq, nz] at f1
        rw [hP.2.1.2.1 a a1, hP.2.1.2.1 b b1, hP.2.1.2.1 c0 r2] at f1
        rw [← ht, r6] at f2
        by_cases c0' : r.toInt = 0
        · rw [if_pos c0'] at f1 f2
          rw [(zPr2 f1).1, (zPr2 f2).1, q2, r1, same]
        · rw [if_neg c0'] at f1 f2
          rw [(zPr2 f1).1, (zPr2 f2).1]
      · rw [if_pos cr] at f1 f2
        rw [(zPr2 f1).1, (zPr2 f2).1]
    · rw [if_pos cq] at f1 f2
      rw [(zPr2 f1).1, (zPr2 f2).1]
  · rw [if_pos cp] at f1 f2
    rw [(zPr2 f1).1, (zPr2 f2).1]
end MEETB
