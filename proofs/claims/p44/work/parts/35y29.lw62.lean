/-! WHAT GOES ON, WHOLE, AND BESIDE: the mouth has won no money, no place beyond is dammed -/
def zQx (N : Nat) (c : zCo) (r : Nat → Int32) : Prop := zQw N c r ∧ c.2.2.1 0 = 0 ∧ ∀ j, j < 32 → bt c.2.2.2.1 j = true → 1 ≤ j ∧ j < N
theorem zGd.qx : zGd zQx := by
  obtain ⟨g0, g1, g2, g3⟩ := zGd.q1
  refine ⟨fun N c r h => g0 N c r h.1, fun N c r p h12 h => ⟨g1 N c r p h12 h.1, h.2⟩, fun N c r k b h1 h2 h12 hb h => ⟨g2 N c r k b h1 h2 h12 hb h.1, h.2.1, fun j hj w => ?_⟩, fun N c r k v h1 h2 h12 h => ⟨g3 N c r k v h1 h2 h12 h.1, h.2⟩⟩
  have w' : bt (c.2.2.2.1 ^^^ b) j = true := w
  rw [b_xor, hb j hj] at w'
  by_cases e : j = k
  · omega
  · rw [decide_eq_false e, Bool.xor_false] at w'
    exact h.2.2 j hj w'
section NOWHERE
variable {q Y : Nat → Nat} {a b N : Nat} {s1 s2 t1 t2 t : zS} {g : zGl} {u l : Nat → Nat} {v m : Int32}
/-- what the class needs of a river of no places -/
def zN0 (q : Nat → Nat) (t : zS) : Prop := zQr q t.2.2 ∧ (t.1 (q 1) 0).toInt = (0 : Nat) ∧ (∀ x : Int32, (F_X6_isSource (q 1) x t).1.toInt = 0 ↔ ¬ (0 ≤ x.toInt ∧ Src 0 (fun _ => 0) x.toInt.toNat)) ∧ 0 ≤ (t.1 (q 4) 5).toInt ∧ (t.1 (q 4) 5).toInt ≤ 2
theorem zN0.fr (h : zN0 q t) (f : zFr (zGw q) t t1) : zN0 q t1 := by
  obtain ⟨h1, h2, h3, h4⟩ := h
  refine ⟨by rw [f.rf]; exact h1, by rw [zGw.r h1 f (i := 1) (by decide) (by omega)]; exact h2, fun x => ?_, by rw [zGw.c h1 f (by decide)]; exact h4⟩
  have g18 : (t.2.2 (q 1) 4).getD 0 = q 18 := h1.1.2.2.2.1.2.2
  have e : (F_X6_isSource (q 1) x t1).1 = (F_X6_isSource (q 1) x t).1 := by
    have x0 : t1.1 (q 1) 0 = t.1 (q 1) 0 := congrFun (zGw.r h1 f (by decide) (by omega)) 0
    have x18 : t1.1 (q 18) = t.1 (q 18) := zGw.r h1 f (by decide) (by omega)
    unfold F_X6_isSource
    simp only [zlt, f.rf, g18, x0, x18]
    (repeat' split) <;> rfl
  rw [e]
  exact h3 x
theorem zN0.step (h : zN0 q t) : zFr (zGw q) t (F_X5_endMonth (q 0) (F_X5_fall (q 0) m t)) ∧ (F_X5_endMonth (q 0) (F_X5_fall (q 0) m t)).1 (q 21) 0 = t.1 (q 21) 0 := by
  obtain ⟨h1, h2, h3, h4⟩ := id h
  obtain ⟨⟨-, k1, -, -, k5, k6, -⟩, ⟨k8, k9⟩, -⟩ := id h1.1
  have f : zFr (zRw q) t (F_X5_fall (q 0) m t) := fr_X5_fall zFr.id (fun _ => Or.inr (Or.inr (Or.inr (Or.inl (by rw [k1, k8]))))) (fun _ => Or.inr (Or.inr (Or.inr (Or.inr (by rw [k1, k9]))))) (fun _ => Or.inl k5) (fun _ => Or.inr (Or.inl k6))
  obtain ⟨e1, -, e3, -⟩ := cEndM (N := 0) (u := fun _ => 0) (g := fun _ => none) h1 (fun hN => absurd hN (by omega)) h2 (by omega) h3 h4 (F := fun p => (F_X5_fall (q 0) m t).1 (q 6) p) f (fun p _ => rfl)
  refine ⟨e1, ?_⟩
  rw [e3 0, if_neg]
  unfold wnM wn
  omega
theorem zN0.go {T : Int32} : ∀ (n : Nat) (x : Int32) (t : zS), zN0 q t → zFr (zGw q) t (F_X5_goThrough_9 (q 0) (q 3) (q 4) T v n x t) ∧ (F_X5_goThrough_9 (q 0) (q 3) (q 4) T v n x t).1 (q 21) 0 = t.1 (q 21) 0 := by
  intro n
  induction n with
  | zero => intro x t h; exact ⟨zFr.id, rfl⟩
  | succ n ih =>
    intro x t h
    have eS : (F_X9_isStorm (q 3) v (t.1 (q 4) 4) t).2 = t := by
      unfold F_X9_isStorm
      simp only [zlt]
      split <;> rfl
    obtain ⟨w, hw⟩ : ∃ w, w = (F_X9_isStorm (q 3) v (t.1 (q 4) 4) t).1 := ⟨_, rfl⟩
    have iS : F_X9_isStorm (q 3) v (t.1 (q 4) 4) t = (w, t) := Prod.ext hw.symm eS
    have go : ∀ m : Int32, zFr (zGw q) t (F_X5_goThrough_9 (q 0) (q 3) (q 4) T v n (x + (1 : Int32)) (F_X5_endMonth (q 0) (F_X5_fall (q 0) m t))) ∧ (F_X5_goThrough_9 (q 0) (q 3) (q 4) T v n (x + (1 : Int32)) (F_X5_endMonth (q 0) (F_X5_fall (q 0) m t))).1 (q 21) 0 = t.1 (q 21) 0 := fun m => by
      obtain ⟨a1, a2⟩ := h.step (m := m)
      obtain ⟨b1, b2⟩ := ih (x + (1 : Int32)) _ (h.fr a1)
      exact ⟨a1.tr b1, b2.trans a2⟩
    rw [F_X5_goThrough_9]
    by_cases c : x.toInt < T.toInt
    · rw [if_pos c]
      simp only [zlt, iS, zlt2]
      by_cases d : w.toInt = 0
      · rw [if_pos d]
        exact go 0
      · rw [if_neg d]
        exact go _
    · rw [if_neg c]
      exact ⟨zFr.id, rfl⟩
theorem Src_u0 {u u' : Nat → Nat} {p : Nat} : Src 0 u p ↔ Src 0 u' p := ⟨fun h => absurd h.2.1 (by omega), fun h => absurd h.2.1 (by omega)⟩
theorem zMb.n0 (M : zMb q Y a b 0 g u l v s1 s2 t1 t2) : zN0 q t1 := by
  obtain ⟨⟨⟨a1, -, a3, -, -, -, -, a8⟩, -⟩, Dn, -⟩ := M
  obtain ⟨-, -, -, d4, d5⟩ := Dn
  refine ⟨a1, a3, fun x => ?_, d4, d5⟩
  rw [a8 x, Src_u0 (u := u) (u' := fun _ => 0)]
end NOWHERE
section MONTHSX
variable {κ : Int} {L1 : List Nat} {kd1 : Nat → Nat} {L2 : List Nat} {kd2 : Nat → Nat} {σ1 σ2 τ1 τ2 s : zS} {m0 x0 : Nat} {V : zWh} {ps pc sl rv sh cd : Nat}
set_option maxHeartbeats 1000000 in
/-- months, with what is won and paid -/
theorem zRL.monthsX {v1 v2 p : Int32} (h : zRL zQx L1 kd1 x0 m0 V ps pc sl rv sh cd σ1 σ2) (hw : 0 < zM m0 σ2 → zLw x0 m0 σ1 σ2) (hl : zLen x0 m0 σ1 σ2) (hg : gN m0 σ2) (hM0 : zM m0 τ2 = zM m0 σ2) (hx : zT L1 kd1 x0 10) (hI : zI κ 0 L1 kd1 σ1) (hJ : zJ κ L2 kd2 σ2) (hm : zT L2 kd2 m0 11) (hs5 : ∀ a ∈ L1, kd1 a = 5 → a = rv) (f1 : (v1, τ1) = F_X10_months x0 p σ1) (f2 : (v2, τ2) = F_X11_months m0 p σ2) : v1.toInt = v2.toInt ∧ zRL zQx L1 kd1 x0 m0 V ps pc sl rv sh cd τ1 τ2 := by
  obtain ⟨hL, hV, N, n, u, ⟨a1, a2, a3, a4, a5, a6, a7, a8, a9⟩, hq, hu, hh⟩ := id h
  have e0 : (0 : Int32).toInt = 0 := by decide
  have e60 : (60 : Int32).toInt = 60 := by decide
  have n48 : (48 : Int32).toNatClampNeg = 48 := by decide
  have g6 : (σ1.2.2 x0 6).getD 0 = V.1 0 := xnw hL
  have g4 : (σ1.2.2 x0 4).getD 0 = ps := by rw [hL.1.2.2.2.1]; rfl
  have g2 : (σ1.2.2 x0 2).getD 0 = rv := xrv hV
  have em : σ1.1 (V.1 0) 4 = σ2.1 (mR σ2 m0 48) 48 := by
    have := hq.1.1.2.2.1
    rw [rC_i (by decide), Nat.zero_add] at this
    exact this
  have ml : F_X11_isLong p = F_X11_in p 0 60 := by
    unfold F_X11_isLong
    simp only [zlt]
  by_cases c : 0 ≤ p.toInt ∧ p.toInt ≤ 60
  · by_cases cz : p.toInt = 0
    · unfold F_X10_months at f1
      unfold F_X11_months at f2
      simp only [zlt, ml, cWithin, mIn, e0, e60, g6, n48] at f1 f2
      rw [if_neg (fun z => z c), if_neg (by omega)] at f1
      rw [if_neg (fun z => z c), if_pos cz] at f2
      rw [show τ1 = σ1 from congrArg Prod.snd f1, show τ2 = σ2 from congrArg Prod.snd f2]
      refine ⟨?_, h⟩
      rw [show v1 = _ from congrArg Prod.fst f1, show v2 = _ from congrArg Prod.fst f2, em]
    · skip
      obtain ⟨k, hk⟩ : ∃ k : Nat, p.toInt = k := ⟨p.toInt.toNat, by omega⟩
      obtain ⟨s, e', p2, p3, p4, p5, p6, p7⟩ := zPush hL (k := 0) (by decide) a4 a5 a6 a7
      have rs : s.2.2 = σ1.2.2 := by rw [p2]
      have hLs : zLay L1 kd1 x0 s.2.2 V ps pc sl := by rw [rs]; exact hL
      have hVs : zRv L1 kd1 x0 rv sh cd s.2.2 := by rw [rs]; exact hV
      -- the class
      have f1b := f1
      unfold F_X10_months at f1b
      simp only [zlt, cWithin, e0, e60, g6, g4] at f1b
      rw [if_neg (fun z => z c), if_pos (by omega), e'] at f1b
      simp only [rs, g2, g6] at f1b
      obtain ⟨y, hy⟩ : ∃ y : zS, y = F_X5_goThrough rv ((σ1.2.2 x0 10).getD 0) (V.1 0) p (s.1 ((σ1.2.2 x0 10).getD 0) 13) s := ⟨_, rfl⟩
      obtain ⟨k1, k2, k3⟩ := cThr hLs hVs (t := (σ1.2.2 x0 10).getD 0) (v := s.1 ((σ1.2.2 x0 10).getD 0) 13) hk (by omega)
      rw [← hy] at f1b k1 k2 k3
      have y6 : (y.2.2 x0 6).getD 0 = V.1 0 := by rw [k1 x0 6 (fun z => zNk hx hV.2.1.2.1 (by decide) z.1), rs]; exact g6
      rw [y6] at f1b
      have t1 : τ1 = y := congrArg Prod.snd f1b
      -- what of the class' cells stays
      have kk : ∀ {a q : Nat}, zT L1 kd1 a q → (q ≠ 20 ∧ q ≠ 21 ∧ q ≠ 30 ∧ q ≠ 31 ∧ q ≠ 32 ∧ q ≠ 6 ∧ q ≠ 33 ∧ q ≠ 34 ∧ q ≠ 35 ∧ q ≠ 36 ∧ q ≠ 37 ∧ q ≠ 38) → a ≠ V.2.2.1 0 → a ≠ V.2.2.2 0 → ∀ j, ¬ (a = V.1 0 ∧ j = 4) → y.1 a j = s.1 a j := fun ha hq n1 n2 j n3 => k3 _ j (by
        rw [ha.2]
        rintro ((z | z | z | z) | z)
        · rw [ha.2] at z; omega
        · exact n1 z
        · exact n2 z
        · exact n3 z
        · omega)
      obtain ⟨⟨tA, tI, tW, tM⟩, -⟩ := hL.2.2.2.1 0 (by decide)
      have k0 : ∀ {a q : Nat}, zT L1 kd1 a q → (q = 2 ∨ q = 4 ∨ q = 9 ∨ q = 10) → y.1 a = s.1 a := fun ha hq => funext (fun j => kk ha (by omega) (zNk ha tW (by omega)) (zNk ha tM (by omega)) j (fun z => zNk ha tA (by omega) z.1))
      have kc : ∀ r, r < 45 → r ≠ 0 → zcc V y.1 r = zcc V s.1 r := fun r hr h0 => by
        obtain ⟨⟨uA, uI, uW, uM⟩, -⟩ := hL.2.2.2.1 r hr
        have hi := hL.2.2.2.2.1 r 0 hr (by decide)
        refine zcc.eq (fun j _ => kk uI (by decide) (zNk uI tW (by decide)) (zNk uI tM (by decide)) j (fun z => zNk uI tA (by decide) z.1)) (fun j _ => kk uW (by decide) (fun z => h0 (hi (Or.inr (Or.inr (Or.inl z))))) (zNk uW tM (by decide)) j (fun z => zNk uW tA (by decide) z.1)) (fun j _ => kk uM (by decide) (zNk uM tW (by decide)) (fun z => h0 (hi (Or.inr (Or.inr (Or.inr z))))) j (fun z => zNk uM tA (by decide) z.1)) (fun j _ => kk uA (by decide) (zNk uA tW (by decide)) (zNk uA tM (by decide)) j (fun z => h0 (hi (Or.inl z.1))))
      have c0 : (zcc V y.1 0).1 = (zcc V s.1 0).1 ∧ (zcc V y.1 0).2.2.2.1 = (zcc V s.1 0).2.2.2.1 ∧ (zcc V y.1 0).2.2.2.2.2 = (zcc V s.1 0).2.2.2.2.2 := by
        refine ⟨zt12_e (fun j _ => kk tI (by decide) (zNk tI tW (by decide)) (zNk tI tM (by decide)) j (fun z => zNk tI tA (by decide) z.1)), kk tA (by decide) (zNk tA tW (by decide)) (zNk tA tM (by decide)) 3 (fun z => by omega), kk tA (by decide) (zNk tA tW (by decide)) (zNk tA tM (by decide)) 5 (fun z => by omega)⟩
      -- the reference
      have f2b := f2
      unfold F_X11_months at f2b
      simp only [zlt, ml, mIn, e0, e60, n48] at f2b
      rw [if_neg (fun z => z c), if_neg cz] at f2b
      obtain ⟨b1, b2, b3⟩ := zCopies2 hJ hm
      obtain ⟨w, hw'⟩ : ∃ w : zS, w = F_X11_copies m0 σ2 := ⟨_, rfl⟩
      rw [← hw'] at f2b b1 b2 b3
      have hS : ([49, 54, 52, 53, 45, 46, 55] : List Nat).all (fun t => zf 0 11 t == some (100 + t)) = true := by rfl
      have wm : (F_X11_many m0 w).toInt = N := by
        rw [mMany, ← a2]
        unfold zM zp
        rw [zFm.fld hJ hm b3 hS (j := 18) (by rfl)]
        show (w.1 ((w.2.2 m0 21).getD 0) _).toInt = _
        rw [b3.rf]
        show (w.1 (mR σ2 m0 21) _).toInt = _
        rw [zFm.row hJ hm b3 (s := 21) (by rfl) hS (by rfl)]
      obtain ⟨q1, q2⟩ := mGoes hJ hm (s := w) b1 (by omega) hk (by omega)
      have t2 : τ2 = F_X11_records m0 (F_X11_goes m0 p w) := congrArg Prod.snd f2b
      have gall : zFr (zFm [50, 51, 47, 56] [49, 54, 52, 53, 45, 46, 55] m0 σ2.2.2) σ2 (F_X11_goes m0 p w) := by
        refine (b3.up (fun a j q => ?_)).tr (q1.up (fun a j q => ?_))
        · rcases q with ⟨e, q⟩ | ⟨t, ht, e⟩
          · exact Or.inl ⟨e, by simp only [List.mem_cons, List.not_mem_nil, or_false] at q ⊢; omega⟩
          · exact Or.inr ⟨t, ht, e⟩
        · rcases q with (⟨e, q⟩ | ⟨t, ht, e⟩) | ⟨e, -⟩
          · exact Or.inl ⟨e, by simp only [List.mem_cons, List.not_mem_nil, or_false] at q ⊢; omega⟩
          · exact Or.inr ⟨t, by simp only [List.mem_cons, List.not_mem_nil, or_false] at ht ⊢; omega, e⟩
          · exact Or.inr ⟨49, by decide, e⟩
      obtain ⟨now', hnow⟩ : ∃ r, r = rC (F_X11_goes m0 p w).1 (mR σ2 m0 49) 0 := ⟨_, rfl⟩
      have D : ∀ u : Nat, (σ2.1 m0 57).toInt = u → u ≤ 40 → zDone σ2 m0 u now' τ2 := fun u hu hu2 => by
        rw [t2]
        exact zDone.of hJ hm hu hu2 gall (by rfl) (by rfl) (by rfl) hnow.symm
      -- the row
      have rm : mR σ2 m0 49 ≠ m0 := mR_m hJ hm (s := 49) (k := 149) (by rfl) (by decide)
      have rowk : ∀ j, j < 50 → ¬ (24 ≤ j ∧ j ≤ 48) → now' j = rC σ2.1 (mR σ2 m0 48) 0 j := fun j hj hn => by
        rw [hnow, rC_i hj, rC_i hj, Nat.zero_add, ← b2 j hj]
        refine q1.2 _ _ ?_
        rintro ((⟨e, -⟩ | ⟨t, ht, e⟩) | ⟨-, z1, z2⟩)
        · exact rm e
        · have h2 : zf 0 11 t = some (100 + t) ∧ t ≠ 49 := by
            simp only [List.mem_cons, List.not_mem_nil, or_false] at ht
            rcases ht with rfl | rfl | rfl <;> exact ⟨by rfl, by decide⟩
          exact mR_ne hJ hm (s := 49) (s' := t) (k := 149) (by rfl) h2.1 (by omega) e
        · exact hn ⟨z1, z2⟩
      have row48 : now' 48 = zit k (rC σ2.1 (mR σ2 m0 48) 0 48) := by
        rw [hnow, rC_i (by decide), rC_i (by decide), Nat.zero_add, q2, b2 48 (by decide)]
      -- what is won and paid
      have nl : ∀ a ka, zT L1 kd1 a ka → (ka = 9 ∨ (46 ≤ ka ∧ ka ≤ 51)) → s.1 a = σ1.1 a := fun a ka ha hka => p7 a ha.1 (fun z => by
        rw [ha.2] at z
        simp only [List.mem_cons, List.not_mem_nil, or_false] at z
        omega)
      obtain ⟨td, B, N2, gl, u', l', d1, n2', -, M⟩ := zSd.of zGd.qx (fun _ _ _ h => h.1) h hw hl hx hI hJ hm hg (s0 := s) (fun a j _ => by rw [rs]) nl (k := 0) (by decide) (p4 0 (by decide) (by omega))
      obtain ⟨td', d1', d2⟩ := zi_ref (j := 10) (k2 := 9) hI hx (by rfl)
      have et : td' = td := Option.some.inj (d1'.symm.trans d1)
      rw [et] at d2
      have gd : (σ1.2.2 x0 10).getD 0 = td := by rw [d1]; rfl
      have yG : y = F_X5_goThrough_9 rv td (V.1 0) p (σ1.1 td 13) 10000 0 (F_X5_form rv td (V.1 0) s) := by
        rw [hy, gd, nl td 9 d2 (by omega)]
        unfold F_X5_goThrough
        simp only [zlt]
      have wG : F_X11_goes m0 p w = F_X11_goes_2 m0 p 4294967299 0 (F_X11_copies m0 σ2) := by
        rw [hw']
        unfold F_X11_goes
        simp only [zlt]
      have MG : 0 < N2 → zMb (qOf σ1.2.2 rv sh cd td V 0) (mR σ2 m0) m0 B N2 gl u' l' (σ1.1 td 13) (F_X5_form rv td (V.1 0) s) (F_X11_copies m0 σ2) y (F_X11_goes m0 p w) := fun hNN => by
        rw [yG, wG]
        exact zMb.go (by omega) hk (by omega) k 10000 4294967299 0 0 _ _ (by decide) (by omega) (by omega) (by omega) M
      have won : ∀ j, j < N → y.1 (V.2.2.1 0) j = now' (24 + j) ∧ y.1 (V.2.2.2 0) j = now' (36 + j) ∧ 0 ≤ (y.1 (V.2.2.1 0) j).toInt ∧ (y.1 (V.2.2.1 0) j).toInt ≤ 999 := fun j hj => by
        rw [hnow, rC_i (by omega), rC_i (by omega), Nat.zero_add, Nat.zero_add]
        exact (MG (by omega)).2.1.1 j (by omega)
      have wc : ∀ (f : Nat → Nat → Int32) j, j < 12 → (zcc V f 0).2.1 j = f (V.2.2.1 0) j ∧ (zcc V f 0).2.2.1 j = f (V.2.2.2 0) j := fun f j hj => ⟨if_pos hj, if_pos hj⟩
      have F0 : (F_X5_form rv td (V.1 0) s).1 (V.2.2.2 0) = s.1 (V.2.2.2 0) := (zForm (V := V) hVs td (V.1 0)).1.2 _ ⟨tM.1, by rw [tM.2]; omega, fun z => by
        have i1 := hL.2.2.2.2.1 0 1 (by decide) (by decide)
        obtain ⟨⟨uA, uI, uW, uM⟩, -⟩ := hL.2.2.2.1 1 (by decide)
        rcases z with z | z | z | z
        · exact zNk tM uA (by decide) z
        · exact zNk tM uI (by decide) z
        · exact zNk tM uW (by decide) z
        · exact absurd (i1 (Or.inr (Or.inr (Or.inr z)))) (by decide)⟩
      have R : zRL zQx L1 kd1 x0 m0 V ps pc sl rv sh cd τ1 τ2 := by
        refine h.act hx hI (fun a ha h5 => ?_) (fun a ha h5 j j5 j6 => ?_) (fun a ha hk => ?_) ?_ (fun r hr h0 _ => ?_) D (fun N' z1 z2 z3 z4 => ?_)
        · rw [t1]
          funext j
          rw [k1 a j (fun z => h5 (by rw [z.1]; exact hV.2.1.2.1.2)), rs]
        · rw [t1, k1 a j (fun z => by omega), rs]
        · rw [t1, k0 ⟨ha, rfl⟩ (by omega)]
          refine p7 a ha (fun z => ?_)
          simp only [List.mem_cons, List.not_mem_nil, or_false] at z
          omega
        · rw [t1, e', k0 hL.2.2.2.2.2.2.1 (by omega)]
        · rw [t1, e', kc r hr h0]
        · have eN : N' = N := by omega
          subst eN
          obtain ⟨⟨⟨w1, w2, w3, w4⟩, -, x456⟩, x7, x8⟩ := z4
          have s0 : zcc V s.1 0 = zcc V σ1.1 0 := p4 0 (by decide) (by omega)
          rw [t1]
          refine ⟨⟨⟨fun j h1 h2 => ?_, fun j h1 h2 => ?_, ?_, ?_⟩, fun j hj => ?_, fun hN0 => ⟨⟨?_, ?_⟩, ⟨?_, ?_⟩, ?_⟩⟩, ?_, fun j hj w => ?_⟩
          · rw [c0.1, s0, rowk j (by omega) (by omega)]; exact w1 j h1 h2
          · rw [c0.2.1, s0, rowk (12 + j) (by omega) (by omega)]; exact w2 j h1 h2
          · rw [row48, ← w3, ← s0]; exact k2
          · rw [c0.2.2, s0, rowk 49 (by omega) (by omega)]; exact w4
          · rw [(wc y.1 j (by omega)).1, (wc y.1 j (by omega)).2]; exact won j hj
          · rw [c0.2.1, s0]; exact (x456 hN0).1.1
          · rw [rowk 12 (by omega) (by omega)]; exact (x456 hN0).1.2
          · rw [(wc y.1 0 (by decide)).2]
            have e1 := (MG (by omega)).2.2.2.2.2.2.2.1.1
            have e2 := congrArg (fun c : zCo => c.2.2.1 0) s0
            have e3 : s.1 (V.2.2.2 0) 0 = (zcc V σ1.1 0).2.2.1 0 := by rw [← e2]; rfl
            have e4 : y.1 (V.2.2.2 0) 0 = (F_X5_form rv td (V.1 0) s).1 (V.2.2.2 0) 0 := e1
            rw [e4, F0, e3]
            exact (x456 hN0).2.1.1
          · have e1 := (MG (by omega)).2.2.2.2.2.2.2.1.2
            have e2 : now' 36 = (F_X11_goes m0 p w).1 (mR σ2 m0 49) 36 := by rw [hnow, rC_i (by decide), Nat.zero_add]
            rw [e2]
            refine e1.trans ?_
            rw [← hw', b2 36 (by decide)]
            have x5 := (x456 hN0).2.1.2
            rw [rC_i (by decide), Nat.zero_add] at x5
            exact x5
          · rw [rowk 0 (by omega) (by omega)]; exact (x456 hN0).2.2
          · rw [(wc y.1 0 (by decide)).2]
            have e2 := congrArg (fun c : zCo => c.2.2.1 0) s0
            have e3 : s.1 (V.2.2.2 0) 0 = (zcc V σ1.1 0).2.2.1 0 := by rw [← e2]; rfl
            have e4 : y.1 (V.2.2.2 0) 0 = (F_X5_form rv td (V.1 0) s).1 (V.2.2.2 0) 0 := by
              by_cases hNN : 0 < N2
              · exact (MG hNN).2.2.2.2.2.2.2.1.1
              · obtain rfl : N2 = 0 := by omega
                have e5 := (M.n0.go (T := p) (v := σ1.1 td 13) 10000 0 _).2
                rw [yG]
                exact e5
            rw [e4, F0, e3]
            exact x7
          · rw [c0.2.1, s0] at w
            exact x8 j hj w
      refine ⟨?_, R⟩
      -- the answers
      have hd := (D u a8 a7)
      obtain ⟨d0, -, d2, -⟩ := hd
      have av : v2 = τ2.1 (mR σ2 m0 48) 48 := by
        rw [show v2 = _ from congrArg Prod.fst f2b, t2]
        show (F_X11_records m0 (F_X11_goes m0 p w)).1 (((F_X11_records m0 (F_X11_goes m0 p w)).2.2 m0 48).getD 0) 48 = _
        rw [← t2, d0]
      have bv : τ2.1 (mR σ2 m0 48) 48 = now' 48 := by
        rw [← d2, rC_i (by decide), Nat.zero_add]
      rw [show v1 = _ from congrArg Prod.fst f1b, av, bv, row48, rC_i (by decide), Nat.zero_add, ← em, k2]
      have : s.1 (V.1 0) 4 = σ1.1 (V.1 0) 4 := by
        have := congrArg (fun c : zCo => c.2.2.2.2.1) (p4 0 (by decide) (by omega))
        exact this
      rw [this]
  · unfold F_X10_months at f1
    unfold F_X11_months at f2
    simp only [zlt, ml, cWithin, mIn, e0, e60] at f1 f2
    rw [if_pos c] at f1 f2
    cases f1
    cases f2
    exact ⟨rfl, h⟩
end MONTHSX
section RD8X
variable {κ : Int} {L1 : List Nat} {kd1 : Nat → Nat} {L2 : List Nat} {kd2 : Nat → Nat} {σ1 σ2 τ1 τ2 : zS} {m0 x0 : Nat} {V : zWh} {ps pc sl rv sh cd td tt : Nat}
theorem zRL.readX {v1 v2 : Int32} (hS : zSAM κ L1 kd1 L2 kd2 σ1 σ2) (h : zRL zQx L1 kd1 x0 m0 V ps pc sl rv sh cd σ1 σ2) (hTt : zTt x0 σ1.2.2 td tt) (hI1 : zI κ 0 L1 kd1 σ1) (hI2 : zJ κ L2 kd2 σ2) (hx0 : zT L1 kd1 x0 10) (hm0 : zT L2 kd2 m0 11) (f1 : (v1, τ1) = F_X10_read x0 σ1) (f2 : (v2, τ2) = F_X11_read m0 σ2) : zRL zQx L1 kd1 x0 m0 V ps pc sl rv sh cd τ1 τ2 ∧ ∃ td' tt', zTt x0 τ1.2.2 td' tt' := by
  obtain ⟨T, m, P, tk, kA, vA, qA, tt', N0, k, q, v, nm, nO, x, p1, p2, C0, D0, S0, y, K, ⟨hd, hd', hTm, hK⟩, ⟨v0, w0⟩, ⟨e, e2⟩, ⟨P1, s1, P2, s2⟩, er, ef, -, dF, tks⟩ := zRead1 hS hI1 hI2 hx0 hm0
  have ett : tt' = tt := Option.some.inj (s1.symm.trans hTt.2.1)
  subst ett
  obtain ⟨hL, hV, N, n, u, ⟨a1, a2, a3, a4, a5, a6, a7, a8, a9⟩, hq, hu, hh⟩ := id h
  obtain ⟨c1, c2, c3⟩ := cRead hL hI1 hx0 hTt P1 P2 s2 hd hK v0 e er ef f1
  obtain ⟨b, E, hb1, h18, hE, rE, E19, EF, EX, m1, m2⟩ := mRead hI2 hm0 hd' hTm hK w0 e2 dF tks f2 (fun _ => (0, 0, 0, 0))
  obtain ⟨dy, y1, y2⟩ := zi_ref (j := 5) (k2 := 2) hI1 hx0 (by rfl)
  have d1 := hTt.1
  have td9 : zT L1 kd1 td 9 := by
    obtain ⟨z, z1, z2⟩ := zi_ref (j := 10) (k2 := 9) hI1 hx0 (by rfl)
    rw [d1] at z1
    rw [Option.some.inj z1]
    exact z2
  have xP : x0 ≠ P := zNk hx0 P2 (by decide)
  have tP : tt' ≠ P := zNk s2 P2 (by decide)
  have dP : td ≠ P := zNk td9 P2 (by decide)
  have tps : zT L1 kd1 ps 4 := hL.2.2.2.2.2.2.1
  have kr := fun j j1 j2 j3 => zTt_k hI1 s2 j j1 j2 j3
  have krn : ∀ j, 2 ≤ j → j ≤ 9 → j ≠ 8 → 45 ≤ kd1 ((σ1.2.2 tt' j).getD 0) ∧ kd1 ((σ1.2.2 tt' j).getD 0) ≤ 51 := fun j j1 j2 j3 => by
    rw [(kr j j1 j2 j3).2]
    split <;> omega
  by_cases za : aAns (aRun T 500 aZ) = 0
  · obtain ⟨⟨z1, z2⟩, g1, g2, g3, g4, g5, g6, g7, g8, -, g10, -⟩ := c3 za
    obtain ⟨-, N2, l1, l2, -, l4, l5, l6, l7, l8, l9, l10⟩ := m2 za
    obtain ⟨X1, -, X3⟩ := EX z1 z2
    have M2 := mRead2 hI2 hm0 hd' hTm hK w0 dF tks hb1 h18
    rw [← hE] at M2
    have rx : ∀ j, j ≠ 10 → j ≠ 11 → τ1.2.2 x0 j = σ1.2.2 x0 j := fun j j1 j2 => by
      rw [g1, zu_j _ _ _ _ _ (fun z => j1 z.symm), zu_j _ _ _ _ _ (fun z => j2 z.symm), zu_n _ _ _ xP]
    have ro : ∀ c, c ≠ x0 → c ≠ P → τ1.2.2 c = σ1.2.2 c := fun c h1 h2 => by rw [g1, zu_n _ _ _ h1, zu_n _ _ _ h1, zu_n _ _ _ h2]
    have rk : ∀ a ∈ L1, kd1 a ≠ 10 → kd1 a ≠ 3 → τ1.2.2 a = σ1.2.2 a := fun a _ k1 k2 => ro a (fun z => k1 (by rw [z]; exact hx0.2)) (fun z => k2 (by rw [z]; exact P2.2))
    have r10 : τ1.2.2 x0 10 = some tt' := by rw [g1, zu_s]
    have r11 : τ1.2.2 x0 11 = some td := by rw [g1, zu_j _ _ _ _ _ (by decide), zu_s]
    have g10' : (τ1.2.2 x0 10).getD 0 = tt' := by rw [r10]; rfl
    have g5' : (τ1.2.2 x0 5).getD 0 = dy := by rw [rx 5 (by decide) (by decide), y1]; rfl
    have er2 : ∀ s, mR τ2 m0 s = mR σ2 m0 s := fun s => by rw [mR, l4]
    have n48 : ∀ j, ¬ zBm σ2 m0 (mR σ2 m0 21) j := fun j => by
      rintro (⟨z, -⟩ | z | z | z)
      · exact mR_m hI2 hm0 (s := 21) (k := 121) (by rfl) (by decide) z
      · exact mR_ne hI2 hm0 (s := 21) (s' := 48) (k := 121) (k' := 148) (by rfl) (by rfl) (by decide) z
      · exact mR_ne hI2 hm0 (s := 21) (s' := 49) (k := 121) (k' := 149) (by rfl) (by rfl) (by decide) z
      · exact mR_ne hI2 hm0 (s := 21) (s' := 67) (k := 121) (k' := 167) (by rfl) (by rfl) (by decide) z
    -- the class' rows at the end of the tellings
    obtain ⟨W, hW⟩ : ∃ W : Nat → Nat, W = fun j => (σ1.2.2 tt' j).getD 0 := ⟨_, rfl⟩
    have Wk : ∀ j, 2 ≤ j → j ≤ 5 → zT L1 kd1 (W j) (43 + j) := fun j j1 j2 => by
      have := kr j j1 (by omega) (by omega)
      rw [if_neg (by omega)] at this
      rw [hW]; exact this
    have rC0 : ∀ j, C0.2.2 tt' j = σ1.2.2 tt' j := fun j => by rw [er, zu_n _ _ _ tP]
    have hWz : zWz W P tt' C0.2.2 := ⟨fun j j1 j2 => ⟨by rw [rC0, hW], zNk (Wk j j1 j2) P2 (by omega)⟩, fun i j i1 i2 j1 j2 n => zNk (Wk i i1 i2) (Wk j j1 j2) (by omega)⟩
    have hXz : ∀ j, 2 ≤ j → j ≤ 5 → W j ≠ tt' ∧ W j ≠ (C0.2.2 tt' 6).getD 0 ∧ W j ≠ (C0.2.2 tt' 7).getD 0 ∧ W j ≠ (C0.2.2 tt' 9).getD 0 := fun j j1 j2 => by
      have q6 : zT L1 kd1 ((σ1.2.2 tt' 6).getD 0) 49 := kr 6 (by decide) (by decide) (by decide)
      have q7 : zT L1 kd1 ((σ1.2.2 tt' 7).getD 0) 50 := kr 7 (by decide) (by decide) (by decide)
      have q9 : zT L1 kd1 ((σ1.2.2 tt' 9).getD 0) 51 := kr 9 (by decide) (by decide) (by decide)
      rw [rC0, rC0, rC0]
      exact ⟨zNk (Wk j j1 j2) s2 (by omega), zNk (Wk j j1 j2) q6 (by omega), zNk (Wk j j1 j2) q7 (by omega), zNk (Wk j j1 j2) q9 (by omega)⟩
    obtain ⟨-, VG, -⟩ := vEndI (tt := tt') hd hK (fun τ s g => zVg W τ s g ∧ τ.2.2 = C0.2.2) (aG T) (fun τ s g hv hs hi => ⟨vTellG hd hK hv hs (by rw [hi.2]; exact hWz) (by rw [hi.2]; exact hXz) hi.1, by rw [show (F_X3_telling P τ).2.2 = τ.2.2 from rf_X3_telling (R := τ.2.2) rfl]; exact hi.2⟩) 500 C0 aZ (fun _ => (0, 0, 0, 0)) v0 ⟨fun _ _ p h1 h2 => by have h2' : (p : Int) ≤ 0 := h2; omega, rfl⟩
    have VG' := VG z1 z2
    have tree : ∀ p : Nat, 1 ≤ p → p < N2 → (vEnd P T 500 aZ C0).1 ((σ1.2.2 tt' 2).getD 0) p = E.1 (mR σ2 m0 22) (12 * b + p) := fun p h1 h2 => by
      have hp : (p : Int) ≤ (aRun T 500 aZ).2.2.2.2.2.2.1 := by
        rw [l2] at X1
        split at X1
        · omega
        · omega
      have q1 := (VG' p h1 hp).1
      have q2 := (X3 p h1 hp).1
      rw [hW] at q1
      exact Int32.toInt_inj.mp (q1.trans q2.symm)
    refine ⟨⟨hL.keep (fun a ha hk => rk a ha (by omega) (by omega)) (fun j hj => rx j (by omega) (by omega)), hV.cl2 (fun a ha hk => rk a ha (by omega) (by omega)) (fun j hj => rx j (by omega) (by omega)) (by rw [g10']; exact s2), N2, n, 0, ⟨?_, ?_, l1, by rw [g4]; exact a4, a5, by rw [g5]; rfl, by omega, by rw [l6]; rfl, ?_⟩, ?_, fun i hi => absurd hi (by omega), fun s hs => Or.inr ⟨by rw [g7]; exact b_0 s, by rw [er2]; exact l8 s hs⟩⟩, tt', td, r10, r11, fun z => hTt.2.2.1 z.symm, fun j j1 j2 j3 => ?_⟩
    · rw [g10', g8, ← X1, l2]
    · unfold zM zp
      show (τ2.1 (mR τ2 m0 21) (τ2.1 m0 18).toInt.toNat).toInt = N2
      rw [er2, l5, l10 _ _ (n48 _)]
      exact l2
    · rw [g5', g6 dy y1, l7]
    · have e0 : ∀ j, j < 50 → rC τ2.1 (mR τ2 m0 48) 0 j = if j < N2 then E.1 (mR σ2 m0 22) (12 * b + j) else 0 := fun j hj => by rw [rC_i hj, Nat.zero_add, er2, l9 j hj]
      rw [g2]
      have eN : ∀ j, N2 ≤ j → j < 50 → rC τ2.1 (mR τ2 m0 48) 0 j = 0 := fun j j1 j2 => by rw [e0 j j2, if_neg (by omega)]
      refine ⟨⟨⟨fun p h1 h2 => ?_, fun p h1 h2 => Or.inr ⟨b_0 p, ?_⟩, ?_, ?_⟩, fun p hp => ⟨(eN (24 + p) (by omega) (by omega)).symm, (eN (36 + p) (by omega) (by omega)).symm, by show 0 ≤ (0 : Int32).toInt; decide, by show (0 : Int32).toInt ≤ 999; decide⟩, fun hN => ⟨⟨b_0 0, eN 12 (by omega) (by omega)⟩, ⟨rfl, eN 36 (by omega) (by omega)⟩, ?_⟩⟩, rfl, fun j _ w => absurd ((b_0 j).symm.trans w) (by decide)⟩
      · rw [e0 p (by omega), if_pos h2]
        show zt12 _ p = _
        unfold zt12
        rw [if_pos (by omega)]
        exact tree p h1 h2
      · rw [e0 _ (by omega), if_neg (by omega)]
      · rw [e0 _ (by omega), if_neg (by omega)]
      · rw [e0 _ (by omega), if_neg (by omega)]
      · rw [e0 0 (by omega), if_pos hN]
        refine M2 z1 (fun z => ?_)
        rw [if_pos z, l2] at X1
        omega
    · rw [ro tt' (zNk s2 hx0 (by decide)) tP, ro td (zNk td9 hx0 (by decide)) dP]
      exact fun z => hTt.2.2.2 j j1 j2 j3 z.symm
  · obtain ⟨g1, g2⟩ := c2 za
    obtain ⟨l1, l2⟩ := m1 za
    have ro : ∀ c, c ≠ P → τ1.2.2 c = σ1.2.2 c := fun c h1 => by rw [g1, zu_n _ _ _ h1]
    have fr : ∀ c j, kd1 c ≠ 3 → kd1 c ≠ 7 → kd1 c ≠ 8 → kd1 c ≠ 41 → kd1 c ≠ 43 → ¬ (45 ≤ kd1 c ∧ kd1 c ≤ 51) → c ≠ tt' → ¬ (c = x0 ∧ j = 13) → τ1.1 c j = σ1.1 c j := fun c j n3 n7 n8 n41 n43 n45 nt nx => g2 c j (by
      rintro (⟨-, z⟩ | z | ⟨i, i1, i2, i3, z⟩)
      · omega
      · exact nt z
      · have := krn i i1 i2 i3
        rw [← z] at this
        exact n45 this) nx n7
    have frk : ∀ c kc, zT L1 kd1 c kc → kc = 1 ∨ kc = 2 ∨ kc = 4 ∨ kc = 22 ∨ kc = 23 ∨ kc = 24 → τ1.1 c = σ1.1 c := fun c kc hc hk => funext (fun j => fr c j (by rw [hc.2]; omega) (by rw [hc.2]; omega) (by rw [hc.2]; omega) (by rw [hc.2]; omega) (by rw [hc.2]; omega) (by rw [hc.2]; omega) (fun z => by rw [z] at hc; have := hc.2.symm.trans s2.2; omega) (fun z => by have z1 := z.1; rw [z1] at hc; have := hc.2.symm.trans hx0.2; omega))
    have A := h.cl2 (τ1 := τ1) hx0 d1 y1 (fun a ha hk => ro a (fun z => by rw [z, P2.2] at hk; omega)) (fr td 0 (by rw [td9.2]; decide) (by rw [td9.2]; decide) (by rw [td9.2]; decide) (by rw [td9.2]; decide) (by rw [td9.2]; decide) (by rw [td9.2]; decide) hTt.2.2.1 (fun z => by omega)) (congrFun (frk ps 4 tps (by omega)) 1) (congrFun (frk ps 4 tps (by omega)) 2) (congrFun (frk dy 2 y2 (by omega)) 4) (fr x0 12 (by rw [hx0.2]; decide) (by rw [hx0.2]; decide) (by rw [hx0.2]; decide) (by rw [hx0.2]; decide) (by rw [hx0.2]; decide) (by rw [hx0.2]; decide) (zNk hx0 s2 (by decide)) (fun z => by omega)) (fun k hk => by
      obtain ⟨⟨uA, uI, uW, uM⟩, -⟩ := hL.2.2.2.1 k hk
      exact zcc.st (frk _ _ uA (by omega)) (frk _ _ uI (by omega)) (frk _ _ uW (by omega)) (frk _ _ uM (by omega)))
    have l : ∀ c j, ¬ (c = m0 ∧ j = 17) → ¬ zAm (mR σ2 m0) m0 b x k q v c j → τ2.1 c j = σ2.1 c j := fun c j n1 n2 => (l2 c j n1).trans (EF c j n2)
    refine ⟨A.m2 l1 (fun j hj => l _ _ (fun z => by omega) (zAm.fld hI2 hm0 tks hj)) (l _ _ (fun z => mR_m hI2 hm0 (s := 21) (k := 121) (by rfl) (by decide) z.1) (zAm.r21 hI2 hm0 tks (by omega))) (fun s hs j => l _ _ (fun z => mR_m hI2 hm0 (s := s) (k := 100 + s) (by rcases hs with rfl | rfl | rfl | rfl <;> rfl) (by omega) z.1) (zAm.row hI2 hm0 tks (by rcases hs with rfl | rfl | rfl | rfl <;> rfl) (by omega) j)), td, tt', hTt.keep (fun j => by rw [ro x0 xP]) (fun j => by rw [ro td dP]) (fun j => by rw [ro tt' tP])⟩
end RD8X
