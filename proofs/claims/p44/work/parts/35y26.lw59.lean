/-! STREAMS TURNED ON TRIAL: turnFor -/
def zXi (L1 : List Nat) (kd1 : Nat → Nat) (V : zWh) (rv : Nat) (σ1 x : zS) : Prop := zPv L1 kd1 V rv σ1 x ∧ ∀ c kc, zT L1 kd1 c kc → (kc = 9 ∨ (46 ≤ kc ∧ kc ≤ 51)) → x.1 c = σ1.1 c
def zRj (m0 : Nat) (σ2 ρ : zS) : Prop := ρ.2 = σ2.2 ∧ zFr (zFm [50, 51, 47] [49, 54, 52, 53, 45, 46, 55] m0 σ2.2.2) σ2 ρ
section TURNFOR
variable {κ : Int} {L1 : List Nat} {kd1 : Nat → Nat} {L2 : List Nat} {kd2 : Nat → Nat} {σ1 σ2 τ1 τ2 x ρ : zS} {m0 x0 : Nat} {V : zWh} {ps pc sl rv sh cd td N : Nat} {v1 v2 p k c i : Int32}
theorem zRj.cp (hJ : zJ κ L2 kd2 σ2) (hm : zT L2 kd2 m0 11) (h : zRj m0 σ2 ρ) : zRj m0 σ2 (F_X11_copies m0 ρ) := by
  obtain ⟨-, g⟩ := zCopies3 hJ hm h.1
  exact ⟨g.1.trans h.1, h.2.tr g⟩
/-- whether a stream can be turned, once more -/
theorem zRL.mTurnT (h : zRL zQw L1 kd1 x0 m0 V ps pc sl rv sh cd σ1 σ2) (hl : zLen x0 m0 σ1 σ2) (hx : zT L1 kd1 x0 10) (hI : zI κ 0 L1 kd1 σ1) (hJ : zJ κ L2 kd2 σ2) (hm : zT L2 kd2 m0 11) (hg : gN m0 σ2) (n2 : zM m0 σ2 = N) (n1 : N ≤ 12) (R : zRj m0 σ2 ρ) : (F_X11_canTurn m0 c i (F_X11_copies m0 ρ)).toInt = 0 ↔ ¬ zTu N (σ2.1 (mR σ2 m0 48)) c i := by
  have e0 : (0 : Int32).toInt = 0 := by decide
  have e1 : (1 : Int32).toInt = 1 := by decide
  obtain ⟨hr, -, -⟩ := h.rows zGd.q1 hg n2 n1
  obtain ⟨N', u, FR, SR, ℓ, ⟨-, a2, -, a4⟩, -, hb, hM⟩ := h.lkT zGd.q1 hl hx hI hJ hm hg R.1 R.2
  obtain rfl : N' = N := by omega
  have c3 := (R.cp hJ hm).2
  have hS : ([49, 54, 52, 53, 45, 46, 55] : List Nat).all (fun t => zf 0 11 t == some (100 + t)) = true := by rfl
  have k2 := zN1 (x := F_X11_many m0 (F_X11_copies m0 ρ)) (N := N') (by rw [mMany_g hJ hm c3 hS (by rfl) (by rfl)]; exact a2) n1
  have r48 : (F_X11_copies m0 ρ).1 (mR σ2 m0 48) = σ2.1 (mR σ2 m0 48) := zFm.row hJ hm c3 (s := 48) (by rfl) hS (by rfl)
  have g : ∀ x, ((F_X11_copies m0 ρ).2.2 m0 x).getD 0 = mR σ2 m0 x := fun x => by rw [c3.rf]
  have ue : ∀ c, 1 ≤ c → c < N' → u c = uOf (σ2.1 (mR σ2 m0 48)) c := fun c c1 c2 => by
    have a := (hb c c1 c2).2
    have b := hr.u c1 c2
    omega
  have B : ∀ {t j : Nat}, t < N' → j < N' → (bt ((F_X11_copies m0 ρ).1 (mR σ2 m0 54) t) j = true ↔ ∃ k, (pa (σ2.1 (mR σ2 m0 48)) k (nI j)).toInt = t) := fun {t j} ht hj => by
    rw [hM.2.1 t j ht (by omega), pa_An hr n1 hj, An_cg hr.tr ue j hj t]
    exact ⟨fun z => z.2, fun z => ⟨hj, z⟩⟩
  obtain ⟨f, hf⟩ : ∃ f, f = F_X11_copies m0 ρ := ⟨_, rfl⟩
  rw [← hf] at k2 r48 g B ⊢
  unfold F_X11_canTurn
  simp only [zlt, mPlc, mBeside, mIn, e0, e1, k2, g, r48]
  by_cases c1 : 1 ≤ c.toInt ∧ c.toInt ≤ (N' : Int) - 1
  · rw [if_neg (fun z => z c1)]
    by_cases d : 0 ≤ i.toInt ∧ i.toInt ≤ (N' : Int) - 1
    · rw [if_neg (fun z => z d)]
      by_cases e : (σ2.1 (mR σ2 m0 48) c.toNatClampNeg).toInt = i.toInt
      · rw [if_pos e]
        exact ⟨fun _ h => h.2.2.2.2.1 e, fun _ => e0⟩
      · rw [if_neg e]
        obtain ⟨j, hj⟩ : ∃ j : Nat, i.toInt = j := ⟨i.toInt.toNat, by omega⟩
        have b := B (t := c.toNatClampNeg) (j := j) (by rw [ztn]; omega) (by omega)
        rw [← zNi hj (by omega), show ((c.toNatClampNeg : Nat) : Int) = c.toInt by rw [ztn]; omega] at b
        by_cases h : ((f.1 (mR σ2 m0 54) c.toNatClampNeg >>> (i &&& 31)) &&& (1 : Int32)).toInt = 0
        · rw [if_pos h]
          have h2 := ((bt_cut hj (by omega)).1.mp h)
          exact ⟨fun z => absurd z (by decide), fun z => absurd ⟨c1.1, by omega, d.1, by omega, e, fun w => h2 (b.mpr w)⟩ z⟩
        · rw [if_neg h]
          refine ⟨fun _ z => h ((bt_cut hj (by omega)).1.mpr (fun w => z.2.2.2.2.2 (b.mp w))), fun _ => e0⟩
    · rw [if_pos d]
      exact ⟨fun _ h => d ⟨h.2.2.1, by have := h.2.2.2.1; omega⟩, fun _ => e0⟩
  · rw [if_pos c1]
    exact ⟨fun _ h => c1 ⟨h.1, by have := h.2.1; omega⟩, fun _ => e0⟩
/-- who wins with a stream turned, on both sides -/
theorem zRL.trnS (h : zRL zQw L1 kd1 x0 m0 V ps pc sl rv sh cd σ1 σ2) (hw : 0 < zM m0 σ2 → zLw x0 m0 σ1 σ2) (hl : zLen x0 m0 σ1 σ2) (hx : zT L1 kd1 x0 10) (hI : zI κ 0 L1 kd1 σ1) (hJ : zJ κ L2 kd2 σ2) (hm : zT L2 kd2 m0 11) (hg : gN m0 σ2) (d1 : σ1.2.2 x0 10 = some td) (n2 : zM m0 σ2 = N) (n1 : N ≤ 12) (X : zXi L1 kd1 V rv σ1 x) (R : zRj m0 σ2 ρ) {C : Nat} (hc : c.toInt = C) (z : zTu N (σ2.1 (mR σ2 m0 48)) c i) {w : Nat} (hk : k.toInt = w) (hw3 : w < 3) : ∃ (xw yw : Int32) (za zb : zS), F_X10_winsTurned x0 p k c i x = (if xw.toInt = p.toInt then (1 : Int32) else 0, za) ∧ F_X11_winnerBy m0 k (F_X11_fillsFlows m0 0 (F_X11_fillsWays m0 (zu (F_X11_copies m0 ρ).1 (mR σ2 m0 49) C i, (F_X11_copies m0 ρ).2.1, (F_X11_copies m0 ρ).2.2))) = (yw, zb) ∧ xw.toInt = yw.toInt ∧ ¬ xw.toInt = i.toInt ∧ zXi L1 kd1 V rv σ1 za ∧ zRj m0 σ2 zb := by
  have hL := h.1
  have hV := h.2.1
  obtain ⟨z1, z2, z3, z4, z5, z6⟩ := id z
  obtain ⟨hr2, hr1, er⟩ := h.rows zGd.q1 hg n2 n1
  have hr' := hr2.turn n1 hc z
  obtain ⟨gx, hes⟩ := id X
  have hLx := hL.pv hV.2.1.2.1 gx
  have hVx := hV.keep gx
  obtain ⟨tA, tI, tW, tM⟩ := (hL.2.2.2.1 1 (by decide)).1
  obtain ⟨c1, c2, c3, c4⟩ := zCopy hLx (k := 1) (q := 0) (by decide) (by decide)
  have gy : zPv L1 kd1 V rv x (F_X1_copy (V.1 1) (V.1 0) x) := zPv.copy hLx (by decide)
  obtain ⟨y, hy⟩ : ∃ y, y = F_X1_copy (V.1 1) (V.1 0) x := ⟨_, rfl⟩
  rw [← hy] at c1 c2 c3 c4 gy
  have cc : zcc V y.1 1 = zcc V σ1.1 0 := c2.trans (gx.cc hL (by decide) (by decide))
  obtain ⟨s0, hs0⟩ : ∃ s0 : zS, s0 = (zu y.1 (V.2.1 1) C i, y.2.1, y.2.2) := ⟨_, rfl⟩
  have sn : ∀ a, a ≠ V.2.1 1 → s0.1 a = y.1 a := fun a ha => by
    rw [hs0]
    exact zu_n _ _ _ ha
  have sr : s0.2.2 = y.2.2 := by rw [hs0]
  have yr : y.2.2 = x.2.2 := by rw [c1]
  have gr : ∀ a j, ¬ (a = rv ∧ (j = 5 ∨ j = 6)) → s0.2.2 a j = σ1.2.2 a j := fun a j n => by
    rw [sr, yr]
    exact gx.1 a j n
  have he : ∀ c kc, zT L1 kd1 c kc → (kc = 9 ∨ (46 ≤ kc ∧ kc ≤ 51)) → s0.1 c = σ1.1 c := fun c kc hc hk => by
    rw [sn c (zNk hc tI (by omega)), c4 c (by
      rintro (e | e | e | e)
      · exact zNk hc tA (by omega) e
      · exact zNk hc tI (by omega) e
      · exact zNk hc tW (by omega) e
      · exact zNk hc tM (by omega) e)]
    exact hes c kc hc hk
  have eI : ∀ j, j < 12 → y.1 (V.2.1 1) j = σ1.1 (V.2.1 0) j := fun j hj => by
    have e := congrArg (fun c : zCo => c.1 j) cc
    have e1 : (zcc V y.1 1).1 j = y.1 (V.2.1 1) j := if_pos hj
    have e2 : (zcc V σ1.1 0).1 j = σ1.1 (V.2.1 0) j := if_pos hj
    rw [← e1, ← e2]
    exact e
  have eW : ∀ j, j < 12 → y.1 (V.2.2.1 1) j = σ1.1 (V.2.2.1 0) j := fun j hj => by
    have e := congrArg (fun c : zCo => c.2.1 j) cc
    have e1 : (zcc V y.1 1).2.1 j = y.1 (V.2.2.1 1) j := if_pos hj
    have e2 : (zcc V σ1.1 0).2.1 j = σ1.1 (V.2.2.1 0) j := if_pos hj
    rw [← e1, ← e2]
    exact e
  have eM : ∀ j, j < 12 → y.1 (V.2.2.2 1) j = σ1.1 (V.2.2.2 0) j := fun j hj => by
    have e := congrArg (fun c : zCo => c.2.2.1 j) cc
    have e1 : (zcc V y.1 1).2.2.1 j = y.1 (V.2.2.2 1) j := if_pos hj
    have e2 : (zcc V σ1.1 0).2.2.1 j = σ1.1 (V.2.2.2 0) j := if_pos hj
    rw [← e1, ← e2]
    exact e
  have e3 : y.1 (V.1 1) 3 = σ1.1 (V.1 0) 3 := congrArg (fun c : zCo => c.2.2.2.1) cc
  have e4 : y.1 (V.1 1) 4 = σ1.1 (V.1 0) 4 := congrArg (fun c : zCo => c.2.2.2.2.1) cc
  have e5 : y.1 (V.1 1) 5 = σ1.1 (V.1 0) 5 := congrArg (fun c : zCo => c.2.2.2.2.2) cc
  have nA : V.1 1 ≠ V.2.1 1 := zNk tA tI (by decide)
  have nW : V.2.2.1 1 ≠ V.2.1 1 := zNk tW tI (by decide)
  have nM : V.2.2.2 1 ≠ V.2.1 1 := zNk tM tI (by decide)
  have hcI : ∀ e, 1 ≤ e → e < N → s0.1 (V.2.1 1) e = updR (σ2.1 (mR σ2 m0 48)) C i e := fun e e1 e2 => by
    rw [hs0]
    show zu y.1 (V.2.1 1) C i (V.2.1 1) e = if e = C then i else σ2.1 (mR σ2 m0 48) e
    by_cases d : e = C
    · rw [if_pos d, d, zu_s]
    · rw [if_neg d, zu_j _ _ _ _ _ (fun w => d w.symm), eI e (by omega)]
      exact er e e1 e2
  have hcD : s0.1 (V.1 1) 3 = σ1.1 (V.1 0) 3 := by rw [sn _ nA, e3]
  -- the reference
  obtain ⟨C2, C3⟩ := zCopies3 hJ hm R.1
  have hS7 : ([49, 54, 52, 53, 45, 46, 55] : List Nat).all (fun t => zf 0 11 t == some (100 + t)) = true := by rfl
  have r48 : ρ.1 (mR σ2 m0 48) = σ2.1 (mR σ2 m0 48) := zFm.row hJ hm R.2 (s := 48) (by rfl) hS7 (by rfl)
  obtain ⟨t1, ht1⟩ : ∃ t1, t1 = F_X11_copies m0 ρ := ⟨_, rfl⟩
  rw [← ht1] at C2 C3 ⊢
  have f1 := R.2.tr C3
  obtain ⟨ρ', hρ'⟩ : ∃ ρ' : zS, ρ' = (zu t1.1 (mR σ2 m0 49) C i, t1.2.1, t1.2.2) := ⟨_, rfl⟩
  have f2 : zFr (zFm [50, 51, 47] [49, 54, 52, 53, 45, 46, 55] m0 σ2.2.2) σ2 ρ' := by
    rw [hρ']
    exact f1.w (Or.inr ⟨49, by decide, rfl⟩)
  have row : ∀ j, j < 50 → ρ'.1 (mR σ2 m0 49) j = updR (σ2.1 (mR σ2 m0 48)) C i j := fun j hj => by
    rw [hρ']
    show zu t1.1 (mR σ2 m0 49) C i (mR σ2 m0 49) j = if j = C then i else σ2.1 (mR σ2 m0 48) j
    by_cases d : j = C
    · rw [if_pos d, d, zu_s]
    · rw [if_neg d, zu_j _ _ _ _ _ (fun w => d w.symm), C2 j hj, r48]
  rw [← hρ']
  obtain ⟨td2, B, gl, u, l, q, Y, w', t, ⟨hq, hY, hw0, ht0⟩, d2, S, W, m4, m5, FL⟩ := zSd.ofU zGd.q1 (fun _ _ _ h => h) h hw hl hx hI hJ hm hg n2 n1 hr' (fun j j1 j2 => if_neg (by omega)) f2.1 f2 row gr he (k := 1) (by decide) hcI hcD
  obtain rfl : td2 = td := Option.some.inj (d2.symm.trans d1)
  rw [← ht0]
  have q0 : q 0 = rv := by rw [hq]; rfl
  have q4 : q 4 = V.1 1 := by rw [hq]; rfl
  have q20 : q 20 = V.2.2.1 1 := by rw [hq]; rfl
  have q21 : q 21 = V.2.2.2 1 := by rw [hq]; rfl
  obtain ⟨td9, d9, t9⟩ := zi_ref (j := 10) (k2 := 9) hI hx (by rfl)
  obtain rfl : td9 = td2 := Option.some.inj (d9.symm.trans d1)
  have TT : ∀ i, i < 22 → zT L1 kd1 (q i) (qK i) := by
    rw [hq]
    exact qOf.t hL hV t9 (zTt_k hI t9) (k := 1) (by decide)
  have Dn : zDn q Y N w' t := by
    obtain ⟨-, -, N', n, uu, ⟨-, a2, a3, -⟩, Qk, -⟩ := id h
    obtain rfl : N' = N := by omega
    have rc : ∀ j, j < 50 → rC σ2.1 (mR σ2 m0 48) 0 j = σ2.1 (mR σ2 m0 48) j := fun j hj => by rw [rC_i hj, Nat.zero_add]
    have gn := hg.2
    have g49 : zp m0 σ2 48 49 = (σ2.1 (mR σ2 m0 48) 49).toInt := rfl
    have up : ∀ j, 12 ≤ j → j < 50 → t.1 (Y 49) j = σ2.1 (mR σ2 m0 48) j := fun j j1 j2 => by
      rw [m4 j j2]
      exact if_neg (by omega)
    have x4 : w'.1 (q 4) 4 = σ2.1 (mR σ2 m0 48) 48 := by rw [W 4 (by omega), q4, sn _ nA, e4, ← rc 48 (by decide)]; exact Qk.1.2.2.1
    have x5 : w'.1 (q 4) 5 = σ2.1 (mR σ2 m0 48) 49 := by rw [W 4 (by omega), q4, sn _ nA, e5, ← rc 49 (by decide)]; exact Qk.1.2.2.2
    refine ⟨fun p hp => ?_, by rw [x4, up 48 (by decide) (by decide)], by rw [x5, up 49 (by decide) (by decide)], by rw [x5]; omega, by rw [x5]; omega⟩
    obtain ⟨y1, y2, y3, y4⟩ := Qk.2.1 p hp
    rw [rc _ (by omega)] at y1 y2
    have u1 : (zcc V σ1.1 0).2.1 p = σ1.1 (V.2.2.1 0) p := if_pos (by omega)
    have u2 : (zcc V σ1.1 0).2.2.1 p = σ1.1 (V.2.2.2 0) p := if_pos (by omega)
    rw [u1] at y1 y3 y4
    rw [u2] at y2
    rw [W 20 (by omega), W 21 (by omega), q20, q21, sn _ nW, sn _ nM, eW p (by omega), eM p (by omega), up _ (by omega) (by omega), up _ (by omega) (by omega)]
    exact ⟨y1, y2, y3, y4⟩
  have FL := FL Dn
  have L := (S.fall Dn (m := 0) (by decide) zFr.id zFr.id).1
  obtain ⟨F, hF⟩ : ∃ F, F = F_X5_fall (q 0) 0 w' := ⟨_, rfl⟩
  rw [← hF] at FL L
  obtain ⟨xw, za, x1, x2, x3, x4, -⟩ := cWin S.1.1 S.1.2.1 S.1.2.2.1 S.1.2.2.2.1 S.1.2.2.2.2.2.2.2 hk hw3 (F := fun p => F.1 (q 6) p) L (fun p _ => rfl)
  obtain ⟨yw, zb, w1, w2, w3, w4⟩ := mWin S.2.1.1 S.2.1.2.1 S.2.1.2.2.1 S.2.1.2.2.2.1 S.2.1.2.2.2.2.1 S.1.2.2.2.1 S.2.1.2.2.2.2.2.2.2 hk hw3 (F := fun p => t.1 (Y 55) p) zFr.id (fun p _ => rfl)
  have xy : xw.toInt = yw.toInt := by
    rw [x2, w2]
    exact wnEq (S.eq Dn) FL
  have gs0 : zPv L1 kd1 V rv y s0 := ⟨fun a j _ => by rw [sr], fun c hc => sn c (fun e => by
    rw [e] at hc
    exact hc.2.2 (Or.inr (Or.inl rfl)))⟩
  have gxs : zPv L1 kd1 V rv σ1 s0 := (gx.tr gy).tr gs0
  have hVs := hV.keep gxs
  refine ⟨xw, yw, za, zb, ?_, w1, xy, ?_, ⟨?_, fun c kc hc hk => ?_⟩, w4.1.trans m5.1, m5.tr (zFr.up w4 (fun c j z => by
    rcases z with z | z | z
    · exact Or.inr ⟨45, by decide, by rw [hY] at z; exact z⟩
    · exact Or.inr ⟨46, by decide, by rw [hY] at z; exact z⟩
    · exact Or.inl ⟨z.1, by rw [z.2]; decide⟩))⟩
  · have nx : ∀ j, ¬ (x0 = rv ∧ (j = 5 ∨ j = 6)) := fun j z => zNk hx hV.2.1.2.1 (by decide) z.1
    have xx : ∀ j, x.2.2 x0 j = σ1.2.2 x0 j := fun j => gx.1 x0 j (nx j)
    have g7 : (σ1.2.2 x0 7).getD 0 = V.1 1 := by rw [hL.1.2.1]; rfl
    have g6 : (σ1.2.2 x0 6).getD 0 = V.1 0 := by rw [hL.1.1]; rfl
    have g10 : (σ1.2.2 x0 10).getD 0 = td9 := by rw [d1]; rfl
    have gI : (x.2.2 (V.1 1) 0).getD 0 = V.2.1 1 := (hLx.gA (k := 1) (by decide)).1
    have nc : c.toNatClampNeg = C := by rw [ztn, hc]; rfl
    have fx : ∀ j, F.2.2 x0 j = σ1.2.2 x0 j := fun j => by
      rw [L.rf, hw0, (zForm (V := V) hVs td9 (V.1 1)).1.1 x0 j (nx j)]
      exact gxs.1 x0 j (nx j)
    have eF : F_X5_look rv td9 (V.1 1) s0 = F := by
      unfold F_X5_look
      simp only [zlt]
      rw [hF, q0, hw0]
    have sE : (zu y.1 (V.2.1 1) C i, y.2.1, x.2.2) = s0 := by rw [hs0, yr]
    unfold F_X10_winsTurned
    simp only [zlt, zlt2, xx, g7, g6, ← hy, yr, gI, nc, xrv hV, g10, sE, eF, fx]
    rw [q0] at x1
    rw [x1]
    simp only [zlt2]
    by_cases e : xw.toInt = p.toInt
    · rw [if_pos e, if_pos e]
    · rw [if_neg e, if_neg e]
  · intro e
    rcases wn_r (S := sB N u) (C := fun p => clC q w' gl w p (F.1 (q 6) p)) (but := -1) N with zz | ⟨W0, W1, W2, W3, -⟩
    · omega
    · have sW := sB_t.mp W3
      have uC : (t.1 (Y 49) C).toInt = u C := S.2.1.2.2.2.2.2.1 C (by omega) (by omega)
      have iC : t.1 (Y 49) C = i := by
        rw [m4 C (by omega)]
        exact if_pos rfl
      rw [iC] at uC
      have aC : An u W0 C := ⟨1, by
        show (if C = 0 then 0 else u C) = W0
        rw [if_neg (by omega)]
        omega⟩
      have := sW.2.2 C (by omega) aC
      refine z6 ⟨0, ?_⟩
      show i.toInt = c.toInt
      omega
  · have gw := (zForm (V := V) hVs td9 (V.1 1)).1
    rw [← hw0] at gw
    have hVw := hVs.keep gw
    have gF : zPv L1 kd1 V rv w' F := by
      rw [hF, q0]
      exact zPv.fr (zFall (V := V) hVw 0) (fun _ _ q => q)
    exact ((gxs.tr gw).tr gF).tr (zPv.fr x4 (fun c j e => by
      rcases e with e | e | e
      · rw [e]; exact nPc (TT 7 (by decide)) (by decide)
      · rw [e]; exact nPc (TT 8 (by decide)) (by decide)
      · rw [e]; exact nPc (TT 9 (by decide)) (by decide)))
  · have a1 : za.1 c = F.1 c := funext (fun j => x4.2 c j (by
      rintro (e | e | e)
      · exact zNk hc (TT 7 (by decide)) (by rw [show qK 7 = 32 from rfl]; omega) e
      · exact zNk hc (TT 8 (by decide)) (by rw [show qK 8 = 20 from rfl]; omega) e
      · exact zNk hc (TT 9 (by decide)) (by rw [show qK 9 = 21 from rfl]; omega) e))
    have a2 : F.1 c = w'.1 c := funext (fun j => L.2 c j (by
      rintro (e | e | e | e | e)
      · exact zNk hc (TT 5 (by decide)) (by rw [show qK 5 = 30 from rfl]; omega) e
      · exact zNk hc (TT 6 (by decide)) (by rw [show qK 6 = 31 from rfl]; omega) e
      · exact zNk hc (TT 7 (by decide)) (by rw [show qK 7 = 32 from rfl]; omega) e
      · exact zNk hc (TT 8 (by decide)) (by rw [show qK 8 = 20 from rfl]; omega) e
      · exact zNk hc (TT 9 (by decide)) (by rw [show qK 9 = 21 from rfl]; omega) e))
    rw [a1, a2, hw0, formT hVs hc (by omega)]
    exact he c kc hc hk
/-- into all others -/
theorem zRL.turnIn (h : zRL zQw L1 kd1 x0 m0 V ps pc sl rv sh cd σ1 σ2) (hw : 0 < zM m0 σ2 → zLw x0 m0 σ1 σ2) (hl : zLen x0 m0 σ1 σ2) (hx : zT L1 kd1 x0 10) (hI : zI κ 0 L1 kd1 σ1) (hJ : zJ κ L2 kd2 σ2) (hm : zT L2 kd2 m0 11) (hg : gN m0 σ2) (d1 : σ1.2.2 x0 10 = some td) (n2 : zM m0 σ2 = N) (n1 : N ≤ 12) {w : Nat} (hk : k.toInt = w) (hw3 : w < 3) {C : Nat} (hc : c.toInt = C) {kA kB : Int32 → zS → Int32 × zS} (K : ∀ x ρ, zXi L1 kd1 V rv σ1 x → zRj m0 σ2 ρ → (kA (c + (1 : Int32)) x).1.toInt = (kB (c + (1 : Int32)) ρ).1.toInt) : ∀ (n : Nat) (z : Int32) (i : Nat) (x ρ : zS), z.toInt = i → 13 - i < n → zXi L1 kd1 V rv σ1 x → zRj m0 σ2 ρ → (F_X10_turnFor_27 c x0 p k kA n z x).1.toInt = (F_X11_turnFor_24 c m0 p k kB n z ρ).1.toInt := by
  have hL := h.1
  have hV := h.2.1
  have g10 : (σ1.2.2 x0 10).getD 0 = td := by rw [d1]; rfl
  obtain ⟨td9, d9, t9⟩ := zi_ref (j := 10) (k2 := 9) hI hx (by rfl)
  obtain rfl : td9 = td := Option.some.inj (d9.symm.trans d1)
  obtain ⟨hr2, hr1, er⟩ := h.rows zGd.q1 hg n2 n1
  have n0 : (σ1.1 td9 0).toInt = N := by
    obtain ⟨N', -, -, ⟨n3, n4, -⟩, -⟩ := h.2.2
    rw [g10] at n3
    omega
  have e0 : (0 : Int32).toInt = 0 := by decide
  have e1 : ¬ (1 : Int32).toInt = 0 := by decide
  have nx : ∀ j, ¬ (x0 = rv ∧ (j = 5 ∨ j = 6)) := fun j z => zNk hx hV.2.1.2.1 (by decide) z.1
  intro n
  induction n with
  | zero => intro z i x ρ _ h; exact absurd h (by omega)
  | succ n ih =>
    intro z i x ρ hz hn X R
    have xx : ∀ j, x.2.2 x0 j = σ1.2.2 x0 j := fun j => X.1.1 x0 j (nx j)
    have x9 : x.1 td9 = σ1.1 td9 := X.2 td9 9 t9 (by omega)
    have mN : (F_X11_many m0 ρ).toInt = N := by rw [mMany_g hJ hm R.2 (by rfl) (by rfl) (by rfl)]; exact n2
    have Rc := R.cp hJ hm
    have rg : ∀ j, ((F_X11_copies m0 ρ).2.2 m0 j).getD 0 = mR σ2 m0 j := fun j => by rw [Rc.2.rf]
    rw [F_X10_turnFor_27, F_X11_turnFor_24]
    simp only [↓zlt, xx, g10, x9]
    by_cases d : i < N
    · rw [if_pos (show z.toInt < (σ1.1 td9 0).toInt by omega), if_pos (show z.toInt < (F_X11_many m0 ρ).toInt by omega)]
      have z1 := zp1 hz (by omega)
      have go : ∀ x ρ, zXi L1 kd1 V rv σ1 x → zRj m0 σ2 ρ → (F_X10_turnFor_27 c x0 p k kA n (z + (1 : Int32)) x).1.toInt = (F_X11_turnFor_24 c m0 p k kB n (z + (1 : Int32)) ρ).1.toInt := fun x ρ X R => ih _ (i + 1) x ρ z1 (by omega) X R
      by_cases e : c.toInt = p.toInt
      · have eR : F_X11_winsTurned m0 p k c z ρ = (0, F_X11_copies m0 ρ) := by
          unfold F_X11_winsTurned
          simp only [zlt]
          rw [if_pos e]
        rw [if_pos e, eR]
        simp only [↓zlt2]
        rw [if_pos e0]
        exact go _ _ X Rc
      · have hLx := hL.pv hV.2.1.2.1 X.1
        obtain ⟨tI, -⟩ := (hL.2.2.2.1 0 (by decide)).1.2
        have xI : x.1 (V.2.1 0) = σ1.1 (V.2.1 0) := by
          obtain ⟨⟨uA, uI, uW, uM⟩, -⟩ := hL.2.2.2.1 1 (by decide)
          have i1 := hL.2.2.2.2.1 0 1 (by decide) (by decide)
          refine X.1.2 (V.2.1 0) ⟨tI.1, Or.inr (Or.inl tI.2), fun z => ?_⟩
          rcases z with z | z | z | z
          · exact zNk tI uA (by decide) z
          · exact absurd (i1 (Or.inr (Or.inl z))) (by decide)
          · exact zNk tI uW (by decide) z
          · exact zNk tI uM (by decide) z
        obtain ⟨a1, a2⟩ := cTurnOk (p := c) (q := z) hLx (by rw [xx, g10, x9]; exact n0) n1 (by rw [xI]; exact hr1)
        rw [xI, zTu.cg hr2 er] at a2
        obtain ⟨v, hv⟩ : ∃ v, v = (F_X10_isTurn x0 c z x).1 := ⟨_, rfl⟩
        have iT : F_X10_isTurn x0 c z x = (v, x) := Prod.ext hv.symm a1
        rw [← hv] at a2
        have mT := h.mTurnT (c := c) (i := z) hl hx hI hJ hm hg n2 n1 R
        rw [if_neg e, iT]
        simp only [↓zlt2]
        by_cases T : zTu N (σ2.1 (mR σ2 m0 48)) c z
        · rw [if_neg (fun q => a2.mp q T)]
          obtain ⟨xw, yw, za, zb, b1, b2, b3, b4, b5, b6⟩ := h.trnS (p := p) hw hl hx hI hJ hm hg d1 n2 n1 X R hc T hk hw3
          rw [b1]
          simp only [↓zlt2]
          by_cases f : z.toInt = p.toInt
          · have eR : F_X11_winsTurned m0 p k c z ρ = (0, F_X11_copies m0 ρ) := by
              unfold F_X11_winsTurned
              simp only [zlt]
              rw [if_neg e, if_pos f]
            rw [eR]
            simp only [↓zlt2]
            rw [if_neg (show ¬ xw.toInt = p.toInt from fun q => b4 (q.trans f.symm)), if_pos e0, if_pos e0]
            exact go _ _ b5 Rc
          · have nc : c.toNatClampNeg = C := by rw [ztn, hc]; rfl
            have eR : F_X11_winsTurned m0 p k c z ρ = (if xw.toInt = p.toInt then (1 : Int32) else 0, zb) := by
              unfold F_X11_winsTurned
              simp only [zlt, zlt2, rg, nc]
              rw [if_neg e, if_neg f, if_neg (fun q => mT.mp q T), b2]
              simp only [zlt2]
              by_cases g : xw.toInt = p.toInt
              · rw [if_pos g, if_pos (show yw.toInt = p.toInt by omega)]
              · rw [if_neg g, if_neg (show ¬ yw.toInt = p.toInt by omega)]
            rw [eR]
            simp only [↓zlt2]
            by_cases g : xw.toInt = p.toInt
            · rw [if_pos g, if_neg e1, if_neg e1]
            · rw [if_neg g, if_pos e0, if_pos e0]
              exact go _ _ b5 b6
        · have eR : F_X11_winsTurned m0 p k c z ρ = (0, F_X11_copies m0 ρ) := by
            unfold F_X11_winsTurned
            simp only [zlt]
            rw [if_neg e]
            by_cases f : z.toInt = p.toInt
            · rw [if_pos f]
            · rw [if_neg f, if_pos (mT.mpr T)]
          rw [if_pos (a2.mpr T), eR]
          simp only [↓zlt2]
          rw [if_pos e0]
          exact go _ _ X Rc
    · rw [if_neg (show ¬ z.toInt < (σ1.1 td9 0).toInt by omega), if_neg (show ¬ z.toInt < (F_X11_many m0 ρ).toInt by omega)]
      exact K _ _ X R
theorem zRL.turnOut (h : zRL zQw L1 kd1 x0 m0 V ps pc sl rv sh cd σ1 σ2) (hw : 0 < zM m0 σ2 → zLw x0 m0 σ1 σ2) (hl : zLen x0 m0 σ1 σ2) (hx : zT L1 kd1 x0 10) (hI : zI κ 0 L1 kd1 σ1) (hJ : zJ κ L2 kd2 σ2) (hm : zT L2 kd2 m0 11) (hg : gN m0 σ2) (d1 : σ1.2.2 x0 10 = some td) (n2 : zM m0 σ2 = N) (n1 : N ≤ 12) {w : Nat} (hk : k.toInt = w) (hw3 : w < 3) : ∀ (n : Nat) (z : Int32) (i : Nat) (x ρ : zS), z.toInt = i → 13 - i < n → zXi L1 kd1 V rv σ1 x → zRj m0 σ2 ρ → (F_X10_turnFor_13 x0 p k n z x).1.toInt = (F_X11_turnFor_13 m0 p k n z ρ).1.toInt := by
  have hV := h.2.1
  have g10 : (σ1.2.2 x0 10).getD 0 = td := by rw [d1]; rfl
  obtain ⟨td9, d9, t9⟩ := zi_ref (j := 10) (k2 := 9) hI hx (by rfl)
  obtain rfl : td9 = td := Option.some.inj (d9.symm.trans d1)
  have n0 : (σ1.1 td9 0).toInt = N := by
    obtain ⟨N', -, -, ⟨n3, n4, -⟩, -⟩ := h.2.2
    rw [g10] at n3
    omega
  have nx : ∀ j, ¬ (x0 = rv ∧ (j = 5 ∨ j = 6)) := fun j z => zNk hx hV.2.1.2.1 (by decide) z.1
  intro n
  induction n with
  | zero => intro z i x ρ _ h; exact absurd h (by omega)
  | succ n ih =>
    intro z i x ρ hz hn X R
    have xx : ∀ j, x.2.2 x0 j = σ1.2.2 x0 j := fun j => X.1.1 x0 j (nx j)
    have x9 : x.1 td9 = σ1.1 td9 := X.2 td9 9 t9 (by omega)
    have mN : (F_X11_many m0 ρ).toInt = N := by rw [mMany_g hJ hm R.2 (by rfl) (by rfl) (by rfl)]; exact n2
    rw [F_X10_turnFor_13, F_X11_turnFor_13]
    simp only [↓zlt, xx, g10, x9]
    by_cases d : i < N
    · rw [if_pos (show z.toInt < (σ1.1 td9 0).toInt by omega), if_pos (show z.toInt < (F_X11_many m0 ρ).toInt by omega)]
      exact h.turnIn hw hl hx hI hJ hm hg d1 n2 n1 hk hw3 hz (fun x ρ X R => ih _ (i + 1) x ρ (zp1 hz (by omega)) (by omega) X R) 10000 0 0 x ρ (by decide) (by omega) X R
    · rw [if_neg (show ¬ z.toInt < (σ1.1 td9 0).toInt by omega), if_neg (show ¬ z.toInt < (F_X11_many m0 ρ).toInt by omega)]
theorem zRL.turnFor (h : zRL zQw L1 kd1 x0 m0 V ps pc sl rv sh cd σ1 σ2) (hw : 0 < zM m0 σ2 → zLw x0 m0 σ1 σ2) (hl : zLen x0 m0 σ1 σ2) (hx : zT L1 kd1 x0 10) (hI : zI κ 0 L1 kd1 σ1) (hJ : zJ κ L2 kd2 σ2) (hm : zT L2 kd2 m0 11) (hg : gN m0 σ2) (f1 : (v1, τ1) = F_X10_turnFor x0 p k σ1) (f2 : (v2, τ2) = F_X11_turnFor m0 p k σ2) : v1.toInt = v2.toInt := by
  obtain ⟨td, B, N, gl, u, l, q, Y, d1, n2, eL, xr, ⟨hq, hY⟩, ⟨S, Dn, FL, RN⟩, -, -⟩ := h.now hw hl hx hI hJ hm hg
  have q1 : q 1 = sh := by rw [hq]; rfl
  obtain ⟨w1, e1, i1⟩ := cCt (p := p) (k := k) h.2.1 h.1 d1 eL xr q1 S
  obtain ⟨w2, e2, i2⟩ := mCt (p := p) (k := k) S
  have n1 := S.1.2.2.2.1
  unfold F_X10_turnFor at f1
  unfold F_X11_turnFor at f2
  simp only [zlt, zlt2, e1, e2] at f1 f2
  by_cases c : (0 ≤ k.toInt ∧ k.toInt ≤ 2) ∧ 0 ≤ p.toInt ∧ Src N u p.toInt.toNat
  · rw [if_neg (fun z => i1.mp z c)] at f1
    rw [if_neg (fun z => i2.mp z c)] at f2
    obtain ⟨w, hk⟩ : ∃ w : Nat, k.toInt = w := ⟨k.toInt.toNat, by omega⟩
    have R0 : zRj m0 σ2 σ2 := ⟨rfl, zFr.id⟩
    have T := h.turnOut (p := p) hw hl hx hI hJ hm hg d1 n2 n1 hk (by omega) 10000 1 1 (F_X10_look x0 σ1) (F_X11_copies m0 σ2) (by decide) (by omega) ⟨zLookN h.1 h.2.1, h.lookE hl hx hI hJ hm hg⟩ (R0.cp hJ hm)
    rw [show v1 = _ from congrArg Prod.fst f1, show v2 = _ from congrArg Prod.fst f2]
    exact T
  · rw [if_pos (i1.mpr c)] at f1
    rw [if_pos (i2.mpr c)] at f2
    rw [(zPr2 f1).1, (zPr2 f2).1]
theorem zRP.turnFor (h : zRP κ L1 kd1 L2 kd2 x0 m0 σ1 σ2) (hI : zI κ 0 L1 kd1 σ1) (hJ : zJ κ L2 kd2 σ2) (hx : zT L1 kd1 x0 10) (hm : zT L2 kd2 m0 11) (hg : gN m0 σ2) (f1 : (v1, τ1) = F_X10_turnFor x0 p k σ1) (f2 : (v2, τ2) = F_X11_turnFor m0 p k σ2) : v1.toInt = v2.toInt := by
  obtain ⟨V, ps, pc, sl, rv, sh, cd, hR⟩ := h.2.2
  exact hR.turnFor h.2.1 h.1.2 hx hI hJ hm hg f1 f2
end TURNFOR
