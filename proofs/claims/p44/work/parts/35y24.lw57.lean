/-! DAMS TRIED, who wins then: damFor -/
section DAMT
variable {q Y : Nat → Nat} {a b N : Nat} {s1 s t τ : zS} {g : zGl} {u l : Nat → Nat} {mask D : Int32}
theorem damEq (S : zSd q Y a b N g u l s1 s) (Dn : zDn q Y N s1 s) (f : zFr (zD4 Y) s τ) (hv : ∀ c, 1 ≤ c → c < N → τ.1 (Y 49) (12 + c) = if bt mask c = true then 1 else s.1 (Y 49) (12 + c)) (hD : ∀ c, 1 ≤ c → c < N → bt D c = (bt (s1.1 (q 4) 3) c || bt mask c)) : zEq q Y b N D s1 τ := by
  have E := S.eq Dn
  have b1 := S.2.1.1
  have hN := S.1.2.2.2.1
  refine ⟨fun p f' hp => ?_, fun c c1 c2 => ?_⟩
  · rw [E.1 p f' hp, fMt.d4 b1 f (by omega)]
  · have k := E.2 c c1 c2
    rw [dmC_b (by omega)] at k
    rw [dmC_b (by omega), hD c c1 c2, k]
    unfold dmM
    rw [hv c c1 c2]
    by_cases m : bt mask c = true
    · rw [m, if_pos rfl, Bool.or_true]
      decide
    · rw [if_neg m, show bt mask c = false by simpa using m, Bool.or_false]
theorem zD4.is (h : zYm Y a s.2.2) (f : zFr (zD4 Y) s t) {x : Int32} : F_X11_isSource a x t = F_X11_isSource a x s := by
  have g54 := (h.1 54 (by unfold zYj; omega)).1
  have x54 : t.1 (Y 54) = s.1 (Y 54) := zD4.r h f (by unfold zYj; omega) (by decide)
  unfold F_X11_isSource F_X11_isBeside
  simp only [zlt, f.rf, g54, x54, zD4.m h f]
end DAMT
section DAMFOR
variable {κ : Int} {L1 : List Nat} {kd1 : Nat → Nat} {L2 : List Nat} {kd2 : Nat → Nat} {σ1 σ2 τ1 τ2 s t x ρ : zS} {m0 x0 : Nat} {V : zWh} {ps pc sl rv sh cd td N : Nat} {v1 v2 p r k mask D : Int32} {q Y : Nat → Nat}
/-- what the river writes when dams are tried -/
def zQ6 (q : Nat → Nat) : Nat → Nat → Prop := fun c _ => c = q 6 ∨ c = q 7 ∨ c = q 8 ∨ c = q 9
theorem zQ6.up (f : zFr (zQ6 q) s t) : zFr (zRw q) s t := zFr.up f (fun _ _ z => Or.inr z)
/-- the flows and the winners with dams tried, alike -/
theorem zRL.damS (h : zRL zQw L1 kd1 x0 m0 V ps pc sl rv sh cd σ1 σ2) (hw : 0 < zM m0 σ2 → zLw x0 m0 σ1 σ2) (hl : zLen x0 m0 σ1 σ2) (hx : zT L1 kd1 x0 10) (hI : zI κ 0 L1 kd1 σ1) (hJ : zJ κ L2 kd2 σ2) (hm : zT L2 kd2 m0 11) (hg : gN m0 σ2) (d1 : σ1.2.2 x0 10 = some td) (n2 : zM m0 σ2 = N) (hq : q = qOf σ1.2.2 rv sh cd td V 0) (hY : Y = mR σ2 m0) (eL : F_X5_look rv td (V.1 0) σ1 = F_X10_look x0 σ1) (fx : zFr (zQ6 q) (F_X10_look x0 σ1) x) (r1 : ρ.2 = σ2.2) (r2 : zFr (zFm [50, 51, 47] [49, 54, 52, 53, 45, 46, 55] m0 σ2.2.2) σ2 ρ) (hD : ∀ c, 1 ≤ c → c < N → bt D c = (bt ((F_X10_look x0 σ1).1 (V.1 0) 3) c || bt mask c)) {w : Nat} (hk : k.toInt = w) (hw3 : w < 3) : (∀ p, p < N → (F_X5_run rv D x).1 (q 6) p = (F_X11_damsAll m0 mask ρ).1 (Y 55) p) ∧ zFr (zQ6 q) (F_X10_look x0 σ1) (F_X5_run rv D x) ∧ ((F_X11_damsAll m0 mask ρ).2 = σ2.2 ∧ zFr (zFm [50, 51, 47] [49, 54, 52, 53, 45, 46, 55] m0 σ2.2.2) σ2 (F_X11_damsAll m0 mask ρ)) ∧ ∃ xw yw za zb, F_X5_winnerBy rv k (F_X5_run rv D x) = (xw, za) ∧ F_X11_winnerBy m0 k (F_X11_damsAll m0 mask ρ) = (yw, zb) ∧ xw.toInt = yw.toInt ∧ zFr (zQ6 q) (F_X10_look x0 σ1) za ∧ zb.2 = σ2.2 ∧ zFr (zFm [50, 51, 47] [49, 54, 52, 53, 45, 46, 55] m0 σ2.2.2) σ2 zb := by
  have q0 : q 0 = rv := by rw [hq]; rfl
  have q4 : q 4 = V.1 0 := by rw [hq]; rfl
  have lookF : F_X10_look x0 σ1 = F_X5_fall rv 0 (F_X5_form rv td (V.1 0) σ1) := by
    rw [← eL]
    unfold F_X5_look
    simp only [zlt]
  obtain ⟨td2, B, N2, gl, u, l, d2, n2', -, M⟩ := zSd.ofM zGd.q1 (fun _ _ _ h => h) h hw hl hx hI hJ hm hg r1 r2 (s0 := σ1) (fun _ _ _ => rfl) (fun _ _ _ _ => rfl) (k := 0) (by decide) rfl
  obtain rfl : td2 = td := Option.some.inj (d2.symm.trans d1)
  obtain rfl : N2 = N := by omega
  have LK0 := M.look
  have LK : zNw q Y m0 B N2 gl u l (F_X10_look x0 σ1) (F_X11_copies m0 ρ) := by
    rw [lookF, hq, hY]
    exact LK0
  clear LK0 M
  obtain ⟨S2, D2, F2, R2⟩ := LK
  obtain ⟨s, hs⟩ : ∃ s, s = F_X10_look x0 σ1 := ⟨_, rfl⟩
  rw [← hs] at S2 D2 F2 R2 fx hD ⊢
  obtain ⟨t1, ht1⟩ : ∃ t1, t1 = F_X11_copies m0 ρ := ⟨_, rfl⟩
  rw [← ht1] at S2 D2 F2
  have hN12 := S2.1.2.2.2.1
  have hQ := S2.1.1
  have fx' := zQ6.up fx
  have n6 : ∀ {i j : Nat}, i < 22 → i < 6 ∨ 9 < i → ¬ zQ6 q (q i) j := fun hi hn => by
    rintro (z | z | z | z)
    · exact hQ.n hi (by decide) (by omega) z
    · exact hQ.n hi (by decide) (by omega) z
    · exact hQ.n hi (by decide) (by omega) z
    · exact hQ.n hi (by decide) (by omega) z
  have Sx := S2.fr (zRw.up fx') zFr.id
  have Dx := D2.up1 hQ fx'
  have Rx : ∀ p, p < N2 → x.1 (q 5) p = rCl q x gl 0 p := fun p hp => by
    rw [fx.2 (q 5) p (n6 (by decide) (by omega)), R2 p hp]
    unfold rCl vCl
    rw [show fCt q x (pI p) 0 = fCt q s (pI p) 0 from fCt.cg (fun i hi => zRw.r hQ fx' (by omega) (by omega))]
  obtain ⟨τ, e1, e2, e3⟩ := mDams (mask := mask) Sx 10000 1 1 t1 (by decide) (by omega) (by omega) zFr.id (fun c c1 c2 => by rw [if_neg (by omega)])
  have eA : F_X11_damsAll m0 mask ρ = F_X11_fillsFlows m0 0 τ := by
    unfold F_X11_damsAll
    simp only [zlt]
    rw [← ht1]
    exact e1
  have hD' : ∀ c, 1 ≤ c → c < N2 → bt D c = (bt (x.1 (q 4) 3) c || bt mask c) := fun c c1 c2 => by rw [hD c c1 c2, fx.2 (q 4) 3 (n6 (by decide) (by omega)), q4]
  have DF := damFlow Sx Dx Rx (D := D) e2 e3 hD'
  have E' := damEq Sx Dx e2 e3 hD'
  obtain ⟨y, hy⟩ : ∃ y, y = F_X5_run rv D x := ⟨_, rfl⟩
  obtain ⟨t, ht⟩ : ∃ t, t = F_X11_fillsFlows m0 0 τ := ⟨_, rfl⟩
  obtain ⟨y1, y2, -, -⟩ := cRun (D := D) Sx.1.1 Sx.1.2.1 Sx.1.2.2.1 hN12 Sx.1.2.2.2.2.1 Sx.1.2.2.2.2.2.1 Sx.1.2.2.2.2.2.2.1 zFr.id Rx (fun p _ => rCl_b (by decide))
  rw [q0, ← hy] at y1 y2
  rw [q0, ← hy, ← ht] at DF
  rw [eA, ← hy, ← ht]
  have fy : zFr (zQ6 q) s y := fx.tr (zFr.up y2 (fun c j z => by
    rcases z with z | z | z
    · exact Or.inl z
    · exact Or.inr (Or.inr (Or.inl z))
    · exact Or.inr (Or.inr (Or.inr z))))
  -- the reference
  have hYτ : zYm Y m0 τ.2.2 := by rw [e2.rf]; exact Sx.2.1.1
  have ge := fun j (hj : zYj j) => (hYτ.1 j hj).1
  have ft : zFr (zVw Y m0) τ t := by
    rw [ht]
    exact fr_X11_fillsFlows zFr.id (fun _ => Or.inr (Or.inl (ge 45 (by unfold zYj; omega)))) (Or.inr (Or.inr (Or.inr ⟨rfl, rfl⟩))) (fun _ => Or.inr (Or.inr (Or.inl (ge 46 (by unfold zYj; omega))))) (fun _ => Or.inl (ge 55 (by unfold zYj; omega)))
  have fA : zFr (zFm [50, 51, 47] [49, 54, 52, 53, 45, 46, 55] m0 ρ.2.2) ρ (F_X11_damsAll m0 mask ρ) := fr_X11_damsAll zFr.id (zFm.s rfl) (zFm.f rfl) (zFm.f rfl) (zFm.s rfl) (zFm.s rfl) (zFm.s rfl) (zFm.s rfl) (zFm.f rfl) (zFm.s rfl) (zFm.s rfl)
  have ρr : ρ.2.2 = σ2.2.2 := by rw [r1]
  rw [eA, ← ht, ρr] at fA
  have t2 : t.2 = σ2.2 := fA.1.trans r1
  have fT := r2.tr fA
  refine ⟨DF, fy, ⟨t2, fT⟩, ?_⟩
  obtain ⟨xw, za, x1, x2, -, x4, -⟩ := cWin Sx.1.1 Sx.1.2.1 Sx.1.2.2.1 hN12 Sx.1.2.2.2.2.2.2.2 hk hw3 (F := fun p => y.1 (q 6) p) y1 (fun p _ => rfl)
  obtain ⟨yw, zb, w1, w2, -, w4⟩ := mWin hYτ (by rw [zD4.fl Sx.2.1.1 e2]; exact Sx.2.1.2.1) Sx.2.1.2.2.1 (fun hN => (Sx.2.1.2.2.2.1 hN).cg (fun j hj => zD4.r Sx.2.1.1 e2 (by unfold zYj; omega) (by omega))) (by rw [zD4.m Sx.2.1.1 e2]; exact Sx.2.1.2.2.2.2.1) hN12 (fun z => by rw [zD4.is Sx.2.1.1 e2]; exact Sx.2.1.2.2.2.2.2.2.2 z) hk hw3 (F := fun p => t.1 (Y 55) p) ft (fun p _ => rfl)
  refine ⟨xw, yw, za, zb, by rw [← q0]; exact x1, w1, ?_, fy.tr (zFr.up x4 (fun c j z => by
    rcases z with z | z | z
    · exact Or.inr (Or.inl z)
    · exact Or.inr (Or.inr (Or.inl z))
    · exact Or.inr (Or.inr (Or.inr z)))), w4.1.trans t2, fT.tr (zFr.up w4 (fun c j z => by
    rcases z with z | z | z
    · exact Or.inr ⟨45, by decide, by rw [hY] at z; exact z⟩
    · exact Or.inr ⟨46, by decide, by rw [hY] at z; exact z⟩
    · exact Or.inl ⟨z.1, by rw [z.2]; decide⟩))⟩
  rw [x2, w2]
  exact wnEq E' DF
/-- dammed now, on both sides -/
theorem zRL.damN (h : zRL zQw L1 kd1 x0 m0 V ps pc sl rv sh cd σ1 σ2) {P : Nat} (h1 : 1 ≤ P) (h2 : (P : Int) < zM m0 σ2) : (bt (σ1.1 (V.1 0) 3) P = true ∧ σ2.1 (mR σ2 m0 48) (12 + P) = 1) ∨ (bt (σ1.1 (V.1 0) 3) P = false ∧ σ2.1 (mR σ2 m0 48) (12 + P) = 0) := by
  obtain ⟨-, -, N, n, uu, ⟨-, a2, a3, -⟩, hq, -⟩ := id h
  have k := hq.1.2.1 P h1 (by omega)
  rw [rC_i (by omega), Nat.zero_add] at k
  exact k
theorem zRL.lookD (h : zRL zQw L1 kd1 x0 m0 V ps pc sl rv sh cd σ1 σ2) : (F_X10_look x0 σ1).1 (V.1 0) 3 = σ1.1 (V.1 0) 3 := by
  have hL := h.1
  obtain ⟨⟨tA, -⟩, -⟩ := hL.2.2.2.1 0 (by decide)
  obtain ⟨⟨uA, uI, uW, uM⟩, -⟩ := hL.2.2.2.1 1 (by decide)
  have i1 := hL.2.2.2.2.1 0 1 (by decide) (by decide)
  refine congrFun ((zLookN hL h.2.1).2 (V.1 0) ⟨tA.1, Or.inl tA.2, fun z => ?_⟩) 3
  rcases z with z | z | z | z
  · exact absurd (i1 (Or.inl z)) (by decide)
  · exact zNk tA uI (by decide) z
  · exact zNk tA uW (by decide) z
  · exact zNk tA uM (by decide) z
theorem zRL.damForL (h : zRL zQw L1 kd1 x0 m0 V ps pc sl rv sh cd σ1 σ2) (hw : 0 < zM m0 σ2 → zLw x0 m0 σ1 σ2) (hl : zLen x0 m0 σ1 σ2) (hx : zT L1 kd1 x0 10) (hI : zI κ 0 L1 kd1 σ1) (hJ : zJ κ L2 kd2 σ2) (hm : zT L2 kd2 m0 11) (hg : gN m0 σ2) (d1 : σ1.2.2 x0 10 = some td) (n2 : zM m0 σ2 = N) (hN12 : N ≤ 12) (hq : q = qOf σ1.2.2 rv sh cd td V 0) (hY : Y = mR σ2 m0) (eL : F_X5_look rv td (V.1 0) σ1 = F_X10_look x0 σ1) (xr : ∀ j, (F_X10_look x0 σ1).2.2 x0 j = σ1.2.2 x0 j) (n0 : ((F_X10_look x0 σ1).1 td 0).toInt = N) (ntd : ∀ j, ¬ zQ6 q td j) (nA : ∀ j, ¬ zQ6 q (V.1 0) j) {w : Nat} (hk : k.toInt = w) (hw3 : w < 3) : ∀ (n : Nat) (z : Int32) (i : Nat) (x ρ : zS), z.toInt = i → 1 ≤ i → 13 - i < n → zFr (zQ6 q) (F_X10_look x0 σ1) x → ρ.2 = σ2.2 → zFr (zFm [50, 51, 47] [49, 54, 52, 53, 45, 46, 55] m0 σ2.2.2) σ2 ρ → (F_X10_damFor_13 x0 p k n z x).1.toInt = (F_X11_damFor_13 m0 p k n z ρ).1.toInt := by
  have hL := h.1
  have hV := h.2.1
  have g10 : (σ1.2.2 x0 10).getD 0 = td := by rw [d1]; rfl
  have g6 : (σ1.2.2 x0 6).getD 0 = V.1 0 := by rw [hL.1.1]; rfl
  have hS7 : ([49, 54, 52, 53, 45, 46, 55] : List Nat).all (fun t => zf 0 11 t == some (100 + t)) = true := by rfl
  have e12 : (12 : Int32).toInt = 12 := by decide
  have o1 : (1 : Int32).toInt = 1 := by decide
  have o0 : (0 : Int32).toInt = 0 := by decide
  have em : ∀ z : Int32, (1 : Int32) <<< (z &&& 31) = F_X10_bit z := fun z => by
    unfold F_X10_bit
    simp only [zlt]
  intro n
  induction n with
  | zero => intro z i x ρ _ _ h; exact absurd h (by omega)
  | succ n ih =>
    intro z i x ρ hz hi hn fx r1 r2
    have xx : ∀ j, x.2.2 x0 j = σ1.2.2 x0 j := fun j => by rw [fx.rf]; exact xr j
    have n0' : (x.1 td 0).toInt = N := by rw [fx.2 td 0 (ntd 0)]; exact n0
    have xD : x.1 (V.1 0) 3 = σ1.1 (V.1 0) 3 := by rw [fx.2 (V.1 0) 3 (nA 3), h.lookD]
    have mN : (F_X11_many m0 ρ).toInt = N := by rw [mMany_g hJ hm r2 (by rfl) (by rfl) (by rfl)]; exact n2
    have r48 : ρ.1 (mR σ2 m0 48) = σ2.1 (mR σ2 m0 48) := zFm.row hJ hm r2 (s := 48) (by rfl) hS7 (by rfl)
    have ρr : ∀ j, (ρ.2.2 m0 j).getD 0 = mR σ2 m0 j := fun j => by rw [show ρ.2.2 = σ2.2.2 by rw [r1]]
    rw [F_X10_damFor_13, F_X11_damFor_13]
    simp only [↓zlt, ↓zlt2, xx, g10, g6, xD, ρr, r48, o1, em, xrv hV]
    by_cases d : i < N
    · rw [if_pos (show z.toInt < (x.1 td 0).toInt by omega), if_pos (show z.toInt < (F_X11_many m0 ρ).toInt by omega)]
      have z1 := zp1 hz (by omega)
      have ix := ixN (m := 12) (p := z) (M := 12) (P := i) e12 (by decide) hz (by omega)
      rw [ix]
      have hs := cHas (x := σ1.1 (V.1 0) 3) hz (by omega)
      rcases h.damN hi (by omega) with ⟨b1, b2⟩ | ⟨b1, b2⟩
      · rw [if_pos b1] at hs
        rw [if_neg (show ¬ (F_X10_has (σ1.1 (V.1 0) 3) z).toInt = 0 by omega), b2, if_pos (show (1 : Int32).toInt = 1 by decide)]
        exact ih _ (i + 1) x ρ z1 (by omega) (by omega) fx r1 r2
      · rw [if_neg (by rw [b1]; decide)] at hs
        rw [if_pos hs, b2, if_neg (show ¬ (0 : Int32).toInt = 1 by decide)]
        obtain ⟨-, fy, ⟨t1, t2⟩, xw, yw, za, zb, w1, w2, w3, w4, w5, w6⟩ := h.damS hw hl hx hI hJ hm hg d1 n2 hq hY eL fx r1 r2 (mask := F_X10_bit z) (D := σ1.1 (V.1 0) 3 ||| F_X10_bit z) (fun c c1 c2 => by rw [b_or, h.lookD]) hk hw3
        have yx : ∀ j, (F_X5_run rv (σ1.1 (V.1 0) 3 ||| F_X10_bit z) x).2.2 x0 j = σ1.2.2 x0 j := fun j => by rw [fy.rf]; exact xr j
        simp only [yx, xrv hV, w1, w2]
        by_cases e : xw.toInt = p.toInt
        · rw [if_pos e, if_pos (w3.symm.trans e)]
        · rw [if_neg e, if_neg (fun q => e (w3.trans q))]
          exact ih _ (i + 1) za zb z1 (by omega) (by omega) w4 w5 w6
    · rw [if_neg (show ¬ z.toInt < (x.1 td 0).toInt by omega), if_neg (show ¬ z.toInt < (F_X11_many m0 ρ).toInt by omega)]
theorem zRL.damFor (h : zRL zQw L1 kd1 x0 m0 V ps pc sl rv sh cd σ1 σ2) (hw : 0 < zM m0 σ2 → zLw x0 m0 σ1 σ2) (hl : zLen x0 m0 σ1 σ2) (hx : zT L1 kd1 x0 10) (hI : zI κ 0 L1 kd1 σ1) (hJ : zJ κ L2 kd2 σ2) (hm : zT L2 kd2 m0 11) (hg : gN m0 σ2) (f1 : (v1, τ1) = F_X10_damFor x0 p k σ1) (f2 : (v2, τ2) = F_X11_damFor m0 p k σ2) : v1.toInt = v2.toInt := by
  obtain ⟨td, B, N, gl, u, l, q, Y, d1, n2, eL, xr, ⟨hq, hY⟩, ⟨S, Dn, FL, RN⟩, -, -⟩ := h.now hw hl hx hI hJ hm hg
  have hL := h.1
  have hV := h.2.1
  have q1 : q 1 = sh := by rw [hq]; rfl
  have q3 : q 3 = td := by rw [hq]; rfl
  have q4 : q 4 = V.1 0 := by rw [hq]; rfl
  obtain ⟨w1, e1, i1⟩ := cCt (p := p) (k := k) h.2.1 h.1 d1 eL xr q1 S
  obtain ⟨w2, e2, i2⟩ := mCt (p := p) (k := k) S
  have g10 : (σ1.2.2 x0 10).getD 0 = td := by rw [d1]; rfl
  obtain ⟨td9, d9, t9⟩ := zi_ref (j := 10) (k2 := 9) hI hx (by rfl)
  obtain rfl : td9 = td := Option.some.inj (d9.symm.trans d1)
  obtain ⟨N', -, -, ⟨n3, n4, n5, -⟩, -⟩ := h.2.2
  rw [g10] at n3
  have n0 : ((F_X10_look x0 σ1).1 td9 0).toInt = N := by
    rw [h.lookE hl hx hI hJ hm hg td9 9 t9 (by omega)]
    omega
  have hQ := S.1.1
  have n6 : ∀ {i j : Nat}, i < 6 → ¬ zQ6 q (q i) j := fun hi => by
    rintro (z | z | z | z)
    · exact hQ.n (by omega) (by decide) (by omega) z
    · exact hQ.n (by omega) (by decide) (by omega) z
    · exact hQ.n (by omega) (by decide) (by omega) z
    · exact hQ.n (by omega) (by decide) (by omega) z
  obtain ⟨cp1, -, cp3⟩ := zCopies2 hJ hm
  unfold F_X10_damFor at f1
  unfold F_X11_damFor at f2
  simp only [zlt, zlt2, e1, e2] at f1 f2
  by_cases c : (0 ≤ k.toInt ∧ k.toInt ≤ 2) ∧ 0 ≤ p.toInt ∧ Src N u p.toInt.toNat
  · rw [if_neg (fun z => i1.mp z c)] at f1
    rw [if_neg (fun z => i2.mp z c)] at f2
    obtain ⟨w, hk⟩ : ∃ w : Nat, k.toInt = w := ⟨k.toInt.toNat, by omega⟩
    have R := h.damForL hw hl hx hI hJ hm hg d1 n2 (by omega) hq hY eL xr n0 (fun j => by rw [← q3]; exact n6 (by decide)) (fun j => by rw [← q4]; exact n6 (by decide)) hk (by omega) (p := p) 10000 1 1 (F_X10_look x0 σ1) (F_X11_copies m0 σ2) (by decide) (by omega) (by omega) zFr.id cp1 cp3
    rw [show v1 = _ from congrArg Prod.fst f1, show v2 = _ from congrArg Prod.fst f2]
    exact R
  · rw [if_pos (i1.mpr c)] at f1
    rw [if_pos (i2.mpr c)] at f2
    rw [(zPr2 f1).1, (zPr2 f2).1]
theorem zRP.damFor (h : zRP κ L1 kd1 L2 kd2 x0 m0 σ1 σ2) (hI : zI κ 0 L1 kd1 σ1) (hJ : zJ κ L2 kd2 σ2) (hx : zT L1 kd1 x0 10) (hm : zT L2 kd2 m0 11) (hg : gN m0 σ2) (f1 : (v1, τ1) = F_X10_damFor x0 p k σ1) (f2 : (v2, τ2) = F_X11_damFor m0 p k σ2) : v1.toInt = v2.toInt := by
  obtain ⟨V, ps, pc, sl, rv, sh, cd, hR⟩ := h.2.2
  exact hR.damFor h.2.1 h.1.2 hx hI hJ hm hg f1 f2
end DAMFOR
