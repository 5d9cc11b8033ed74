/-! A TURN ON BOTH SIDES -/
/-- a turn that can be made -/
def zTu (N : Nat) (r : Nat → Int32) (p q : Int32) : Prop := 1 ≤ p.toInt ∧ p.toInt < N ∧ 0 ≤ q.toInt ∧ q.toInt < N ∧ (r p.toNatClampNeg).toInt ≠ q.toInt ∧ ¬ ∃ k, (pa r k q).toInt = p.toInt
theorem zTu.cg {N : Nat} {r r' : Nat → Int32} {p q : Int32} (hr : zRow N r) (e : ∀ c, 1 ≤ c → c < N → r' c = r c) : zTu N r' p q ↔ zTu N r p q := by
  unfold zTu
  constructor
  · rintro ⟨h1, h2, h3, h4, h5, h6⟩
    rw [e _ (by rw [ztn]; omega) (by rw [ztn]; omega)] at h5
    exact ⟨h1, h2, h3, h4, h5, fun ⟨k, hk⟩ => h6 ⟨k, by rw [pa_cg hr e h3 h4]; exact hk⟩⟩
  · rintro ⟨h1, h2, h3, h4, h5, h6⟩
    rw [← e _ (by rw [ztn]; omega) (by rw [ztn]; omega)] at h5
    exact ⟨h1, h2, h3, h4, h5, fun ⟨k, hk⟩ => h6 ⟨k, by rw [← pa_cg hr e h3 h4]; exact hk⟩⟩
section TURNC
variable {L : List Nat} {kd : Nat → Nat} {x0 N : Nat} {V : zWh} {ps pc sl : Nat} {σ : zS} {p q : Int32}
theorem cTurnOk (hL : zLay L kd x0 σ.2.2 V ps pc sl) (a1 : (σ.1 ((σ.2.2 x0 10).getD 0) 0).toInt = N) (hN : N ≤ 12) (hr : zRow N (σ.1 (V.2.1 0))) : (F_X10_isTurn x0 p q σ).2 = σ ∧ ((F_X10_isTurn x0 p q σ).1.toInt = 0 ↔ ¬ zTu N (σ.1 (V.2.1 0)) p q) := by
  have e0 : (0 : Int32).toInt = 0 := by decide
  have k1 := zN1 a1 hN
  have g6 : (σ.2.2 x0 6).getD 0 = V.1 0 := xnw hL
  obtain ⟨q0, q1, q2⟩ := hL.gA (k := 0) (by decide)
  unfold F_X10_isTurn
  simp only [zlt, zlt2, cPlace, cWithin, e0, k1, g6, q0]
  by_cases c0 : p.toInt = 0
  · rw [if_pos c0]
    exact ⟨rfl, fun _ h => by have := h.1; omega, fun _ => e0⟩
  rw [if_neg c0]
  by_cases c : 0 ≤ p.toInt ∧ p.toInt ≤ (N : Int) - 1
  · rw [if_neg (fun z => z c)]
    by_cases d : 0 ≤ q.toInt ∧ q.toInt ≤ (N : Int) - 1
    · rw [if_neg (fun z => z d)]
      by_cases e : (σ.1 (V.2.1 0) p.toNatClampNeg).toInt = q.toInt
      · rw [if_pos e]
        exact ⟨rfl, fun _ h => h.2.2.2.2.1 e, fun _ => e0⟩
      · rw [if_neg e]
        obtain ⟨m1, m2⟩ := cCom (a := V.1 0) (σ := σ) (p := q) (t := p) (N := N) (by rw [q0]; exact hr) d.1 (by omega) (by omega)
        rw [m1]
        rw [q0] at m2
        by_cases f : (F_X1_comesBy (V.1 0) q p σ).1.toInt = 0
        · rw [if_pos f]
          exact ⟨rfl, fun h => absurd h (by decide : ¬ (1 : Int32).toInt = 0), fun h => absurd ⟨by omega, by omega, d.1, by omega, e, m2.mp f⟩ h⟩
        · rw [if_neg f]
          exact ⟨rfl, fun _ h => f (m2.mpr h.2.2.2.2.2), fun _ => e0⟩
    · rw [if_pos d]
      exact ⟨rfl, fun _ h => d ⟨h.2.2.1, by have := h.2.2.2.1; omega⟩, fun _ => e0⟩
  · rw [if_pos c]
    exact ⟨rfl, fun _ h => c ⟨by have := h.1; omega, by have := h.2.1; omega⟩, fun _ => e0⟩
end TURNC
section TURNM
variable {L : List Nat} {kd : Nat → Nat} {m0 N : Nat} {σ τ : zS} {κ : Int} {p q : Int32}
theorem zCopies3 (hJ : zJ κ L kd σ) (hm : zT L kd m0 11) (h2 : τ.2 = σ.2) : (∀ j, j < 50 → (F_X11_copies m0 τ).1 (mR σ m0 49) j = τ.1 (mR σ m0 48) j) ∧ zFr (zFm [50, 51, 47] [49, 54, 52, 53, 45, 46, 55] m0 σ.2.2) τ (F_X11_copies m0 τ) := by
  have r2 : τ.2.2 = σ.2.2 := by rw [h2]
  have g : zFr (zFm [50, 51, 47] [49, 54, 52, 53, 45, 46, 55] m0 τ.2.2) τ (F_X11_copies m0 τ) := fr_X11_copies zFr.id (zFm.s rfl) (zFm.f rfl) (zFm.f rfl) (zFm.s rfl) (zFm.s rfl) (zFm.s rfl) (zFm.s rfl) (zFm.f rfl) (zFm.s rfl) (zFm.s rfl)
  rw [r2] at g
  refine ⟨fun j hj => ?_, g⟩
  rw [zCopies hJ hm h2]
  have e2 : (zCp m0 σ τ).2.2 = σ.2.2 := rfl
  have g1 : zFr (zFm [47] [54, 52, 53, 45, 46, 55] m0 σ.2.2) (zCp m0 σ τ) (F_X11_fillsWays m0 (zCp m0 σ τ)) := fr_X11_fillsWays zFr.id (by rw [e2]; exact zFm.s rfl) (by rw [e2]; exact zFm.s rfl) (by rw [e2]; exact zFm.s rfl)
  have g2 : zFr (zFm [47] [54, 52, 53, 45, 46, 55] m0 σ.2.2) (zCp m0 σ τ) (F_X11_fillsFlows m0 0 (F_X11_fillsWays m0 (zCp m0 σ τ))) := fr_X11_fillsFlows g1 (by rw [e2]; exact zFm.s rfl) (zFm.f rfl) (by rw [e2]; exact zFm.s rfl) (by rw [e2]; exact zFm.s rfl)
  have rm : mR σ m0 49 ≠ m0 := mR_m hJ hm (s := 49) (k := 149) (by rfl) (by decide)
  rw [g2.2 (mR σ m0 49) j (by
    rintro (⟨e, -⟩ | ⟨t, ht, e⟩)
    · exact rm e
    · have h2 : zf 0 11 t = some (100 + t) ∧ t ≠ 49 := by
        simp only [List.mem_cons, List.not_mem_nil, or_false] at ht
        rcases ht with rfl | rfl | rfl | rfl | rfl | rfl <;> exact ⟨by rfl, by decide⟩
      exact mR_ne hJ hm (s := 49) (s' := t) (k := 149) (by rfl) h2.1 (by omega) e)]
  show zu (zu (zcf τ.1 (mR σ m0 49) (mR σ m0 48) 0 0 0 50) m0 50 _) m0 51 0 (mR σ m0 49) j = _
  rw [zu_n _ _ _ rm, zu_n _ _ _ rm, zcf_i ⟨by omega, by omega⟩]
  exact congrArg _ (by omega)
/-- many, by its field and its row -/
theorem mMany_g {F S : List Nat} (hJ : zJ κ L kd σ) (hm : zT L kd m0 11) (g : zFr (zFm F S m0 σ.2.2) σ τ) (hS : S.all (fun t => zf 0 11 t == some (100 + t)) = true) (h1 : F.contains 18 = false) (h2 : S.contains 21 = false) : (F_X11_many m0 τ).toInt = zM m0 σ := by
  rw [mMany]
  unfold zM zp
  rw [zFm.fld hJ hm g hS (j := 18) h1]
  show (τ.1 ((τ.2.2 m0 21).getD 0) _).toInt = _
  rw [g.rf]
  show (τ.1 (mR σ m0 21) _).toInt = _
  rw [zFm.row hJ hm g (s := 21) (by rfl) hS h2]
/-- the bits behind copies -/
theorem mBits (hJ : zJ κ L kd σ) (hm : zT L kd m0 11) (hM : zM m0 σ = N) (hN : N ≤ 12) (hr : zRow N (σ.1 (mR σ m0 48))) {t j : Nat} (ht : t < N) (hj : j < N) : bt ((F_X11_copies m0 σ).1 (mR σ m0 54) t) j = true ↔ ∃ k, (pa (σ.1 (mR σ m0 48)) k (nI j)).toInt = t := by
  rw [zCopies hJ hm rfl]
  obtain ⟨s, hs⟩ : ∃ s, s = zCp m0 σ σ := ⟨_, rfl⟩
  rw [← hs]
  have rm : mR σ m0 49 ≠ m0 := mR_m hJ hm (s := 49) (k := 149) (by rfl) (by decide)
  have s2 : s.2 = σ.2 := by rw [hs]; rfl
  have rs : s.2.2 = σ.2.2 := by rw [s2]
  have row : ∀ j, j < 50 → s.1 (mR σ m0 49) j = σ.1 (mR σ m0 48) j := fun j hj => by
    rw [hs]
    show zu (zu (zcf σ.1 (mR σ m0 49) (mR σ m0 48) 0 0 0 50) m0 50 _) m0 51 0 (mR σ m0 49) j = _
    rw [zu_n _ _ _ rm, zu_n _ _ _ rm, zcf_i ⟨by omega, by omega⟩]
    exact congrArg _ (by omega)
  have base : zFr (zFm [50, 51] [49] m0 σ.2.2) σ (zcf σ.1 (mR σ m0 49) (mR σ m0 48) 0 0 0 50, σ.2.1, σ.2.2) := ⟨rfl, fun c j n => congrFun (zcf_n (fun z => n (Or.inr ⟨49, by decide, z⟩))) j⟩
  have gs : zFr (zFm [50, 51] [49] m0 σ.2.2) σ s := by
    rw [hs]
    exact (base.w (j := 50) (zFm.f (by rfl))).w (j := 51) (zFm.f (by rfl))
  have hMs : (F_X11_many m0 s).toInt = N := by rw [mMany_g hJ hm gs (by rfl) (by rfl) (by rfl), hM]
  have fl : (F_X11_fillsFlows m0 0 (F_X11_fillsWays m0 s)).1 (mR σ m0 54) t = (F_X11_fillsWays m0 s).1 (mR σ m0 54) t := by
    have rw' : (F_X11_fillsWays m0 s).2.2 = σ.2.2 := by
      have g1 : zFr (zFm [] [54, 52, 53] m0 s.2.2) s (F_X11_fillsWays m0 s) := fr_X11_fillsWays zFr.id (zFm.s rfl) (zFm.s rfl) (zFm.s rfl)
      rw [g1.rf, rs]
    have g2 : zFr (zFm [47] [45, 46, 55] m0 σ.2.2) (F_X11_fillsWays m0 s) (F_X11_fillsFlows m0 0 (F_X11_fillsWays m0 s)) := fr_X11_fillsFlows zFr.id (by rw [rw']; exact zFm.s rfl) (zFm.f rfl) (by rw [rw']; exact zFm.s rfl) (by rw [rw']; exact zFm.s rfl)
    refine g2.2 _ _ ?_
    rintro (⟨e, -⟩ | ⟨x, hx, e⟩)
    · exact mR_m hJ hm (s := 54) (k := 154) (by rfl) (by decide) e
    · have h2 : zf 0 11 x = some (100 + x) ∧ x ≠ 54 := by
        simp only [List.mem_cons, List.not_mem_nil, or_false] at hx
        rcases hx with rfl | rfl | rfl <;> exact ⟨by rfl, by decide⟩
      exact mR_ne hJ hm (s := 54) (s' := x) (k := 154) (by rfl) h2.1 (by omega) e
  rw [fl]
  have hrs : zRow N (s.1 (mR σ m0 49)) := hr.cg (fun c _ c2 => row c (by omega))
  rw [mWays hJ hm s2 hMs hN hrs ht hj]
  have ij : (nI j).toInt = (j : Int) := nI_t (by omega)
  constructor
  · rintro ⟨k, hk⟩
    exact ⟨k, by rw [← pa_cg hr (fun c _ c2 => row c (by omega)) (by omega) (by omega)]; exact hk⟩
  · rintro ⟨k, hk⟩
    exact ⟨k, by rw [pa_cg hr (fun c _ c2 => row c (by omega)) (by omega) (by omega)]; exact hk⟩
theorem mTurnOk (hJ : zJ κ L kd σ) (hm : zT L kd m0 11) (hM : zM m0 σ = N) (hN : N ≤ 12) (hr : zRow N (σ.1 (mR σ m0 48))) : (F_X11_canTurn m0 p q (F_X11_copies m0 σ)).toInt = 0 ↔ ¬ zTu N (σ.1 (mR σ m0 48)) p q := by
  have e0 : (0 : Int32).toInt = 0 := by decide
  have e1 : (1 : Int32).toInt = 1 := by decide
  obtain ⟨-, c3⟩ := zCopies3 hJ hm (τ := σ) rfl
  have hS : ([49, 54, 52, 53, 45, 46, 55] : List Nat).all (fun t => zf 0 11 t == some (100 + t)) = true := by rfl
  have k2 := zN1 (x := F_X11_many m0 (F_X11_copies m0 σ)) (N := N) (by rw [mMany_g hJ hm c3 hS (by rfl) (by rfl), hM]) hN
  have r48 : (F_X11_copies m0 σ).1 (mR σ m0 48) = σ.1 (mR σ m0 48) := zFm.row hJ hm c3 (s := 48) (by rfl) hS (by rfl)
  have g : ∀ x, ((F_X11_copies m0 σ).2.2 m0 x).getD 0 = mR σ m0 x := fun x => by rw [c3.rf]
  have B := fun {t j : Nat} (ht : t < N) (hj : j < N) => mBits hJ hm hM hN hr (t := t) (j := j) ht hj
  obtain ⟨f, hf⟩ : ∃ f, f = F_X11_copies m0 σ := ⟨_, rfl⟩
  rw [← hf] at k2 r48 g B ⊢
  unfold F_X11_canTurn
  simp only [zlt, mPlc, mBeside, mIn, e0, e1, k2, g, r48]
  by_cases c : 1 ≤ p.toInt ∧ p.toInt ≤ (N : Int) - 1
  · rw [if_neg (fun z => z c)]
    by_cases d : 0 ≤ q.toInt ∧ q.toInt ≤ (N : Int) - 1
    · rw [if_neg (fun z => z d)]
      by_cases e : (σ.1 (mR σ m0 48) p.toNatClampNeg).toInt = q.toInt
      · rw [if_pos e]
        exact ⟨fun _ h => h.2.2.2.2.1 e, fun _ => e0⟩
      · rw [if_neg e]
        obtain ⟨k, hk⟩ : ∃ k : Nat, q.toInt = k := ⟨q.toInt.toNat, by omega⟩
        have b := B (t := p.toNatClampNeg) (j := k) (by rw [ztn]; omega) (by omega)
        rw [← zNi hk (by omega), show ((p.toNatClampNeg : Nat) : Int) = p.toInt by rw [ztn]; omega] at b
        by_cases h : ((f.1 (mR σ m0 54) p.toNatClampNeg >>> (q &&& 31)) &&& (1 : Int32)).toInt = 0
        · rw [if_pos h]
          have h2 := ((bt_cut hk (by omega)).1.mp h)
          exact ⟨fun z => absurd z (by decide), fun z => absurd ⟨c.1, by omega, d.1, by omega, e, fun w => h2 (b.mpr w)⟩ z⟩
        · rw [if_neg h]
          refine ⟨fun _ z => h ((bt_cut hk (by omega)).1.mpr (fun w => z.2.2.2.2.2 (b.mp w))), fun _ => e0⟩
    · rw [if_pos d]
      exact ⟨fun _ h => d ⟨h.2.2.1, by have := h.2.2.2.1; omega⟩, fun _ => e0⟩
  · rw [if_pos c]
    exact ⟨fun _ h => c ⟨h.1, by have := h.2.1; omega⟩, fun _ => e0⟩
end TURNM
