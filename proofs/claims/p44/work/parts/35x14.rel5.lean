section ZREL5
variable {κ k : Int} {L1 : List Nat} {kd1 : Nat → Nat} {L2 : List Nat} {kd2 : Nat → Nat} {σ1 σ2 τ1 τ2 : zS} {Wk Wf Wa : List Nat} {m0 x0 : Nat} {Q : Nat → zCo → (Nat → Int32) → Prop} {V : zWh} {ps pc sl rv sh cd : Nat}
theorem zLR (hL : zLay L1 kd1 x0 σ1.2.2 V ps pc sl) (hV : zRv L1 kd1 x0 rv sh cd σ1.2.2) (e : τ1.2 = σ1.2) : zLay L1 kd1 x0 τ1.2.2 V ps pc sl ∧ zRv L1 kd1 x0 rv sh cd τ1.2.2 := by
  rw [e]
  exact ⟨hL, hV⟩
/-- what the reference takes back -/
theorem mUndo (hJ : zJ κ L2 kd2 σ2) (hm : zT L2 kd2 m0 11) {u : Nat} (hu : (σ2.1 m0 57).toInt = u) (hu2 : u ≤ 40) : (u = 0 → F_X11_undo m0 σ2 = (0, σ2)) ∧ (u ≠ 0 → F_X11_undo m0 σ2 = (1, zcf (zu σ2.1 m0 57 (σ2.1 m0 57 - (1 : Int32))) (mR σ2 m0 48) (mR σ2 m0 58) 0 (50 * (u - 1)) 0 50, σ2.2)) := by
  have e1 : (1 : Int32).toInt = 1 := by decide
  have e50 : (50 : Int32).toInt = 50 := by decide
  have hNm : mR σ2 m0 48 ≠ m0 := mR_m hJ hm (s := 48) (k := 148) (by rfl) (by decide)
  constructor
  · intro c
    unfold F_X11_undo
    simp only [zlt]
    rw [if_pos (by omega)]
  · intro c
    have ev : (σ2.1 m0 57 - (1 : Int32)).toInt = (u - 1 : Nat) := by rw [zb_sub (by rw [hu, e1]; omega) (by rw [hu, e1]; omega), hu, e1]; omega
    unfold F_X11_undo
    simp only [zlt]
    rw [if_neg (by omega)]
    rw [zLoopC (E := fun s => ((1 : Int32), s)) (G := F_X11_undo_21 m0) (D := mR σ2 m0 48) (S := mR σ2 m0 58) (dO := 0) (sO := 50 * (u - 1)) (N := 50) (m0 := m0) (σ := (zu σ2.1 m0 57 (σ2.1 m0 57 - (1 : Int32)), σ2.2)) (Or.inr (Nat.zero_le _)) hNm (by decide) ?_ ?_ 10000 0 0 _ (by decide) (by decide) (by decide) rfl rfl]
    · intro n x k ρ hx hk q2 q0
      have r : ∀ s, (ρ.2.2 m0 s).getD 0 = mR σ2 m0 s := fun s => by rw [mR, q2]
      have en : x.toNatClampNeg = k := by rw [ztn, hx]; rfl
      have ef : ρ.1 m0 57 = σ2.1 m0 57 - (1 : Int32) := by rw [q0]; exact zu_s _ _ _ _
      have eu : ((50 : Int32) * ρ.1 m0 57).toInt = 50 * (u - 1 : Nat) := by rw [zb_mul (by rw [e50, ef, ev]; omega) (by rw [e50, ef, ev]; omega), e50, ef, ev]
      have ei : ((50 : Int32) * ρ.1 m0 57 + x).toNatClampNeg = 50 * (u - 1) + k := by
        rw [ztn, zb_add (by rw [eu, hx]; omega) (by rw [eu, hx]; omega), eu, hx]
        omega
      rw [F_X11_undo_21]
      simp only [zlt, e50]
      rw [if_pos (by omega), r 48, r 58, en, ei, Nat.zero_add]
    · intro n x ρ hx q2 _
      rw [F_X11_undo_21]
      simp only [zlt, e50]
      rw [if_neg (by omega)]
theorem zRL.undo {v1 v2 : Int32} (h : zRL Q L1 kd1 x0 m0 V ps pc sl rv sh cd σ1 σ2) (hx : zT L1 kd1 x0 10) (hI : zI κ 0 L1 kd1 σ1) (hJ : zJ κ L2 kd2 σ2) (hm : zT L2 kd2 m0 11) (f1 : (v1, τ1) = F_X10_undo x0 σ1) (f2 : (v2, τ2) = F_X11_undo m0 σ2) : v1.toInt = v2.toInt ∧ zRL Q L1 kd1 x0 m0 V ps pc sl rv sh cd τ1 τ2 := by
  obtain ⟨hL, hV, N, n, u, ⟨a1, a2, a3, a4, a5, a6, a7, a8, a9⟩, hq, hu, hh⟩ := id h
  have g6 : (σ1.2.2 x0 6).getD 0 = V.1 0 := xnw hL
  have g4 : (σ1.2.2 x0 4).getD 0 = ps := by rw [hL.1.2.2.2.1]; rfl
  obtain ⟨p1, p2⟩ := zPop hL a4 a5 a6 a7
  obtain ⟨m1, m2⟩ := mUndo hJ hm a8 a7
  unfold F_X10_undo at f1
  simp only [zlt, zlt2, g6, g4] at f1
  by_cases c : u = 0
  · rw [p1 c] at f1
    rw [m1 c] at f2
    cases f1
    cases f2
    exact ⟨rfl, h⟩
  · obtain ⟨s, b0, b1, b2, b3, b4, b5, b6⟩ := p2 c
    rw [b0] at f1
    rw [m2 c] at f2
    have t1 : τ1 = s := congrArg Prod.snd f1
    have t2 : τ2 = _ := congrArg Prod.snd f2
    have hNm : mR σ2 m0 48 ≠ m0 := mR_m hJ hm (s := 48) (k := 148) (by rfl) (by decide)
    have er : ∀ s, mR τ2 m0 s = mR σ2 m0 s := fun s => by rw [mR, t2]
    have e1 : (1 : Int32).toInt = 1 := by decide
    obtain ⟨hL', hV'⟩ := zLR hL hV (τ1 := τ1) (by rw [t1]; exact b1)
    have fm : ∀ j, j ≠ 57 → τ2.1 m0 j = σ2.1 m0 j := fun j hj => by
      rw [t2]
      show zcf _ _ _ _ _ _ _ m0 j = _
      rw [zcf_n (fun z => hNm z.symm), zu_j _ _ _ _ _ (fun z => hj z.symm)]
    have rm : ∀ s, zf 0 11 s = some (100 + s) → s ≠ 48 → τ2.1 (mR σ2 m0 s) = σ2.1 (mR σ2 m0 s) := fun s hs h48 => by
      rw [t2]
      show zcf _ _ _ _ _ _ _ (mR σ2 m0 s) = _
      rw [zcf_n (mR_ne hJ hm hs (s' := 48) (k' := 148) (by rfl) (by omega)), zu_n _ _ _ (mR_m hJ hm hs (by omega))]
    have o : ∀ {a k : Nat}, zT L1 kd1 a k → (k = 2 ∨ k = 9 ∨ k = 10) → τ1.1 a = σ1.1 a := fun ha hk => by
      rw [t1]
      refine b6 _ ha.1 (fun z => ?_)
      rw [ha.2] at z
      simp only [List.mem_cons, List.not_mem_nil, or_false] at z
      omega
    obtain ⟨td, d1, d2⟩ := zi_ref (j := 10) (k2 := 9) hI hx (by rfl)
    obtain ⟨dy, y1, y2⟩ := zi_ref (j := 5) (k2 := 2) hI hx (by rfl)
    have gd : (σ1.2.2 x0 10).getD 0 = td := by rw [d1]; rfl
    have gy : (σ1.2.2 x0 5).getD 0 = dy := by rw [y1]; rfl
    have r2 : τ1.2.2 = σ1.2.2 := by rw [t1, b1]
    refine ⟨by rw [show v1 = 1 from congrArg Prod.fst f1, show v2 = 1 from congrArg Prod.fst f2], hL', hV', N, (n + 39) % 40, u - 1, ⟨?_, ?_, a3, by rw [t1]; exact b4, by omega, by rw [t1]; exact b5, by omega, ?_, ?_⟩, ?_, fun i hi => ?_, fun s' hs => ?_⟩
    · rw [r2, gd, o d2 (by omega), ← gd]; exact a1
    · rw [← a2]
      unfold zM zp
      rw [fm 18 (by decide)]
      show (τ2.1 (mR τ2 m0 21) _).toInt = (σ2.1 (mR σ2 m0 21) _).toInt
      rw [er, rm 21 (by rfl) (by decide)]
    · rw [t2]
      show (zcf _ _ _ _ _ _ _ m0 57 : Int32).toInt = _
      rw [zcf_n (fun z => hNm z.symm), zu_s, zb_sub (by rw [a8, e1]; omega) (by rw [a8, e1]; omega), a8, e1]
      omega
    · rw [r2, gy, o y2 (by omega), ← gy, fm 62 (by decide)]; exact a9
    · rw [t1, b2, er, rC_e (g := σ2.1) (r' := mR σ2 m0 58) (o' := 50 * (u - 1 - 0)) (fun j hj => ?_)]
      · exact hu 0 (by omega)
      · rw [t2]
        show zcf _ _ _ _ _ _ _ (mR σ2 m0 48) (0 + j) = _
        rw [zcf_i ⟨by omega, by omega⟩, zu_n _ _ _ (mR_m hJ hm (s := 58) (k := 158) (by rfl) (by decide))]
        exact congrArg _ (by omega)
    · have e2 : 5 + ((n + 39) % 40 + 39 - i) % 40 = 5 + (n + 39 - (i + 1)) % 40 := by omega
      have e3 : u - 1 - 1 - i = u - 1 - (i + 1) := by omega
      rw [e2, t1, b3 _ (by omega) (by omega), er, rC_e (g := σ2.1) (r' := mR σ2 m0 58) (o' := 50 * (u - 1 - (i + 1))) (fun j _ => by rw [rm 58 (by rfl) (by decide), e3])]
      exact hu (i + 1) (by omega)
    · rw [o hx (by omega), t1, b3 _ (by omega) (by omega), er, er, rm 67 (by rfl) (by decide), rC_e (g := σ2.1) (r' := mR σ2 m0 68) (o' := 50 * s') (fun j _ => by rw [rm 68 (by rfl) (by decide)])]
      exact hh s' hs
end ZREL5
