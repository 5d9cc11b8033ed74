/-! A STREAM TURNED ON TRIAL: trees, the reference's ways filled once more, what stands -/
section TURNT
variable {N : Nat} {u : Nat → Nat} {c t : Nat} {r : Nat → Int32}
theorem bnd (q : Nat → Nat) : ∀ N : Nat, ∃ K, ∀ x, x < N → q x < K := by
  intro N
  induction N with
  | zero => exact ⟨0, fun x h => absurd h (by omega)⟩
  | succ N ih =>
    obtain ⟨K, hK⟩ := ih
    refine ⟨K + q N + 1, fun x hx => ?_⟩
    by_cases e : x = N
    · rw [e]
      omega
    · have := hK x (by omega)
      omega
theorem zTr.turn (h : zTr N u) (c1 : 1 ≤ c) (t1 : t < N) (hn : ¬ An u c t) : zTr N (fun x => if x = c then t else u x) := by
  obtain ⟨q, hq⟩ := id h
  obtain ⟨K, hK⟩ := bnd q N
  have yes : ∀ x, An u c x → @ite Nat (An u c x) (Classical.propDecidable _) (q x + K) (q x) = q x + K := fun x hx => if_pos hx
  have no : ∀ x, ¬ An u c x → @ite Nat (An u c x) (Classical.propDecidable _) (q x + K) (q x) = q x := fun x hx => if_neg hx
  refine ⟨fun x => @ite Nat (An u c x) (Classical.propDecidable _) (q x + K) (q x), fun x x1 x2 => ?_⟩
  show (if x = c then t else u x) < N ∧ @ite Nat (An u c (if x = c then t else u x)) (Classical.propDecidable _) (q (if x = c then t else u x) + K) (q (if x = c then t else u x)) < @ite Nat (An u c x) (Classical.propDecidable _) (q x + K) (q x)
  by_cases e : x = c
  · rw [if_pos e]
    refine ⟨t1, ?_⟩
    rw [no t hn, yes x (by rw [e]; exact An_rf)]
    have := hK t t1
    omega
  · rw [if_neg e]
    obtain ⟨z1, z2⟩ := hq x x1 x2
    refine ⟨z1, ?_⟩
    by_cases d : An u c x
    · have d' : An u c (u x) := ((An_s (by omega)).mp d).resolve_left (fun z => e z.symm)
      rw [yes _ d', yes _ d]
      omega
    · have d' : ¬ An u c (u x) := fun z => d ((An_s (by omega)).mpr (Or.inr z))
      rw [no _ d', no _ d]
      exact z2
theorem zRow.ofTr (hN : N ≤ 12) (hr : ∀ c, 1 ≤ c → c < N → 0 ≤ (r c).toInt ∧ (r c).toInt < N) (h : zTr N (uOf r)) : zRow N r := by
  refine ⟨fun z => if 0 ≤ z ∧ z < N then dep N (uOf r) z.toNat else 0, fun c c1 c2 => ?_, fun z => ?_⟩
  · obtain ⟨a1, a2⟩ := hr c c1 c2
    refine ⟨a1, a2, ?_⟩
    show (if 0 ≤ (r c).toInt ∧ (r c).toInt < N then dep N (uOf r) (r c).toInt.toNat else 0) < (if 0 ≤ (c : Int) ∧ (c : Int) < N then dep N (uOf r) (c : Int).toNat else 0)
    rw [if_pos ⟨a1, a2⟩, if_pos (by omega)]
    have z := dep_s h c1 c2
    have e : (r c).toInt.toNat = uOf r c := rfl
    rw [e, show (c : Int).toNat = c by omega]
    omega
  · show (if 0 ≤ z ∧ z < N then dep N (uOf r) z.toNat else 0) ≤ 12
    by_cases k : 0 ≤ z ∧ z < N
    · rw [if_pos k]
      have := (dep_b h z.toNat (by omega)).2
      omega
    · rw [if_neg k]
      omega
theorem zRow.turn (hN : N ≤ 12) (h : zRow N r) {p q : Int32} {P : Nat} (hp : p.toInt = P) (z : zTu N r p q) : zRow N (updR r P q) := by
  obtain ⟨z1, z2, z3, z4, -, z6⟩ := z
  have nq : q = nI q.toInt.toNat := zNi (by omega) (by omega)
  have hn : ¬ An (uOf r) P q.toInt.toNat := fun a => z6 (by
    obtain ⟨k, hk⟩ := (pa_An h hN (j := q.toInt.toNat) (t := P) (by omega)).mpr a
    rw [← nq] at hk
    exact ⟨k, by omega⟩)
  have T := h.tr.turn (c := P) (t := q.toInt.toNat) (by omega) (by omega) hn
  refine zRow.ofTr hN (fun c c1 c2 => ?_) (T.cg (fun c c1 c2 => ?_))
  · unfold updR
    by_cases e : c = P
    · rw [if_pos e]
      omega
    · rw [if_neg e]
      obtain ⟨w, w1, -⟩ := h
      have := w1 c c1 c2
      omega
  · show ((if c = P then q else r c) : Int32).toInt.toNat = if c = P then q.toInt.toNat else uOf r c
    by_cases e : c = P
    · rw [if_pos e, if_pos e]
    · rw [if_neg e, if_neg e]
      rfl
end TURNT
/-- as zShM, of any row -/
def zShU (N : Nat) (u : Nat → Nat) (FR SR : Nat → Int32) (m0 : Nat) (r : Nat → Int32) (σ t : zS) : Prop := t.2 = σ.2 ∧ (∀ p j, p < N → j < 32 → (bt (t.1 (mR σ m0 54) p) j = true ↔ (j < N ∧ An u p j))) ∧ (∀ p, p < N → t.1 (mR σ m0 52) p = FR p ∧ t.1 (mR σ m0 53) p = SR p) ∧ (∀ j, j < 50 → t.1 (mR σ m0 49) j = r j) ∧ zFr (zFm [50, 51, 47] [49, 54, 52, 53, 45, 46, 55] m0 σ.2.2) σ t
section MSHPU
variable {L : List Nat} {kd : Nat → Nat} {m0 N B : Nat} {FR SR r : Nat → Int32} {u : Nat → Nat} {σ s t : zS} {κ : Int}
set_option maxHeartbeats 1000000 in
theorem mShpU (hJ : zJ κ L kd σ) (hm : zT L kd m0 11) (s2 : s.2 = σ.2) (gs : zFr (zFm [50, 51, 47] [49, 54, 52, 53, 45, 46, 55] m0 σ.2.2) σ s) (row : ∀ j, j < 50 → s.1 (mR σ m0 49) j = r j) (hM : zM m0 σ = N) (hN : N ≤ 12) (hr : zRow N r) (hB : (σ.1 m0 18).toInt = B) (hB1 : B ≤ 1) (F0 : FR 0 = 0) (S0 : SR 0 = 0) (hF : ∀ c, 1 ≤ c → c < N → FR c = FR (uOf r c) + σ.1 (mR σ m0 23) (12 * B + c)) (hS : ∀ c, 1 ≤ c → c < N → SR c = SR (uOf r c) + (1 : Int32)) : zShU N (uOf r) FR SR m0 r σ (F_X11_fillsFlows m0 0 (F_X11_fillsWays m0 s)) := by
  have rm : mR σ m0 49 ≠ m0 := mR_m hJ hm (s := 49) (k := 149) (by rfl) (by decide)
  have rs : s.2.2 = σ.2.2 := by rw [s2]
  have hMs : (F_X11_many m0 s).toInt = N := by rw [mMany_g hJ hm gs (by rfl) (by rfl) (by rfl), hM]
  have s18 : s.1 m0 18 = σ.1 m0 18 := zFm.fld hJ hm gs (by rfl) (by rfl)
  have s23 : s.1 (mR σ m0 23) = σ.1 (mR σ m0 23) := zFm.row hJ hm gs (s := 23) (by rfl) (by rfl) (by rfl)
  obtain ⟨t, ht⟩ : ∃ t, t = F_X11_fillsWays m0 s := ⟨_, rfl⟩
  have gt : zFr (zFm [] [54, 52, 53] m0 s.2.2) s t := by rw [ht]; exact fr_X11_fillsWays zFr.id (zFm.s rfl) (zFm.s rfl) (zFm.s rfl)
  have rt : t.2.2 = σ.2.2 := by rw [gt.rf, rs]
  have g2 : zFr (zFm [47] [45, 46, 55] m0 σ.2.2) t (F_X11_fillsFlows m0 0 t) := fr_X11_fillsFlows zFr.id (by rw [rt]; exact zFm.s rfl) (zFm.f rfl) (by rw [rt]; exact zFm.s rfl) (by rw [rt]; exact zFm.s rfl)
  have fl : ∀ x, (x = 54 ∨ x = 52 ∨ x = 53 ∨ x = 49) → ∀ j, (F_X11_fillsFlows m0 0 t).1 (mR σ m0 x) j = t.1 (mR σ m0 x) j := fun x hx j => by
    have hz : zf 0 11 x = some (100 + x) := by rcases hx with rfl | rfl | rfl | rfl <;> rfl
    refine g2.2 _ _ ?_
    rintro (⟨e, -⟩ | ⟨y, hy, e⟩)
    · exact mR_m hJ hm hz (by omega) e
    · have h2 : zf 0 11 y = some (100 + y) ∧ y ≠ x := by
        simp only [List.mem_cons, List.not_mem_nil, or_false] at hy
        rcases hy with rfl | rfl | rfl <;> exact ⟨by rfl, by omega⟩
      exact mR_ne hJ hm hz h2.1 (by omega) e
  have e2 : t = F_X11_fillsWays_2 m0 10000 0 s := by
    rw [ht]
    unfold F_X11_fillsWays
    simp only [zlt]
  have ne : ∀ {x y : Nat}, zf 0 11 x = some (100 + x) → zf 0 11 y = some (100 + y) → x ≠ y → mR σ m0 x ≠ mR σ m0 y := fun h1 h2 h3 => mR_ne hJ hm h1 h2 (by omega)
  have nm : ∀ {x : Nat}, zf 0 11 x = some (100 + x) → m0 ≠ mR σ m0 x := fun {x} h1 z => by
    have h3 := zf_100 h1
    exact mR_m hJ hm h1 h3 z.symm
  have g : ∀ x, (s.2.2 m0 x).getD 0 = mR σ m0 x := fun x => by rw [rs]
  have many : ∀ τ, zFr (zAw (mR σ m0 54) (mR σ m0 52) (mR σ m0 53)) s τ → (F_X11_many m0 τ).toInt = N := fun τ h => by
    rw [← hMs]
    unfold F_X11_many
    simp only [zlt]
    rw [h.rf, g 21]
    rw [h.2 m0 18 (fun z => z.elim (nm (by rfl)) (fun z => z.elim (nm (by rfl)) (nm (by rfl))))]
    rw [h.2 (mR σ m0 21) _ (fun z => z.elim (ne (by rfl) (by rfl) (by decide)) (fun z => z.elim (ne (by rfl) (by rfl) (by decide)) (ne (by rfl) (by rfl) (by decide))))]
  have hrs : zRow N (s.1 (mR σ m0 49)) := hr.cg (fun c _ c2 => row c (by omega))
  have ue : ∀ c, 1 ≤ c → c < N → uOf (s.1 (mR σ m0 49)) c = uOf r c := uOf_cg (fun c _ c2 => row c (by omega))
  obtain ⟨-, Q⟩ := mWay3 (s := s) (m0 := m0) (ne (x := 54) (y := 52) (by rfl) (by rfl) (by decide)) (ne (x := 54) (y := 53) (by rfl) (by rfl) (by decide)) (ne (x := 49) (y := 54) (by rfl) (by rfl) (by decide)) (ne (x := 49) (y := 52) (by rfl) (by rfl) (by decide)) (ne (x := 49) (y := 53) (by rfl) (by rfl) (by decide)) (g 54) (g 52) (g 53) (g 49) hrs hN many 10000 0 0 s (by decide) (by omega) (by omega) zFr.id (fun t ht => absurd ht (by omega))
  have W := mFar3 (s := s) (m0 := m0) (B := B) (FR := FR) (SR := SR) (ne (x := 54) (y := 52) (by rfl) (by rfl) (by decide)) (ne (x := 54) (y := 53) (by rfl) (by rfl) (by decide)) (ne (x := 52) (y := 53) (by rfl) (by rfl) (by decide)) (ne (x := 49) (y := 54) (by rfl) (by rfl) (by decide)) (ne (x := 49) (y := 52) (by rfl) (by rfl) (by decide)) (ne (x := 49) (y := 53) (by rfl) (by rfl) (by decide)) (ne (x := 23) (y := 54) (by rfl) (by rfl) (by decide)) (ne (x := 23) (y := 52) (by rfl) (by rfl) (by decide)) (ne (x := 23) (y := 53) (by rfl) (by rfl) (by decide)) (nm (x := 54) (by rfl)) (nm (x := 52) (by rfl)) (nm (x := 53) (by rfl)) (g 54) (g 52) (g 53) (g 49) (g 23) (by rw [s18]; exact hB) hB1 hrs F0 S0 (fun c c1 c2 => by rw [ue c c1 c2, s23]; exact hF c c1 c2) (fun c c1 c2 => by rw [ue c c1 c2]; exact hS c c1 c2) hN many 10000 0 0 s (by decide) (by omega) (by omega) zFr.id
  rw [← e2] at Q W
  rw [← ht]
  have gtu : zFr (zFm [50, 51, 47] [49, 54, 52, 53, 45, 46, 55] m0 σ.2.2) s t := by
    rw [ht]
    exact fr_X11_fillsWays zFr.id (by rw [rs]; exact zFm.s rfl) (by rw [rs]; exact zFm.s rfl) (by rw [rs]; exact zFm.s rfl)
  have g2u : zFr (zFm [50, 51, 47] [49, 54, 52, 53, 45, 46, 55] m0 σ.2.2) t (F_X11_fillsFlows m0 0 t) := fr_X11_fillsFlows zFr.id (by rw [rt]; exact zFm.s rfl) (zFm.f rfl) (by rw [rt]; exact zFm.s rfl) (by rw [rt]; exact zFm.s rfl)
  have C3 := (gs.tr gtu).tr g2u
  have t49 : ∀ j, t.1 (mR σ m0 49) j = s.1 (mR σ m0 49) j := fun j => by
    rw [rs] at gt
    refine gt.2 _ _ ?_
    rintro (⟨e, -⟩ | ⟨y, hy, e⟩)
    · exact rm e
    · have h2 : zf 0 11 y = some (100 + y) ∧ y ≠ 49 := by
        simp only [List.mem_cons, List.not_mem_nil, or_false] at hy
        rcases hy with rfl | rfl | rfl <;> exact ⟨by rfl, by omega⟩
      exact mR_ne hJ hm (s := 49) (s' := y) (k := 149) (by rfl) h2.1 (by omega) e
  refine ⟨C3.1, fun p j hp hj => ?_, fun p hp => ?_, fun j hj => by rw [fl 49 (by omega), t49, row j hj], C3⟩
  · rw [fl 54 (by omega), Q p j hp hj]
    constructor
    · rintro (⟨h1, h2⟩ | ⟨-, h⟩)
      · exact ⟨h1, (An_cg hr.tr ue j h1 p).mp ((pa_An hrs hN h1).mp h2)⟩
      · exact h.elim
    · rintro ⟨h1, h2⟩
      exact Or.inl ⟨h1, (pa_An hrs hN h1).mpr ((An_cg hr.tr ue j h1 p).mpr h2)⟩
  · rw [fl 52 (by omega), fl 53 (by omega)]
    exact W p hp
theorem mIsU (h : zShU N u FR SR m0 r σ t) (hJ : zJ κ L kd σ) (hm : zT L kd m0 11) (hM : zM m0 σ = N) (hN : N ≤ 12) {x : Int32} : (F_X11_isSource m0 x t).toInt = 0 ↔ ¬ (0 ≤ x.toInt ∧ Src N u x.toInt.toNat) := by
  have e0 : (0 : Int32).toInt = 0 := by decide
  have e1 : (1 : Int32).toInt = 1 := by decide
  have kN := zN1 (x := F_X11_many m0 t) (by rw [mMany_g hJ hm h.2.2.2.2 (by rfl) (by rfl) (by rfl)]; exact hM) hN
  have g54 : (t.2.2 m0 54).getD 0 = mR σ m0 54 := by rw [h.1]
  unfold F_X11_isSource
  simp only [zlt, mBeside, mIn, e1, kN, g54]
  by_cases c : 1 ≤ x.toInt ∧ x.toInt ≤ (N : Int) - 1
  · rw [if_neg (fun z => z c)]
    obtain ⟨p, hp⟩ : ∃ p : Nat, x.toInt = p := ⟨x.toInt.toNat, by omega⟩
    have nx : x.toNatClampNeg = p := by rw [ztn, hp]; rfl
    have ex : x = nI p := zNi hp (by omega)
    have key : (t.1 (mR σ m0 54) p).toInt = ((1 : Int32) <<< (x &&& 31)).toInt ↔ Src N u p := by
      rw [Int32.toInt_inj, ex]
      constructor
      · intro z
        refine ⟨by omega, by omega, fun j hj ha => ?_⟩
        have q := (h.2.1 p j (by omega) (by omega)).mpr ⟨hj, ha⟩
        rw [z, bt_1 (by omega) (by omega), decide_eq_true_eq] at q
        exact q
      · rintro ⟨z1, z2, z3⟩
        refine b_ext (fun j hj => ?_)
        rw [bt_1 (by omega) hj]
        by_cases e : j = p
        · rw [decide_eq_true e]
          exact (h.2.1 p j z2 hj).mpr ⟨by omega, by rw [e]; exact An_rf⟩
        · rw [decide_eq_false e]
          cases hc : bt (t.1 (mR σ m0 54) p) j with
          | false => rfl
          | true =>
            obtain ⟨w1, w2⟩ := (h.2.1 p j z2 hj).mp hc
            exact absurd (z3 j w1 w2) e
    rw [nx, show x.toInt.toNat = p by omega]
    by_cases c2 : (t.1 (mR σ m0 54) p).toInt = ((1 : Int32) <<< (x &&& 31)).toInt
    · rw [if_pos c2]
      exact ⟨fun z => absurd (z.symm.trans e1) (by decide), fun z => absurd ⟨by omega, key.mp c2⟩ z⟩
    · rw [if_neg c2]
      exact ⟨fun _ z => c2 (key.mpr z.2), fun _ => e0⟩
  · rw [if_pos c]
    exact ⟨fun _ z => by have a := z.2.1; have b := z.2.2.1; omega, fun _ => e0⟩
end MSHPU
section STANDU
variable {κ : Int} {L1 : List Nat} {kd1 : Nat → Nat} {L2 : List Nat} {kd2 : Nat → Nat} {σ1 σ2 s0 : zS} {m0 x0 : Nat} {Q : Nat → zCo → (Nat → Int32) → Prop} {V : zWh} {ps pc sl rv sh cd k N : Nat}
theorem zSd.ofU (hG : zGd Q) (hQ : ∀ N c r, Q N c r → zQw N c r) (h : zRL Q L1 kd1 x0 m0 V ps pc sl rv sh cd σ1 σ2) (hw : 0 < zM m0 σ2 → zLw x0 m0 σ1 σ2) (hl : zLen x0 m0 σ1 σ2) (hx : zT L1 kd1 x0 10) (hI : zI κ 0 L1 kd1 σ1) (hJ : zJ κ L2 kd2 σ2) (hm : zT L2 kd2 m0 11) (hg : gN m0 σ2) (n2 : zM m0 σ2 = N) (n1 : N ≤ 12) {r' : Nat → Int32} (hr' : zRow N r') (hrk : ∀ j, 12 ≤ j → j < 50 → r' j = σ2.1 (mR σ2 m0 48) j) {ρ : zS} (h2 : ρ.2 = σ2.2) (hρ : zFr (zFm [50, 51, 47] [49, 54, 52, 53, 45, 46, 55] m0 σ2.2.2) σ2 ρ) (row : ∀ j, j < 50 → ρ.1 (mR σ2 m0 49) j = r' j) (gr : ∀ a j, ¬ (a = rv ∧ (j = 5 ∨ j = 6)) → s0.2.2 a j = σ1.2.2 a j) (he : ∀ c kc, zT L1 kd1 c kc → (kc = 9 ∨ (46 ≤ kc ∧ kc ≤ 51)) → s0.1 c = σ1.1 c) (hk : k < 45) (hcI : ∀ c, 1 ≤ c → c < N → s0.1 (V.2.1 k) c = r' c) (hcD : s0.1 (V.1 k) 3 = σ1.1 (V.1 0) 3) : ∃ (td B : Nat) (gl : zGl) (u l : Nat → Nat) (q Y : Nat → Nat) (w t : zS), (q = qOf σ1.2.2 rv sh cd td V k ∧ Y = mR σ2 m0 ∧ w = F_X5_form rv td (V.1 k) s0 ∧ t = F_X11_fillsFlows m0 0 (F_X11_fillsWays m0 ρ)) ∧ σ1.2.2 x0 10 = some td ∧ zSd q Y m0 B N gl u l w t ∧ (∀ i, (i = 3 ∨ i = 4 ∨ i = 20 ∨ i = 21) → w.1 (q i) = s0.1 (q i)) ∧ (∀ j, j < 50 → t.1 (Y 49) j = r' j) ∧ (zFr (zFm [50, 51, 47] [49, 54, 52, 53, 45, 46, 55] m0 σ2.2.2) σ2 t) ∧ (zDn q Y N w t → ∀ p, p < N → (F_X5_fall (q 0) 0 w).1 (q 6) p = t.1 (Y 55) p) := by
  have g : zPv L1 kd1 V rv σ1 (σ1.1, s0.2) := ⟨gr, fun _ _ => rfl⟩
  obtain ⟨u, hu0⟩ : ∃ u, u = uOf r' := ⟨_, rfl⟩
  have n4 : zTr N u := by
    rw [hu0]
    exact hr'.tr
  obtain ⟨ℓ, hℓ⟩ : ∃ ℓ : Nat → Int32, ℓ = fun c => σ2.1 (mR σ2 m0 23) (12 * (σ2.1 m0 18).toInt.toNat + c) := ⟨_, rfl⟩
  obtain ⟨FR, F0, hF⟩ := n4.rec (0 : Int32) (fun c z => z + ℓ c)
  obtain ⟨SR, S0, hS⟩ := n4.rec (0 : Int32) (fun _ z => z + (1 : Int32))
  have hb : ∀ c, 1 ≤ c → c < N → σ2.1 (mR σ2 m0 23) (12 * (σ2.1 m0 18).toInt.toNat + c) = ℓ c ∧ (r' c).toInt = u c := fun c c1 c2 => ⟨by rw [hℓ], by rw [hu0]; exact hr'.u c1 c2⟩
  have r18 : 0 ≤ (σ2.1 m0 18).toInt ∧ (σ2.1 m0 18).toInt ≤ 1 := zj_get (j := 18) hJ hm (lo := 0) (hi := 1) (by rfl)
  have hM := mShpU (N := N) (B := (σ2.1 m0 18).toInt.toNat) (FR := FR) (SR := SR) hJ hm h2 hρ row n2 n1 hr' (by omega) (by omega) F0 S0 (fun c c1 c2 => by rw [← hu0, (hb c c1 c2).1]; exact hF c c1 c2) (fun c c1 c2 => by rw [← hu0]; exact hS c c1 c2)
  rw [← hu0] at hM
  obtain ⟨hL, hV, N', n, uu, ⟨a1, a2, a3, -⟩, hq, -⟩ := id h
  obtain rfl : N' = N := by omega
  obtain ⟨td, d1, d2⟩ := zi_ref (j := 10) (k2 := 9) hI hx (by rfl)
  have gd : (σ1.2.2 x0 10).getD 0 = td := by rw [d1]; rfl
  have tr := zTt_k hI d2
  obtain ⟨B, w2⟩ : ∃ B, (σ2.1 m0 18).toInt.toNat = B := ⟨_, rfl⟩
  have hw' : ∃ (gl : zGl) (K : Nat), 0 < N' → ((σ1.1 td 8).toInt = K ∧ K ≤ 420) ∧ (∀ k, k < 5 → zLc ((σ1.2.2 td 6).getD 0) ((σ1.2.2 td 7).getD 0) ((σ1.2.2 td 9).getD 0) σ1 K k (gl k) ∧ zLm (mR σ2 m0) (420 * B) (130 * B) σ2 (420 * B + 420) (130 * B + 130) (5 * B + k) (gl k)) ∧ (∀ j p : Nat, 3 ≤ j → j ≤ 5 → (p : Int) < zM m0 σ2 → σ1.1 ((σ1.2.2 td j).getD 0) p = σ2.1 (mR σ2 m0 (20 + j)) (12 * B + p)) ∧ (∀ j : Nat, j < 4 → σ1.1 td (10 + j) = σ2.1 (mR σ2 m0 (26 + j)) B) ∧ 0 ≤ (σ1.1 td 11).toInt ∧ (σ1.1 td 11).toInt ≤ 99 := by
    by_cases z : 0 < N'
    · obtain ⟨td', B', K, gl, w1, w2', w3, w4, w5, w6, w7, w8⟩ := hw (by omega)
      have et' : td' = td := by rw [← w1, gd]
      have eB' : B' = B := by rw [← w2', w2]
      rw [et', eB'] at w4
      rw [et'] at w3 w5 w6 w7 w8
      rw [eB'] at w5 w6
      exact ⟨gl, K, fun _ => ⟨w3, w4, w5, w6, w7, w8⟩⟩
    · exact ⟨fun _ => none, 0, fun y => absurd y z⟩
  obtain ⟨gl, K, hw'⟩ := hw'
  obtain ⟨td', etd⟩ : ∃ td', td' = td := ⟨td, rfl⟩
  subst etd
  have w5 : ∀ j p : Nat, 3 ≤ j → j ≤ 5 → p < N' → σ1.1 ((σ1.2.2 td' j).getD 0) p = σ2.1 (mR σ2 m0 (20 + j)) (12 * B + p) := fun j p j1 j2 hp => by
    obtain ⟨-, -, x, -⟩ := hw' (by omega)
    exact x j p j1 j2 (by omega)
  have r18 : 0 ≤ (σ2.1 m0 18).toInt ∧ (σ2.1 m0 18).toInt ≤ 1 := zj_get (j := 18) hJ hm (lo := 0) (hi := 1) (by rfl)
  have hB : (σ2.1 m0 18).toInt = B := by omega
  have hB1 : B ≤ 1 := by omega
  have nB : (σ2.1 m0 18).toNatClampNeg = B := by rw [ztn, hB]; rfl
  rw [w2] at hb
  rw [gd] at a1
  have t1 : zT L1 kd1 rv 5 := hV.2.1.2.1
  have t2 : zT L1 kd1 sh 6 := hV.2.1.2.2.1
  have ntd : td' ≠ rv := zNk d2 t1 (by decide)
  have nsh : sh ≠ rv := zNk t2 t1 (by decide)
  have hL0 : zLay L1 kd1 x0 s0.2.2 V ps pc sl := zLay.pv (s := (σ1.1, s0.2)) hL t1 g
  have hV0 : zRv L1 kd1 x0 rv sh cd s0.2.2 := zRv.keep (s := (σ1.1, s0.2)) hV g
  have et : ∀ j, s0.2.2 td' j = σ1.2.2 td' j := fun j => g.1 td' j (fun z => ntd z.1)
  have es : ∀ j, s0.2.2 sh j = σ1.2.2 sh j := fun j => g.1 sh j (fun z => nsh z.1)
  have tl0 : zT L1 kd1 ((s0.2.2 td' 3).getD 0) 46 := by rw [et]; exact tr 3 (by decide) (by decide) (by decide)
  have Qk : zQw N' (zcc V σ1.1 0) (rC σ2.1 (mR σ2 m0 48) 0) := hQ _ _ _ hq
  have rc : ∀ j, j < 50 → rC σ2.1 (mR σ2 m0 48) 0 j = σ2.1 (mR σ2 m0 48) j := fun j hj => by rw [rC_i hj, Nat.zero_add]
  have hu : ∀ c, 1 ≤ c → c < N' → (s0.1 (V.2.1 k) c).toInt = u c := fun c c1 c2 => by
    rw [hcI c c1 c2]
    exact (hb c c1 c2).2
  have h0 : (s0.1 td' 0).toInt = N' := by rw [he td' 9 d2 (by omega)]; exact a1
  have hF' : ∀ c, 1 ≤ c → c < N' → FR c = FR (u c) + s0.1 ((s0.2.2 td' 3).getD 0) c := fun c c1 c2 => by
    rw [et, he _ 46 (tr 3 (by decide) (by decide) (by decide)) (by omega), w5 3 c (by decide) (by decide) (by omega), hF c c1 c2]
    show FR (u c) + ℓ c = FR (u c) + σ2.1 (mR σ2 m0 23) (12 * B + c)
    rw [(hb c c1 c2).1]
  obtain ⟨C1, C2, l, C3⟩ := cFormK hL0 hV0 d2 tl0 hk n1 h0 n4 hu F0 hF'
  rw [es, es, es, es, es] at C3
  obtain ⟨w, hw0⟩ : ∃ w, w = F_X5_form rv td' (V.1 k) s0 := ⟨_, rfl⟩
  obtain ⟨t, ht0⟩ : ∃ t, t = F_X11_fillsFlows m0 0 (F_X11_fillsWays m0 ρ) := ⟨_, rfl⟩
  rw [← hw0] at C1 C2 C3
  rw [← ht0] at hM
  have hM' := hM
  obtain ⟨m1, m2, m3, m4, m5⟩ := hM'
  obtain ⟨q, hq0⟩ : ∃ q, q = qOf σ1.2.2 rv sh cd td' V k := ⟨_, rfl⟩
  have QR : zQr q w.2.2 := by
    rw [hq0]
    refine zQr.of hL hV d2 tr hk (fun a j n => ?_) ?_ ?_
    · rw [C1]
      by_cases ca : a = rv
      · subst ca
        rw [zu_j _ _ _ _ _ (fun z => n ⟨rfl, Or.inr z.symm⟩), zu_j _ _ _ _ _ (fun z => n ⟨rfl, Or.inl z.symm⟩)]
        exact g.1 _ j n
      · rw [zu_n _ _ _ ca, zu_n _ _ _ ca]
        exact g.1 a j n
    · rw [C1, zu_j _ _ _ _ _ (by decide), zu_s]
    · rw [C1, zu_s]
  have T : ∀ i, i < 22 → zT L1 kd1 (q i) (qK i) := by rw [hq0]; exact qOf.t hL hV d2 tr hk
  have W0 : ∀ i, i < 22 → (i = 3 ∨ i = 4 ∨ (10 ≤ i ∧ i ≤ 15) ∨ 19 ≤ i) → w.1 (q i) = s0.1 (q i) := fun i hi n => funext (fun j => C2 _ j (by
    have ki := (T i hi).2
    unfold zKs
    rw [ki]
    rcases (show i = 3 ∨ i = 4 ∨ i = 10 ∨ i = 11 ∨ i = 12 ∨ i = 13 ∨ i = 14 ∨ i = 15 ∨ i = 19 ∨ i = 20 ∨ i = 21 by omega) with rfl | rfl | rfl | rfl | rfl | rfl | rfl | rfl | rfl | rfl | rfl <;> decide))
  have W1 : ∀ i, (i = 3 ∨ (10 ≤ i ∧ i ≤ 15)) → w.1 (q i) = σ1.1 (q i) := fun i n => (W0 i (by omega) (by omega)).trans (he _ _ (T i (by omega)) (by
    rcases (show i = 3 ∨ i = 10 ∨ i = 11 ∨ i = 12 ∨ i = 13 ∨ i = 14 ∨ i = 15 by omega) with rfl | rfl | rfl | rfl | rfl | rfl | rfl <;> decide))
  have e3 : q 3 = td' := by rw [hq0]; rfl
  have e4 : q 4 = V.1 k := by rw [hq0]; rfl
  have e19 : q 19 = V.2.1 k := by rw [hq0]; rfl
  have e20 : q 20 = V.2.2.1 k := by rw [hq0]; rfl
  have e21 : q 21 = V.2.2.2 k := by rw [hq0]; rfl
  have eT : ∀ i j, (i = 10 ∧ j = 3) ∨ (i = 11 ∧ j = 4) ∨ (i = 12 ∧ j = 5) ∨ (i = 13 ∧ j = 6) ∨ (i = 14 ∧ j = 7) ∨ (i = 15 ∧ j = 9) → q i = (σ1.2.2 td' j).getD 0 := fun i j hij => by
    rw [hq0]
    rcases hij with ⟨rfl, rfl⟩ | ⟨rfl, rfl⟩ | ⟨rfl, rfl⟩ | ⟨rfl, rfl⟩ | ⟨rfl, rfl⟩ | ⟨rfl, rfl⟩ <;> rfl
  have e16 : q 16 = (σ1.2.2 sh 2).getD 0 := by rw [hq0]; rfl
  have e17 : q 17 = (σ1.2.2 sh 3).getD 0 := by rw [hq0]; rfl
  have e18 : q 18 = (σ1.2.2 sh 4).getD 0 := by rw [hq0]; rfl
  have e1q : q 1 = sh := by rw [hq0]; rfl
  obtain ⟨c1, c2, c3, c4⟩ := id C3
  have hY : zYm (mR σ2 m0) m0 σ2.2.2 := zYm.of hJ hm
  have hY' : zYm (mR σ2 m0) m0 t.2.2 := by rw [m1]; exact hY
  have f18 : t.1 m0 18 = σ2.1 m0 18 := zFm.fld hJ hm m5 (j := 18) (by rfl) (by rfl)
  have rows : ∀ j, (j = 21 ∨ (23 ≤ j ∧ j ≤ 31) ∨ (33 ≤ j ∧ j ≤ 37) ∨ j = 39 ∨ j = 40) → t.1 (mR σ2 m0 j) = σ2.1 (mR σ2 m0 j) := fun j hj => by
    refine zFm.row hJ hm m5 (zYj_k (by unfold zYj; omega)).1 (by rfl) ?_
    rcases (show j = 21 ∨ j = 23 ∨ j = 24 ∨ j = 25 ∨ j = 26 ∨ j = 27 ∨ j = 28 ∨ j = 29 ∨ j = 30 ∨ j = 31 ∨ j = 33 ∨ j = 34 ∨ j = 35 ∨ j = 36 ∨ j = 37 ∨ j = 39 ∨ j = 40 by omega) with rfl | rfl | rfl | rfl | rfl | rfl | rfl | rfl | rfl | rfl | rfl | rfl | rfl | rfl | rfl | rfl | rfl <;> rfl
  have L5 : 0 < N' → zL5 q w gl := fun hN => by
   obtain ⟨⟨w3, w3'⟩, w4, -⟩ := hw' hN
   exact ⟨K, by rw [W1 3 (by omega), e3]; exact w3, w3', fun v hv => by
    rw [eT 13 6 (by omega), eT 14 7 (by omega), eT 15 9 (by omega)]
    exact (w4 v hv).1.cg (by rw [← eT 13 6 (by omega)]; exact W1 13 (by omega)) (by rw [← eT 14 7 (by omega)]; exact W1 14 (by omega)) (by rw [← eT 15 9 (by omega)]; exact W1 15 (by omega))⟩
  have W5 : 0 < N' → zW5 (mR σ2 m0) B t gl := fun hN v hv => by
   obtain ⟨-, w4, -⟩ := hw' hN
   exact ⟨(w4 v hv).2.cg (Nat.le_refl _) (Nat.le_refl _) (fun i _ _ => ⟨by rw [rows 39 (by omega)], by rw [rows 40 (by omega)]⟩) (fun j i j1 j2 _ _ => by rw [rows j (by omega)]) (by rw [rows 30 (by omega)]) (by rw [rows 31 (by omega)]), (w4 v hv).1.1⟩
  have S : zSd q (mR σ2 m0) m0 B N' gl u l w t := by
    refine ⟨⟨QR, L5, by rw [e1q]; exact c1, n1, n4, fun c c1 c2 => by rw [W0 19 (by decide) (by omega), e19]; exact hu c c1 c2, by rw [e16]; exact c2.p, fun x => ?_⟩, ⟨hY', by rw [f18]; exact hB, hB1, W5, by rw [mMany_g hJ hm m5 (by rfl) (by rfl) (by rfl)]; exact n2, fun c c1 c2 => by rw [m4 c (by omega)]; exact (hb c c1 c2).2, fun c hc => ?_, fun x => mIsU hM hJ hm n2 n1⟩, fun p hp => ⟨?_, ?_, ?_, ?_, ?_⟩, fun c c1 c2 => ?_, ?_⟩
    · rw [e1q]
      exact (cIsS C3 (by
        have := QR.1.2.2.2.1.2.2
        rw [e1q, e18] at this
        exact this)).2
    · rw [(m3 c hc).2]
      have a := sr_d n4 n1 S0 hS c hc
      have b := (dep_b n4 c hc).1
      omega
    · rw [W1 11 (by omega), eT 11 4 (by omega), rows 24 (by omega)]
      exact w5 4 p (by decide) (by decide) (by omega)
    · rw [e17, c2.2.1 p hp, (m3 p hp).1]
    · rw [W1 12 (by omega), eT 12 5 (by omega), rows 25 (by omega)]
      exact w5 5 p (by decide) (by decide) (by omega)
    · rw [W1 10 (by omega), eT 10 3 (by omega), rows 23 (by omega)]
      exact w5 3 p (by decide) (by decide) (by omega)
    · have a := c3 p hp
      rw [← e18] at a
      have b : (F_X11_bits (t.1 (mR σ2 m0 54) p)).toInt = cnt (fun j => An u p j) N' := by
        rw [bitM, cnt_ext (N := N') 12 n1 (fun j j1 j2 z => by
          have := ((m2 p j hp (by omega)).mp z).1
          omega)]
        exact congrArg _ (cnt_cg N' (fun j hj => ⟨fun z => ((m2 p j hp (by omega)).mp z).2, fun z => (m2 p j hp (by omega)).mpr ⟨hj, z⟩⟩))
      have cl := cnt_le (P := fun j => An u p j) N'
      have c0 : 0 < cnt (fun j => An u p j) N' := cnt_p N' hp An_rf
      have o1 : (1 : Int32).toInt = 1 := by decide
      refine Int32.toInt_inj.mp ?_
      rw [zb_sub (by rw [o1]; omega) (by rw [o1]; omega), o1]
      omega
    · have np := pI_b c (by omega)
      have ed : w.1 (q 4) 3 = (zcc V σ1.1 0).2.2.2.1 := by rw [W0 4 (by decide) (by omega), e4, hcD]; rfl
      unfold dmC dmM
      rw [cHas np.1 (by omega), ed, m4 (12 + c) (by omega), hrk (12 + c) (by omega) (by omega), ← rc (12 + c) (by omega)]
      rcases Qk.1.2.1 c c1 c2 with ⟨z1, z2⟩ | ⟨z1, z2⟩
      · rw [z2, z1]
        decide
      · rw [z2, z1]
        decide
    · intro hN
      obtain ⟨-, -, -, w6, -⟩ := hw' hN
      rw [W1 3 (by omega), e3, rows 28 (by omega)]
      exact w6 2 (by decide)
  -- the flows as copies leave them
  obtain ⟨y, hy⟩ : ∃ y, y = ρ := ⟨_, rfl⟩
  obtain ⟨t', ht'⟩ : ∃ t', t' = F_X11_fillsWays m0 y := ⟨_, rfl⟩
  have tE : t = F_X11_fillsFlows m0 0 t' := by rw [ht0, ht', hy]
  have yr : y.2.2 = σ2.2.2 := by rw [hy, h2]
  have gw : zFr (fun c _ => c = mR σ2 m0 54 ∨ c = mR σ2 m0 52 ∨ c = mR σ2 m0 53) y t' := by rw [ht']; exact fr_X11_fillsWays zFr.id (fun _ => Or.inl (by rw [yr])) (fun _ => Or.inr (Or.inl (by rw [yr]))) (fun _ => Or.inr (Or.inr (by rw [yr])))
  have t'r : t'.2.2 = σ2.2.2 := gw.rf.trans yr
  have gf : zFr (zVw (mR σ2 m0) m0) t' t := by rw [tE]; exact fr_X11_fillsFlows zFr.id (fun _ => Or.inr (Or.inl (by rw [t'r]))) (Or.inr (Or.inr (Or.inr ⟨rfl, rfl⟩))) (fun _ => Or.inr (Or.inr (Or.inl (by rw [t'r])))) (fun _ => Or.inl (by rw [t'r]))
  have hY2 : zYm (mR σ2 m0) m0 t'.2.2 := by rw [t'r]; exact hY
  have S' : zSd q (mR σ2 m0) m0 B N' gl u l w t' := S.fr zFr.id (zVw.up gf.sy)
  refine ⟨td', B, gl, u, l, q, mR σ2 m0, w, t, ⟨hq0, rfl, hw0, ht0⟩, d1, S, fun i hi => W0 i (by omega) (by omega), m4, m5, fun Dn p hp => ?_⟩
  have Dn' : zDn q (mR σ2 m0) N' w t' := Dn.up2 hY' gf.sy
  have FL := (S'.fall Dn' (m := 0) (by decide) zFr.id zFr.id).2.2.1
  have := FL p hp
  rw [← tE] at this
  exact this
end STANDU
