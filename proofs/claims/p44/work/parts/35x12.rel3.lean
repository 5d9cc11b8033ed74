/-! DEEDS ON BOTH SIDES -/
theorem cWithin (x a b : Int32) : ((F_X10_isWithin x a b).toInt = 0) = ¬ (a.toInt ≤ x.toInt ∧ x.toInt ≤ b.toInt) := zwi x a b
theorem mIn (x a b : Int32) : ((F_X11_in x a b).toInt = 0) = ¬ (a.toInt ≤ x.toInt ∧ x.toInt ≤ b.toInt) := by
  unfold F_X11_in
  simp only [zlt]
  by_cases h1 : x.toInt < a.toInt
  · rw [if_pos h1]
    exact propext ⟨fun _ h => by omega, fun _ => by decide⟩
  · rw [if_neg h1]
    by_cases h2 : b.toInt < x.toInt
    · rw [if_pos h2]
      exact propext ⟨fun _ h => by omega, fun _ => by decide⟩
    · rw [if_neg h2]
      exact propext ⟨fun h => absurd h (by decide), fun h => absurd (by omega) h⟩
theorem cLaw {x0 : Nat} {p : Int32} {σ : zS} : F_X10_isLaw x0 p σ = (F_X10_isWithin p 0 2, σ) := by
  unfold F_X10_isLaw
  simp only [zlt]
theorem cPlace {x0 : Nat} {p : Int32} {σ : zS} : F_X10_isPlace x0 p σ = (F_X10_isWithin p 0 (σ.1 ((σ.2.2 x0 10).getD 0) 0 - 1), σ) := by
  unfold F_X10_isPlace
  simp only [zlt]
theorem mLaw {p : Int32} : F_X11_isLaw p = F_X11_in p 0 2 := by
  unfold F_X11_isLaw
  simp only [zlt]
theorem mPlc {m0 : Nat} {p : Int32} {σ : zS} : F_X11_isPlace m0 p σ = F_X11_in p 0 (F_X11_many m0 σ - 1) := by
  unfold F_X11_isPlace
  simp only [zlt]
theorem mBeside {m0 : Nat} {p : Int32} {σ : zS} : F_X11_isBeside m0 p σ = F_X11_in p 1 (F_X11_many m0 σ - 1) := by
  unfold F_X11_isBeside
  simp only [zlt]
theorem mMany {m0 : Nat} {σ : zS} : (F_X11_many m0 σ).toInt = zM m0 σ := by
  unfold F_X11_many zM zp
  simp only [zlt]
  rfl
/-- a bit of a number of bits -/
theorem bt_bit {p : Int32} {k i : Nat} (hp : p.toInt = k) (hk : k < 32) (hi : i < 32) : bt (F_X10_bit p) i = decide (i = k) := by
  obtain ⟨n, n1, n2, n3⟩ := zq_n (x := p) (by omega) (by omega)
  have e : n = k := by omega
  subst e
  unfold F_X10_bit
  simp only [zlt]
  rw [n2, b_shl n n1 1 hi, b_one _ (by omega)]
  by_cases c : i = n
  · subst c; simp
  · by_cases c2 : n ≤ i
    · have : i - n ≠ 0 := by omega
      simp [c, this]
    · simp [c, c2]
theorem b_xor (x y : Int32) (i : Nat) : bt (x ^^^ y) i = (bt x i ^^ bt y i) := by unfold bt; rw [Int32.toBitVec_xor, BitVec.getLsbD_xor]
theorem cHas {x p : Int32} {k : Nat} (hp : p.toInt = k) (hk : k < 32) : (F_X10_has x p).toInt = if bt x k = true then 1 else 0 := by
  unfold F_X10_has
  simp only [zlt]
  have key : (x &&& F_X10_bit p).toInt = 0 ↔ bt x k = false := by
    constructor
    · intro h
      have h0 : x &&& F_X10_bit p = 0 := Int32.toInt_inj.mp (h.trans (by decide))
      have q := b_and x (F_X10_bit p) k
      rw [h0, b_0, bt_bit hp hk hk] at q
      simpa using q.symm
    · intro h
      have h0 : x &&& F_X10_bit p = 0 := b_ext (fun i hi => by
        rw [b_and, b_0, bt_bit hp hk hi]
        by_cases c : i = k
        · subst c; rw [h]; rfl
        · simp [c])
      rw [h0]
      decide
  cases hb : bt x k with
  | false =>
    rw [if_pos (key.mpr hb)]
    exact (by decide : (0 : Int32).toInt = 0)
  | true =>
    rw [if_neg (fun z => by rw [key.mp z] at hb; cases hb)]
    exact (by decide : (1 : Int32).toInt = 1)
/-- what a relation of courses and rows must bear: deeds -/
def zGd (Q : Nat → zCo → (Nat → Int32) → Prop) : Prop := (∀ N c r, Q N c r → zQ0 N c r) ∧ (∀ N c r p, N ≤ 12 → Q N c r → Q N (c.1, c.2.1, c.2.2.1, c.2.2.2.1, c.2.2.2.2.1, p) (updR r 49 p)) ∧ (∀ N c r (k : Nat) (b : Int32), 1 ≤ k → k < N → N ≤ 12 → (∀ i, i < 32 → bt b i = decide (i = k)) → Q N c r → Q N (c.1, c.2.1, c.2.2.1, c.2.2.2.1 ^^^ b, c.2.2.2.2.1, c.2.2.2.2.2) (updR r (12 + k) (if bt c.2.2.2.1 k = true then 0 else 1))) ∧ ∀ N c r (k : Nat) (v : Int32), 1 ≤ k → k < N → N ≤ 12 → Q N c r → Q N (updR c.1 k v, c.2.1, c.2.2.1, c.2.2.2.1, c.2.2.2.2.1, c.2.2.2.2.2) (updR r k v)
theorem zGd.q0 : zGd zQ0 := by
  refine ⟨fun _ _ _ h => h, fun N c r p h12 h => ?_, fun N c r k b h1 h2 h12 hb h => ?_, fun N c r k v h1 h2 h12 h => ?_⟩
  · obtain ⟨a1, a2, a3, a4⟩ := h
    have u : ∀ j, j ≠ 49 → updR r 49 p j = r j := fun j hj => if_neg hj
    exact ⟨fun q q1 q2 => (a1 q q1 q2).trans (u q (by omega)).symm, fun q q1 q2 => by rw [u (12 + q) (by omega)]; exact a2 q q1 q2, a3.trans (u 48 (by omega)).symm, (if_pos rfl).symm⟩
  · obtain ⟨a1, a2, a3, a4⟩ := h
    have u : ∀ j v, j ≠ 12 + k → updR r (12 + k) v j = r j := fun j v hj => if_neg hj
    have us : ∀ v, updR r (12 + k) v (12 + k) = v := fun v => if_pos rfl
    refine ⟨fun p q1 q2 => (a1 p q1 q2).trans (u p _ (by omega)).symm, fun p q1 q2 => ?_, a3.trans (u 48 _ (by omega)).symm, a4.trans (u 49 _ (by omega)).symm⟩
    show (bt (c.2.2.2.1 ^^^ b) p = true ∧ _) ∨ (bt (c.2.2.2.1 ^^^ b) p = false ∧ _)
    rw [b_xor, hb p (by omega)]
    by_cases e : p = k
    · subst e
      rw [us]
      cases bt c.2.2.2.1 p with
      | true => exact Or.inr ⟨by simp, rfl⟩
      | false => exact Or.inl ⟨by simp, rfl⟩
    · rw [u (12 + p) _ (by omega)]
      rcases a2 p q1 q2 with ⟨z1, z2⟩ | ⟨z1, z2⟩
      · exact Or.inl ⟨by rw [z1]; simp [e], z2⟩
      · exact Or.inr ⟨by rw [z1]; simp [e], z2⟩
  · obtain ⟨a1, a2, a3, a4⟩ := h
    have u : ∀ j, j ≠ k → updR r k v j = r j := fun j hj => if_neg hj
    refine ⟨fun p q1 q2 => ?_, fun p q1 q2 => ?_, a3.trans (u 48 (by omega)).symm, a4.trans (u 49 (by omega)).symm⟩
    · show updR c.1 k v p = updR r k v p
      unfold updR
      by_cases e : p = k
      · rw [if_pos e, if_pos e]
      · rw [if_neg e, if_neg e]; exact a1 p q1 q2
    · rw [u (12 + p) (by omega)]
      exact a2 p q1 q2
section ZREL3
variable {κ k : Int} {L1 : List Nat} {kd1 : Nat → Nat} {L2 : List Nat} {kd2 : Nat → Nat} {σ1 σ2 τ1 τ2 : zS} {m0 x0 : Nat} {Q : Nat → zCo → (Nat → Int32) → Prop} {V : zWh} {ps pc sl rv sh cd : Nat}
/-- a number of now's own, or of its tree, written behind a push -/
theorem zRL.act1 (h : zRL Q L1 kd1 x0 m0 V ps pc sl rv sh cd σ1 σ2) (hx : zT L1 kd1 x0 10) (hI : zI κ 0 L1 kd1 σ1) {c j : Nat} {v : Int32} (hcj : c = V.1 0 ∨ c = V.2.1 0) (e1 : τ1 = (zu (F_X4_push ps (V.1 0) σ1).1 c j v, (F_X4_push ps (V.1 0) σ1).2)) {now' : Nat → Int32} (hD : ∀ u : Nat, (σ2.1 m0 57).toInt = u → u ≤ 40 → zDone σ2 m0 u now' τ2) (hQ : ∀ N : Nat, zM m0 σ2 = N → N ≤ 12 → Q N (zcc V σ1.1 0) (rC σ2.1 (mR σ2 m0 48) 0) → ∀ f : Nat → Nat → Int32, zcc V f 0 = zcc V σ1.1 0 → Q N (zcc V (zu f c j v) 0) now') : zRL Q L1 kd1 x0 m0 V ps pc sl rv sh cd τ1 τ2 := by
  obtain ⟨hL, hV, N, n, u, ⟨a1, a2, a3, a4, a5, a6, a7, a8, a9⟩, hq, hu, hh⟩ := id h
  obtain ⟨σ', e', p2, p3, p4, p5, p6, p7⟩ := zPush hL (k := 0) (by decide) a4 a5 a6 a7
  obtain ⟨⟨tA, tI, tW, tM⟩, -⟩ := hL.2.2.2.1 0 (by decide)
  have tp : zT L1 kd1 ps 4 := hL.2.2.2.2.2.2.1
  have o : ∀ a, a ≠ c → τ1.1 a = (F_X4_push ps (V.1 0) σ1).1 a := fun a ha => by rw [e1]; exact zu_n _ _ _ ha
  have nk : ∀ {a ka : Nat}, zT L1 kd1 a ka → ka ≠ 1 → ka ≠ 22 → a ≠ c := fun ha h1 h2 z => by
    rcases hcj with q | q
    · exact zNk ha tA h1 (z.trans q)
    · exact zNk ha tI h2 (z.trans q)
  refine h.act hx hI (fun a ha _ => ?_) (fun a ha _ j _ _ => ?_) (fun a ha hk => ?_) (o ps (nk tp (by decide) (by decide))) (fun k hk h0 _ => ?_) hD (fun N' b1 b2 b3 b4 => ?_)
  · rw [e1, e', p2]
  · rw [e1, e', p2]
  · rw [o a (nk ⟨ha, rfl⟩ (by omega) (by omega)), e']
    exact p7 a ha (by
      intro z
      simp only [List.mem_cons, List.not_mem_nil, or_false] at z
      omega)
  · obtain ⟨⟨uA, uI, uW, uM⟩, -⟩ := hL.2.2.2.1 k hk
    have hi := hL.2.2.2.2.1 k 0 hk (by decide)
    refine zcc.st (o _ (fun z => ?_)) (o _ (fun z => ?_)) (o _ (nk uW (by decide) (by decide))) (o _ (nk uM (by decide) (by decide)))
    · rcases hcj with q | q
      · exact h0 (hi (Or.inl (z.trans q)))
      · exact zNk uA tI (by decide) (z.trans q)
    · rcases hcj with q | q
      · exact zNk uI tA (by decide) (z.trans q)
      · exact h0 (hi (Or.inr (Or.inl (z.trans q))))
  · have q0 : zcc V σ'.1 0 = zcc V σ1.1 0 := p4 0 (by decide) (by omega)
    rw [e1, e']
    exact hQ N' b2 b3 b4 σ'.1 q0
theorem zcc_a {f : Nat → Nat → Int32} {p : Int32} (hL : zLay L1 kd1 x0 σ1.2.2 V ps pc sl) : zcc V (zu f (V.1 0) 5 p) 0 = ((zcc V f 0).1, (zcc V f 0).2.1, (zcc V f 0).2.2.1, (zcc V f 0).2.2.2.1, (zcc V f 0).2.2.2.2.1, p) ∧ zcc V (zu f (V.1 0) 3 p) 0 = ((zcc V f 0).1, (zcc V f 0).2.1, (zcc V f 0).2.2.1, p, (zcc V f 0).2.2.2.2.1, (zcc V f 0).2.2.2.2.2) := by
  obtain ⟨⟨tA, tI, tW, tM⟩, -⟩ := hL.2.2.2.1 0 (by decide)
  unfold zcc
  constructor
  · rw [zu_n _ _ _ (zNk tI tA (by decide)), zu_n _ _ _ (zNk tW tA (by decide)), zu_n _ _ _ (zNk tM tA (by decide)), zu_s, zu_j _ _ _ _ _ (by decide), zu_j _ _ _ _ _ (by decide)]
  · rw [zu_n _ _ _ (zNk tI tA (by decide)), zu_n _ _ _ (zNk tW tA (by decide)), zu_n _ _ _ (zNk tM tA (by decide)), zu_s, zu_j _ _ _ _ _ (by decide), zu_j _ _ _ _ _ (by decide)]
theorem zcc_i {f : Nat → Nat → Int32} {k : Nat} {p : Int32} (hL : zLay L1 kd1 x0 σ1.2.2 V ps pc sl) (hk : k < 12) : zcc V (zu f (V.2.1 0) k p) 0 = (updR (zcc V f 0).1 k p, (zcc V f 0).2.1, (zcc V f 0).2.2.1, (zcc V f 0).2.2.2.1, (zcc V f 0).2.2.2.2.1, (zcc V f 0).2.2.2.2.2) := by
  obtain ⟨⟨tA, tI, tW, tM⟩, -⟩ := hL.2.2.2.1 0 (by decide)
  have e : zt12 (zu f (V.2.1 0) k p (V.2.1 0)) = updR (zt12 (f (V.2.1 0))) k p := by
    funext j
    unfold zt12 updR
    by_cases c : j = k
    · subst c
      rw [if_pos hk, if_pos rfl, zu_s]
    · rw [zu_j _ _ _ _ _ (fun z => c z.symm), if_neg c]
  unfold zcc
  rw [e, zu_n _ _ _ (zNk tW tI (by decide)), zu_n _ _ _ (zNk tM tI (by decide)), zu_n _ _ _ (zNk tA tI (by decide))]
/-- now's own row and numbers, by the reference's -/
theorem zRL.rule {v1 v2 p : Int32} (hG : zGd Q) (h : zRL Q L1 kd1 x0 m0 V ps pc sl rv sh cd σ1 σ2) (hx : zT L1 kd1 x0 10) (hI : zI κ 0 L1 kd1 σ1) (hJ : zJ κ L2 kd2 σ2) (hm : zT L2 kd2 m0 11) (f1 : (v1, τ1) = F_X10_rule x0 p σ1) (f2 : (v2, τ2) = F_X11_rule m0 p σ2) : v1.toInt = v2.toInt ∧ zRL Q L1 kd1 x0 m0 V ps pc sl rv sh cd τ1 τ2 := by
  obtain ⟨hL, hV, N, n, u, ⟨a1, a2, a3, a4, a5, a6, a7, a8, a9⟩, hq, hu, hh⟩ := id h
  have q0 := hG.1 N _ _ hq
  have e0 : (0 : Int32).toInt = 0 := by decide
  have e1 : (1 : Int32).toInt = 1 := by decide
  have e2 : (2 : Int32).toInt = 2 := by decide
  have e49 : (49 : Int32).toInt = (49 : Nat) := by decide
  have n49 : (49 : Int32).toNatClampNeg = 49 := by decide
  have g6 : (σ1.2.2 x0 6).getD 0 = V.1 0 := xnw hL
  have g4 : (σ1.2.2 x0 4).getD 0 = ps := by rw [hL.1.2.2.2.1]; rfl
  have er : σ1.1 (V.1 0) 5 = σ2.1 (mR σ2 m0 48) 49 := by
    have := q0.2.2.2
    rw [rC_i (by decide), Nat.zero_add] at this
    exact this
  unfold F_X10_rule at f1
  unfold F_X11_rule at f2
  simp only [zlt, zlt2, cLaw, mLaw, cWithin, mIn, e0, e2, g6, g4, n49] at f1 f2
  by_cases c : 0 ≤ p.toInt ∧ p.toInt ≤ 2
  · rw [if_neg (fun z => z c)] at f1 f2
    by_cases c2 : (σ1.1 (V.1 0) 5).toInt = p.toInt
    · rw [if_pos c2] at f1
      rw [if_pos (show (σ2.1 ((σ2.2.2 m0 48).getD 0) 49).toInt = p.toInt by rw [← er]; exact c2)] at f2
      cases f1
      cases f2
      exact ⟨rfl, h⟩
    · rw [if_neg c2] at f1
      rw [if_neg (show ¬ (σ2.1 ((σ2.2.2 m0 48).getD 0) 49).toInt = p.toInt from fun z => c2 (by rw [er]; exact z))] at f2
      obtain ⟨s, e', p2, -⟩ := zPush hL (k := 0) (by decide) a4 a5 a6 a7
      have g6' : ((F_X4_push ps (V.1 0) σ1).2.2 x0 6).getD 0 = V.1 0 := by rw [e', p2]; exact g6
      rw [g6'] at f1
      have t1 : τ1 = (zu (F_X4_push ps (V.1 0) σ1).1 (V.1 0) 5 p, (F_X4_push ps (V.1 0) σ1).2) := congrArg Prod.snd f1
      have t2 : τ2 = F_X11_does m0 49 p σ2 := congrArg Prod.snd f2
      refine ⟨by rw [show v1 = 1 from congrArg Prod.fst f1, show v2 = 1 from congrArg Prod.fst f2], h.act1 hx hI (Or.inl rfl) t1 (fun u' b1 b2 => by rw [t2]; exact zDoes hJ hm b1 b2 e49 (by decide)) (fun N' b1 b2 b3 f hf => ?_)⟩
      rw [(zcc_a hL).1, hf]
      exact hG.2.1 N' _ _ p b2 b3
  · rw [if_pos c] at f1 f2
    cases f1
    cases f2
    exact ⟨rfl, h⟩
/-- a place other than the mouth, told alike on both sides -/
theorem zN1 {x : Int32} {N : Nat} (h : x.toInt = N) (h12 : N ≤ 12) : (x - 1 : Int32).toInt = (N : Int) - 1 := by
  have e1 : (1 : Int32).toInt = 1 := by decide
  rw [zb_sub (by rw [h, e1]; omega) (by rw [h, e1]; omega), h, e1]
theorem zRL.dam {v1 v2 p q : Int32} (hG : zGd Q) (h : zRL Q L1 kd1 x0 m0 V ps pc sl rv sh cd σ1 σ2) (hx : zT L1 kd1 x0 10) (hI : zI κ 0 L1 kd1 σ1) (hJ : zJ κ L2 kd2 σ2) (hm : zT L2 kd2 m0 11) (hq01 : q.toInt = 0 ∨ q.toInt = 1) (f1 : (v1, τ1) = F_X10_dam x0 p q σ1) (f2 : (v2, τ2) = F_X11_dam m0 p q σ2) : v1.toInt = v2.toInt ∧ zRL Q L1 kd1 x0 m0 V ps pc sl rv sh cd τ1 τ2 := by
  obtain ⟨hL, hV, N, n, u, ⟨a1, a2, a3, a4, a5, a6, a7, a8, a9⟩, hq, hu, hh⟩ := id h
  have q0 := hG.1 N _ _ hq
  have e0 : (0 : Int32).toInt = 0 := by decide
  have e1 : (1 : Int32).toInt = 1 := by decide
  have e12 : (12 : Int32).toInt = 12 := by decide
  have g6 : (σ1.2.2 x0 6).getD 0 = V.1 0 := xnw hL
  have g4 : (σ1.2.2 x0 4).getD 0 = ps := by rw [hL.1.2.2.2.1]; rfl
  have k1 := zN1 a1 a3
  have k2 := zN1 (x := F_X11_many m0 σ2) (mMany.trans a2) a3
  unfold F_X10_dam at f1
  unfold F_X11_dam at f2
  simp only [zlt, zlt2, cPlace, mBeside, cWithin, mIn, e0, e1, g6, g4, k1, k2] at f1 f2
  by_cases c0 : p.toInt = 0
  · rw [if_pos c0] at f1
    rw [if_pos (by omega)] at f2
    cases f1
    cases f2
    exact ⟨rfl, h⟩
  rw [if_neg c0] at f1
  by_cases c : 0 ≤ p.toInt ∧ p.toInt ≤ (N : Int) - 1
  · rw [if_neg (fun z => z c)] at f1
    rw [if_neg (by omega)] at f2
    obtain ⟨k, hk⟩ : ∃ k : Nat, p.toInt = k := ⟨p.toInt.toNat, by omega⟩
    have hb := cHas (x := σ1.1 (V.1 0) 3) hk (by omega)
    have e12k : ((12 : Int32) + p).toInt = (12 + k : Nat) := by rw [zb_add (by rw [e12, hk]; omega) (by rw [e12, hk]; omega), e12, hk]; rfl
    have n12k : ((12 : Int32) + p).toNatClampNeg = 12 + k := by rw [ztn, e12k]; rfl
    rw [n12k] at f2
    have er : ∀ v, rC σ2.1 (mR σ2 m0 48) 0 (12 + k) = v → σ2.1 ((σ2.2.2 m0 48).getD 0) (12 + k) = v := fun v z => by
      rw [rC_i (by omega), Nat.zero_add] at z
      exact z
    have deed : ∀ v : Int32, (if bt (σ1.1 (V.1 0) 3) k = true then (0 : Int32) else 1) = v → (v1, τ1) = (1, zu (F_X4_push ps (V.1 0) σ1).1 (((F_X4_push ps (V.1 0) σ1).2.2 x0 6).getD 0) 3 ((F_X4_push ps (V.1 0) σ1).1 (((F_X4_push ps (V.1 0) σ1).2.2 x0 6).getD 0) 3 ^^^ F_X10_bit p), (F_X4_push ps (V.1 0) σ1).2.1, (F_X4_push ps (V.1 0) σ1).2.2) → (v2, τ2) = (1, F_X11_does m0 (12 + p) v σ2) → v1.toInt = v2.toInt ∧ zRL Q L1 kd1 x0 m0 V ps pc sl rv sh cd τ1 τ2 := fun v hv f1 f2 => by
      obtain ⟨s, e', p2, p3, p4, -⟩ := zPush hL (k := 0) (by decide) a4 a5 a6 a7
      have g6' : ((F_X4_push ps (V.1 0) σ1).2.2 x0 6).getD 0 = V.1 0 := by rw [e', p2]; exact g6
      rw [g6'] at f1
      have pd : (F_X4_push ps (V.1 0) σ1).1 (V.1 0) 3 = σ1.1 (V.1 0) 3 := by
        have := congrArg (fun c : zCo => c.2.2.2.1) (p4 0 (by decide) (by omega))
        rw [e']
        exact this
      rw [pd] at f1
      have t1 : τ1 = (zu (F_X4_push ps (V.1 0) σ1).1 (V.1 0) 3 (σ1.1 (V.1 0) 3 ^^^ F_X10_bit p), (F_X4_push ps (V.1 0) σ1).2) := congrArg Prod.snd f1
      have t2 : τ2 = F_X11_does m0 (12 + p) v σ2 := congrArg Prod.snd f2
      refine ⟨by rw [show v1 = 1 from congrArg Prod.fst f1, show v2 = 1 from congrArg Prod.fst f2], h.act1 hx hI (Or.inl rfl) t1 (fun u' b1 b2 => by rw [t2]; exact zDoes hJ hm b1 b2 e12k (by omega)) (fun N' b1 b2 b3 f hf => ?_)⟩
      have eN : N' = N := by omega
      subst eN
      rw [(zcc_a hL).2, hf, ← hv]
      exact hG.2.2.1 N' _ _ k (F_X10_bit p) (by omega) (by omega) b2 (fun i hi => bt_bit hk (by omega) hi) b3
    rcases q0.2.1 k (by omega) (by omega) with ⟨z1, z2⟩ | ⟨z1, z2⟩
    · have z1' : bt (σ1.1 (V.1 0) 3) k = true := z1
      rw [er 1 z2] at f2
      rw [hb, if_pos z1'] at f1
      rw [if_pos e1] at f2
      by_cases cq : q.toInt = 1
      · rw [if_pos cq.symm] at f1 f2
        cases f1
        cases f2
        exact ⟨rfl, h⟩
      · rw [if_neg (fun z => cq z.symm)] at f1 f2
        rw [if_pos (by omega)] at f2
        exact deed 0 (if_pos z1') f1 f2
    · have z1' : ¬ bt (σ1.1 (V.1 0) 3) k = true := fun w => by rw [show bt (σ1.1 (V.1 0) 3) k = false from z1] at w; cases w
      rw [er 0 z2] at f2
      rw [hb, if_neg z1'] at f1
      rw [if_neg (by rw [e0]; decide)] at f2
      by_cases cq : q.toInt = 0
      · rw [if_pos cq.symm] at f1 f2
        cases f1
        cases f2
        exact ⟨rfl, h⟩
      · rw [if_neg (fun z => cq z.symm)] at f1 f2
        rw [if_neg cq] at f2
        exact deed 1 (if_neg z1') f1 f2
  · rw [if_pos c] at f1
    rw [if_pos (by omega)] at f2
    cases f1
    cases f2
    exact ⟨rfl, h⟩
end ZREL3
