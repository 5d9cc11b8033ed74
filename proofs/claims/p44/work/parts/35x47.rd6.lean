/-! THE CLASS READS: what is left -/
/-- the two texts: told, spare; their rows apart -/
def zTt (x0 : Nat) (R : Nat → Nat → Option Nat) (td tt : Nat) : Prop := R x0 10 = some td ∧ R x0 11 = some tt ∧ td ≠ tt ∧ ∀ j, 1 ≤ j → j ≤ 9 → j ≠ 8 → (R td j).getD 0 ≠ (R tt j).getD 0
section CREAD
variable {κ k : Int} {L1 : List Nat} {kd1 : Nat → Nat} {σ1 τ1 : zS} {x0 : Nat} {V : zWh} {ps pc sl rv sh cd P tk kA vA qA tt td N m p1 : Nat} {p2 : Int32} {T : zTn} {C0 : zS}
theorem vEnd_r {P : Nat} {T : zTn} {R : Nat → Nat → Option Nat} : ∀ (l : Nat) (s : zA) (τ : zS), τ.2.2 = R → (vEnd P T l s τ).2.2 = R := by
  intro l
  induction l with
  | zero => intro s τ h; exact h
  | succ l ih =>
    intro s τ h
    rw [vEnd]
    split
    · exact h
    · split
      · exact h
      · exact ih _ _ (rf_X3_telling (R := R) h)
theorem zAc.kk {R : Nat → Nat → Option Nat} (hI : ∀ j, 2 ≤ j → j ≤ 9 → j ≠ 8 → 45 ≤ kd1 ((R tt j).getD 0) ∧ kd1 ((R tt j).getD 0) ≤ 51) (ht : kd1 tt = 9) {c : Nat} {j : Nat} (h : zAc L1 kd1 tt R c j) : kd1 c = 3 ∨ kd1 c = 8 ∨ kd1 c = 41 ∨ kd1 c = 43 ∨ (kd1 c = 9 ∧ c = tt) ∨ (45 ≤ kd1 c ∧ kd1 c ≤ 51) := by
  rcases h with ⟨-, h⟩ | h | ⟨i, i1, i2, i3, h⟩
  · omega
  · subst h; omega
  · subst h
    have := hI i i1 i2 i3
    omega
theorem zTt_k (hI1 : zI κ 0 L1 kd1 σ1) (s2 : zT L1 kd1 tt 9) : ∀ j, 2 ≤ j → j ≤ 9 → j ≠ 8 → zT L1 kd1 ((σ1.2.2 tt j).getD 0) (if j = 9 then 51 else 43 + j) := fun j j1 j2 j3 => by
  rcases (show j = 2 ∨ j = 3 ∨ j = 4 ∨ j = 5 ∨ j = 6 ∨ j = 7 ∨ j = 9 by omega) with z | z | z | z | z | z | z <;> subst z
  · obtain ⟨y, y1, y2⟩ := zi_ref (j := 2) (k2 := 45) hI1 s2 (by rfl)
    rw [y1]; exact y2
  · obtain ⟨y, y1, y2⟩ := zi_ref (j := 3) (k2 := 46) hI1 s2 (by rfl)
    rw [y1]; exact y2
  · obtain ⟨y, y1, y2⟩ := zi_ref (j := 4) (k2 := 47) hI1 s2 (by rfl)
    rw [y1]; exact y2
  · obtain ⟨y, y1, y2⟩ := zi_ref (j := 5) (k2 := 48) hI1 s2 (by rfl)
    rw [y1]; exact y2
  · obtain ⟨y, y1, y2⟩ := zi_ref (j := 6) (k2 := 49) hI1 s2 (by rfl)
    rw [y1]; exact y2
  · obtain ⟨y, y1, y2⟩ := zi_ref (j := 7) (k2 := 50) hI1 s2 (by rfl)
    rw [y1]; exact y2
  · obtain ⟨y, y1, y2⟩ := zi_ref (j := 9) (k2 := 51) hI1 s2 (by rfl)
    rw [y1]; exact y2
/-- the end of the tellings, by what it leaves -/
theorem vEnd_f (hI1 : zI κ 0 L1 kd1 σ1) (P2 : zT L1 kd1 P 3) (s2 : zT L1 kd1 tt 9) (er : C0.2.2 = zu σ1.2.2 P 1 (some tt)) (ef : ∀ c j, ¬ zAc L1 kd1 tt σ1.2.2 c j → C0.1 c j = σ1.1 c j) : ∀ (l : Nat) (s : zA), ∀ c j, ¬ zAc L1 kd1 tt σ1.2.2 c j → (vEnd P T l s C0).1 c j = σ1.1 c j := by
  have gt : (C0.2.2 P 1).getD 0 = tt := by rw [er, zu_s]; rfl
  have rt : ∀ j, C0.2.2 tt j = σ1.2.2 tt j := fun j => by rw [er, zu_n _ _ _ (zNk s2 P2 (by decide))]
  have key : ∀ (l : Nat) (s : zA) (τ : zS), zFi (zAc L1 kd1 tt σ1.2.2) C0 τ → zFi (zAc L1 kd1 tt σ1.2.2) C0 (vEnd P T l s τ) := by
    intro l
    induction l with
    | zero => intro s τ h; exact h
    | succ l ih =>
      intro s τ h
      rw [vEnd]
      split
      · exact h
      · split
        · exact h
        · have p : ∀ j, zAc L1 kd1 tt σ1.2.2 P j := fun j => Or.inl ⟨P2.1, Or.inl P2.2⟩
          have t : ∀ j, zAc L1 kd1 tt σ1.2.2 ((C0.2.2 P 1).getD 0) j := fun j => Or.inr (Or.inl gt)
          have r : ∀ i, 2 ≤ i → i ≤ 9 → i ≠ 8 → ∀ j, zAc L1 kd1 tt σ1.2.2 ((C0.2.2 ((C0.2.2 P 1).getD 0) i).getD 0) j := fun i i1 i2 i3 j => Or.inr (Or.inr ⟨i, i1, i2, i3, by rw [gt, rt]⟩)
          exact ih _ _ (fi_X3_telling h (p 2) (p 3) (p 5) (p 8) (p 9) (p 10) (p 11) (p 6) (r 2 (by decide) (by decide) (by decide)) (r 3 (by decide) (by decide) (by decide)) (r 4 (by decide) (by decide) (by decide)) (r 5 (by decide) (by decide) (by decide)) (p 7) (t 10) (t 11) (t 12) (t 13) (r 6 (by decide) (by decide) (by decide)) (r 7 (by decide) (by decide) (by decide)) (t 8) (r 9 (by decide) (by decide) (by decide)))
  exact fun l s c j n => ((key l s C0 zFi.id).2 c j n).trans (ef c j n)
set_option maxHeartbeats 1000000 in
theorem cRead (hL : zLay L1 kd1 x0 σ1.2.2 V ps pc sl) (hI1 : zI κ 0 L1 kd1 σ1) (hx0 : zT L1 kd1 x0 10) (hTt : zTt x0 σ1.2.2 td tt) (P1 : σ1.2.2 x0 1 = some P) (P2 : zT L1 kd1 P 3) (s2 : zT L1 kd1 tt 9) (hd : zVd P tk kA vA qA N) (hK : zTK T m) (v0 : zV P tk kA vA qA tt N m T C0 aZ) (e : zPs x0 σ1 = F_X3_parse_59 P p1 p2 tt 10000 0 C0) (er : C0.2.2 = zu σ1.2.2 P 1 (some tt)) (ef : ∀ c j, ¬ zAc L1 kd1 tt σ1.2.2 c j → C0.1 c j = σ1.1 c j) {v1 : Int32} (f1 : (v1, τ1) = F_X10_read x0 σ1) :
    v1.toInt = aAns (aRun T 500 aZ) ∧ (aAns (aRun T 500 aZ) ≠ 0 → τ1.2.2 = zu σ1.2.2 P 1 (some tt) ∧ ∀ c j, ¬ zAc L1 kd1 tt σ1.2.2 c j → ¬ (c = x0 ∧ j = 13) → kd1 c ≠ 7 → τ1.1 c j = σ1.1 c j) ∧
    (aAns (aRun T 500 aZ) = 0 → ((aRun T 500 aZ).1 = 0 ∧ (aRun T 500 aZ).2.2.2.1 = 0) ∧ τ1.2.2 = zu (zu (zu σ1.2.2 P 1 (some tt)) x0 11 (some td)) x0 10 (some tt) ∧ zcc V τ1.1 0 = (zt12 ((vEnd P T 500 aZ C0).1 ((σ1.2.2 tt 2).getD 0)), fun _ => 0, fun _ => 0, 0, 0, 0) ∧ (∀ k, k < 45 → k ≠ 0 → zcc V τ1.1 k = zcc V σ1.1 k) ∧ τ1.1 ps 1 = σ1.1 ps 1 ∧ τ1.1 ps 2 = 0 ∧ (∀ dy, σ1.2.2 x0 5 = some dy → τ1.1 dy 4 = 0) ∧ τ1.1 x0 12 = 0 ∧ (τ1.1 tt 0).toInt = (if (aRun T 500 aZ).2.2.2.2.2.1 = 0 then 0 else 1 + (aRun T 500 aZ).2.2.2.2.2.2.1) ∧ (∀ j, j ≠ 0 → τ1.1 tt j = (vEnd P T 500 aZ C0).1 tt j) ∧ (∀ j, 2 ≤ j → j ≤ 9 → j ≠ 8 → τ1.1 ((σ1.2.2 tt j).getD 0) = (vEnd P T 500 aZ C0).1 ((σ1.2.2 tt j).getD 0)) ∧ ∀ c, kd1 c = 25 ∨ kd1 c = 26 ∨ kd1 c = 27 ∨ kd1 c = 28 → τ1.1 c = σ1.1 c) := by
  obtain ⟨E, hE⟩ : ∃ E, E = vEnd P T 500 aZ C0 := ⟨_, rfl⟩
  obtain ⟨s, hs⟩ : ∃ s, s = aRun T 500 aZ := ⟨_, rfl⟩
  have fE := vEnd_f (T := T) hI1 P2 s2 er ef 500 aZ
  have rE := vEnd_r (P := P) (T := T) (R := zu σ1.2.2 P 1 (some tt)) 500 aZ C0 er
  obtain ⟨b, c, z, hr2, hz⟩ := vParseE (p1 := p1) (p2 := p2) (p3 := tt) hd hK 10000 0 0 C0 aZ (by decide) (by omega) (by omega) v0 (fun _ => Nat.zero_le _) 500 (by omega)
  have hr1 := (vParse (p1 := p1) (p2 := p2) (p3 := tt) hd hK 10000 0 0 C0 aZ (by decide) (by omega) (by omega) v0 (fun _ => Nat.zero_le _) 500 (by omega)).1
  rw [← hE] at fE rE hr2 ⊢
  rw [← hs] at hr1 hz ⊢
  rw [← e] at hr1 hr2
  obtain ⟨t, t1, t2⟩ := zi_ref (j := 0) (k2 := 7) hI1 hx0 (by rfl)
  obtain ⟨dy, y1, y2⟩ := zi_ref (j := 5) (k2 := 2) hI1 hx0 (by rfl)
  obtain ⟨q10, q11, qn, qr⟩ := hTt
  obtain ⟨F, hF⟩ : ∃ F, F = zu (zu (zu E.1 P 8 b) P 9 c) tt 0 z := ⟨_, rfl⟩
  rw [← hF] at hr2
  have xP : ¬ x0 = P := zNk hx0 P2 (by decide)
  have rx : ∀ j, E.2.2 x0 j = σ1.2.2 x0 j := fun j => by rw [rE, zu_n _ _ _ xP]
  have e1 : (E.2.2 x0 1).getD 0 = P := by rw [rx, P1]; rfl
  have e0 : (E.2.2 x0 0).getD 0 = t := by rw [rx, t1]; rfl
  have e10 : (E.2.2 x0 10).getD 0 = td := by rw [rx, q10]; rfl
  have e11 : (E.2.2 x0 11).getD 0 = tt := by rw [rx, q11]; rfl
  obtain ⟨r, hr⟩ : ∃ r, r = zPs x0 σ1 := ⟨_, rfl⟩
  rw [← hr] at hr1 hr2
  unfold F_X10_read at f1
  simp only [zlt, zlt2] at f1
  unfold zPs at hr
  rw [← hr] at f1
  have w1 : r.2.1 = F := congrArg (fun z => z.1) hr2
  have w2 : r.2.2.1 = E.2.1 := congrArg (fun z => z.2.1) hr2
  have w3 : r.2.2.2 = E.2.2 := congrArg (fun z => z.2.2) hr2
  simp only [w1, w2, w3, e1, e0] at f1
  obtain ⟨G, hG⟩ : ∃ G, G = zu (zu F x0 13 (F P 9)) t 1 0 := ⟨_, rfl⟩
  simp only [← hG] at f1
  have kr := fun j j1 j2 j3 => zTt_k hI1 s2 j j1 j2 j3
  have krn : ∀ j, 2 ≤ j → j ≤ 9 → j ≠ 8 → 45 ≤ kd1 ((σ1.2.2 tt j).getD 0) ∧ kd1 ((σ1.2.2 tt j).getD 0) ≤ 51 := fun j j1 j2 j3 => by
    rw [(kr j j1 j2 j3).2]
    split <;> omega
  have zk := fun c j h => zAc.kk (L1 := L1) (R := σ1.2.2) (c := c) (j := j) krn s2.2 h
  -- what G is
  have g1 : ∀ c, c ≠ P → c ≠ tt → c ≠ x0 → c ≠ t → G c = E.1 c := fun c h1 h2 h3 h4 => by
    rw [hG, zu_n _ _ _ h4, zu_n _ _ _ h3, hF, zu_n _ _ _ h2, zu_n _ _ _ h1, zu_n _ _ _ h1]
  have gk : ∀ c, c ≠ x0 → kd1 c ≠ 3 → kd1 c ≠ 7 → kd1 c ≠ 8 → kd1 c ≠ 9 → kd1 c ≠ 41 → kd1 c ≠ 43 → ¬ (45 ≤ kd1 c ∧ kd1 c ≤ 51) → G c = σ1.1 c := fun c n0 n3 n7 n8 n9 n41 n43 n45 => by
    rw [g1 c (fun z => n3 (by rw [z]; exact P2.2)) (fun z => n9 (by rw [z]; exact s2.2)) n0 (fun z => n7 (by rw [z]; exact t2.2))]
    exact funext (fun j => fE c j (fun q => by have := zk c j q; omega))
  have gtt : ∀ j, G tt j = if j = 0 then z else E.1 tt j := fun j => by
    rw [hG, zu_n _ _ _ (zNk s2 t2 (by decide)), zu_n _ _ _ (zNk s2 hx0 (by decide)), hF]
    by_cases c0 : j = 0
    · rw [if_pos c0, c0, zu_s]
    · rw [if_neg c0, zu_j _ _ _ _ _ (fun z => c0 z.symm), zu_n _ _ _ (zNk s2 P2 (by decide)), zu_n _ _ _ (zNk s2 P2 (by decide))]
  refine ⟨?_, fun na => ?_, fun ha => ?_⟩
  · rw [← hr1]
    split at f1
    · exact congrArg Int32.toInt (zPr2 f1).1
    · exact congrArg Int32.toInt (zPr2 f1).1
  · rw [if_neg (by rw [hr1]; exact na)] at f1
    have q := (zPr2 f1).2
    refine ⟨by rw [q]; exact rE, fun c j n1 n2 n3 => ?_⟩
    rw [q]
    show G c j = _
    have np : c ≠ P := fun z => n1 (Or.inl ⟨by rw [z]; exact P2.1, by rw [z]; exact Or.inl P2.2⟩)
    have nt : c ≠ tt := fun z => n1 (Or.inr (Or.inl z))
    rw [hG, zu_n _ _ _ (fun z => n3 (by rw [z]; exact t2.2))]
    have : zu F x0 13 (F P 9) c j = F c j := by
      by_cases cx : c = x0
      · rw [cx, zu_j _ _ _ _ _ (fun z => n2 ⟨cx, z.symm⟩)]
      · rw [zu_n _ _ _ cx]
    rw [this, hF, zu_n _ _ _ nt, zu_n _ _ _ np, zu_n _ _ _ np]
    exact fE c j n1
  · rw [if_pos (by rw [hr1]; exact ha)] at f1
    have q := (zPr2 f1).2
    obtain ⟨hz1, hz2⟩ := hz ha
    simp only [e10, e11] at q
    have n11 : ∀ (X : Option Nat), (zu E.2.2 x0 11 X x0 11).getD 0 = X.getD 0 := fun X => by rw [zu_s]
    obtain ⟨R9, hR9⟩ : ∃ R9, R9 = zu (zu E.2.2 x0 11 (some td)) x0 10 (some tt) := ⟨_, rfl⟩
    have q' : τ1 = F_X10_beginAnew x0 (G, E.2.1, R9) := by rw [q, hR9]
    have r9x : ∀ j, j < 10 → R9 x0 j = σ1.2.2 x0 j := fun j hj => by
      rw [hR9, zu_j _ _ _ _ _ (by omega), zu_j _ _ _ _ _ (by omega)]; exact rx j
    have r9n : ∀ c, c ≠ x0 → c ≠ P → R9 c = σ1.2.2 c := fun c h1 h2 => by
      rw [hR9, zu_n _ _ _ h1, zu_n _ _ _ h1, rE, zu_n _ _ _ h2]
    have hL9 : zLay L1 kd1 x0 (G, E.2.1, R9).2.2 V ps pc sl := hL.keep (fun a ha hk => r9n a (fun z => by rw [z, hx0.2] at hk; omega) (fun z => by rw [z, P2.2] at hk; omega)) r9x
    have d1 : ((G, E.2.1, R9).2.2 x0 10).getD 0 = tt := by
      show (R9 x0 10).getD 0 = tt
      rw [hR9, zu_s]; rfl
    have d2 : ((G, E.2.1, R9).2.2 tt 2).getD 0 = (σ1.2.2 tt 2).getD 0 := by
      show (R9 tt 2).getD 0 = _
      rw [r9n tt (zNk s2 hx0 (by decide)) (zNk s2 P2 (by decide))]
    have y9 : ((G, E.2.1, R9).2.2 x0 5).getD 0 = dy := by
      show (R9 x0 5).getD 0 = dy
      rw [r9x 5 (by decide), y1]; rfl
    obtain ⟨b1, b2, b3, b4, b5, b6, b7, b8⟩ := cBeg hL9 d1 d2 (kr 2 (by decide) (by decide) (by decide)) y9 y2
    rw [← q'] at b1 b2 b3 b4 b5 b6 b7 b8
    obtain ⟨⟨tA, tI, tW, tM⟩, -⟩ := hL.2.2.2.1 0 (by decide)
    have tps : zT L1 kd1 ps 4 := hL.2.2.2.2.2.2.1
    have b8k : ∀ c, kd1 c ≠ 1 → kd1 c ≠ 22 → kd1 c ≠ 23 → kd1 c ≠ 24 → kd1 c ≠ 4 → kd1 c ≠ 2 → kd1 c ≠ 10 → τ1.1 c = G c := fun c h1 h2 h3 h4 h5 h6 h7 => b8 c (by
      rintro (z | z | z | z | z | z | z)
      · exact h1 (by rw [z]; exact tA.2)
      · exact h2 (by rw [z]; exact tI.2)
      · exact h3 (by rw [z]; exact tW.2)
      · exact h4 (by rw [z]; exact tM.2)
      · exact h5 (by rw [z]; exact tps.2)
      · exact h6 (by rw [z]; exact y2.2)
      · exact h7 (by rw [z]; exact hx0.2))
    have kA' : ∀ c k, kd1 c = k → (k = 1 ∨ k = 4 ∨ k = 22 ∨ k = 23 ∨ k = 24 ∨ k = 25 ∨ k = 26 ∨ k = 27 ∨ k = 28) → G c = σ1.1 c := fun c k hc hk => gk c (fun z => by rw [z, hx0.2] at hc; omega) (by omega) (by omega) (by omega) (by omega) (by omega) (by omega) (by omega)
    have gr : ∀ j, 2 ≤ j → j ≤ 9 → j ≠ 8 → G ((σ1.2.2 tt j).getD 0) = E.1 ((σ1.2.2 tt j).getD 0) := fun j j1 j2 j3 => by
      have := krn j j1 j2 j3
      exact g1 _ (fun z => by rw [z, P2.2] at this; omega) (fun z => by rw [z, s2.2] at this; omega) (fun z => by rw [z, hx0.2] at this; omega) (fun z => by rw [z, t2.2] at this; omega)
    have kt : ∀ j, τ1.1 tt j = G tt j := fun j => congrFun (b8k tt (by rw [s2.2]; decide) (by rw [s2.2]; decide) (by rw [s2.2]; decide) (by rw [s2.2]; decide) (by rw [s2.2]; decide) (by rw [s2.2]; decide) (by rw [s2.2]; decide)) j
    refine ⟨hz1, ?_, ?_, fun k hk h0 => ?_, ?_, b5, fun dy' hy' => ?_, b7, ?_, fun j hj => ?_, fun j j1 j2 j3 => ?_, fun c hc => ?_⟩
    · rw [show τ1.2.2 = R9 from congrArg (fun z => z.2) b1, hR9, rE]
    · rw [b2]
      show (zt12 (G ((σ1.2.2 tt 2).getD 0)), _) = _
      rw [gr 2 (by decide) (by decide) (by decide)]
    · rw [b3 k hk h0]
      obtain ⟨⟨uA, uI, uW, uM⟩, -⟩ := hL.2.2.2.1 k hk
      exact zcc.st (kA' _ _ uA.2 (by omega)) (kA' _ _ uI.2 (by omega)) (kA' _ _ uW.2 (by omega)) (kA' _ _ uM.2 (by omega))
    · rw [b4]
      exact congrFun (kA' _ _ tps.2 (by omega)) 1
    · have : dy' = dy := by rw [y1] at hy'; exact (Option.some.inj hy').symm
      rw [this]; exact b6
    · rw [kt, gtt, if_pos rfl]; exact hz2
    · rw [kt, gtt, if_neg hj]
    · have := krn j j1 j2 j3
      rw [b8k _ (by omega) (by omega) (by omega) (by omega) (by omega) (by omega) (by omega)]
      exact gr j j1 j2 j3
    · rw [b8k c (by omega) (by omega) (by omega) (by omega) (by omega) (by omega) (by omega)]
      exact kA' c _ rfl (by omega)
end CREAD
