/-! BOTH AS THEY ARE MADE -/
section RD9A
variable {b : Bool} {ks L : List Nat} {kd : Nat → Nat} {σ : zS} {x0 : Nat}
theorem zLay.of (hk : zKb b ks L kd σ) (hx : zT L kd x0 10) : ∃ V ps pc sl, zLay L kd x0 σ.2.2 V ps pc sl := by
  have hI := hk.1
  have ow := hk.2.2.2.2.1
  obtain ⟨nw, n1, n2⟩ := zi_ref (j := 6) (k2 := 1) hI hx (by rfl)
  obtain ⟨tr, r1, r2⟩ := zi_ref (j := 7) (k2 := 1) hI hx (by rfl)
  obtain ⟨sl, s1, s2⟩ := zi_ref (j := 8) (k2 := 52) hI hx (by rfl)
  obtain ⟨ps, p1, p2⟩ := zi_ref (j := 4) (k2 := 4) hI hx (by rfl)
  obtain ⟨pc, q1, q2⟩ := zi_ref (j := 0) (k2 := 29) hI p2 (by rfl)
  obtain ⟨A, hA⟩ : ∃ A : Nat → Nat, A = fun k => if k < 2 then x0 else if k < 5 then sl else pc := ⟨_, rfl⟩
  obtain ⟨J, hJ⟩ : ∃ J : Nat → Nat, J = fun k => if k < 2 then k + 6 else if k < 5 then k - 2 else k - 5 := ⟨_, rfl⟩
  obtain ⟨C, hC⟩ : ∃ C : Nat → Nat, C = fun k => if k < 2 then 10 else if k < 5 then 52 else 29 := ⟨_, rfl⟩
  have z : ∀ k, (k < 2 ∧ A k = x0 ∧ C k = 10 ∧ J k = k + 6) ∨ (2 ≤ k ∧ k < 5 ∧ A k = sl ∧ C k = 52 ∧ J k = k - 2) ∨ (5 ≤ k ∧ A k = pc ∧ C k = 29 ∧ J k = k - 5) := fun k => by
    rw [hA, hC, hJ]
    by_cases c : k < 2
    · exact Or.inl ⟨c, if_pos c, if_pos c, if_pos c⟩
    · by_cases c2 : k < 5
      · exact Or.inr (Or.inl ⟨by omega, c2, (if_neg c).trans (if_pos c2), (if_neg c).trans (if_pos c2), (if_neg c).trans (if_pos c2)⟩)
      · exact Or.inr (Or.inr ⟨by omega, (if_neg c).trans (if_neg c2), (if_neg c).trans (if_neg c2), (if_neg c).trans (if_neg c2)⟩)
  have tA : ∀ k, zT L kd (A k) (C k) := fun k => by
    rcases z k with ⟨-, a, c, -⟩ | ⟨-, -, a, c, -⟩ | ⟨-, a, c, -⟩
    · rw [a, c]; exact hx
    · rw [a, c]; exact s2
    · rw [a, c]; exact q2
  have rf : ∀ k, k < 45 → ∃ y, σ.2.2 (A k) (J k) = some y ∧ zT L kd y 1 := fun k hk => by
    rcases z k with ⟨k2, a, -, j⟩ | ⟨-, -, a, -, j⟩ | ⟨-, a, -, j⟩
    · rw [a, j]
      rcases (show k = 0 ∨ k = 1 by omega) with rfl | rfl
      · exact ⟨nw, n1, n2⟩
      · exact ⟨tr, r1, r2⟩
    · rw [a]; exact zi_ref (k2 := 1) hI s2 (by rfl)
    · rw [a]; exact zi_ref (k2 := 1) hI q2 (by rfl)
  have ro : ∀ k, k < 45 → zro (kd (A k)) (J k) := fun k hk => by
    rw [(tA k).2]
    rcases z k with ⟨k2, -, c, j⟩ | ⟨k2, k5, -, c, j⟩ | ⟨k5, -, c, j⟩
    · rw [c]; exact Or.inl (by decide)
    · rw [c, j]; exact Or.inr (by show k - 2 < 3; omega)
    · rw [c, j]; exact Or.inr (by show k - 5 < 40; omega)
  have inj : ∀ k k', k < 45 → k' < 45 → A k = A k' → J k = J k' → k = k' := fun k k' hk hk' eA eJ => by
    have eC : C k = C k' := (tA k).2.symm.trans ((congrArg kd eA).trans (tA k').2)
    have a := z k
    have b := z k'
    omega
  obtain ⟨v, hv0⟩ : ∃ v : Nat → Nat, v = fun k => (σ.2.2 (A k) (J k)).getD 0 := ⟨_, rfl⟩
  have hv : ∀ k, k < 45 → σ.2.2 (A k) (J k) = some (v k) ∧ zT L kd (v k) 1 := fun k hk => by
    obtain ⟨y, y1, y2⟩ := rf k hk
    rw [hv0]
    show σ.2.2 (A k) (J k) = some ((σ.2.2 (A k) (J k)).getD 0) ∧ zT L kd ((σ.2.2 (A k) (J k)).getD 0) 1
    rw [y1]
    exact ⟨rfl, y2⟩
  obtain ⟨w, hw0⟩ : ∃ w : Nat → Nat → Nat, w = fun k i => (σ.2.2 (v k) i).getD 0 := ⟨_, rfl⟩
  have hw : ∀ k, k < 45 → ∀ i, i < 3 → σ.2.2 (v k) i = some (w k i) ∧ zT L kd (w k i) (22 + i) := fun k hk i hi => by
    have q : ∃ y, σ.2.2 (v k) i = some y ∧ zT L kd y (22 + i) := by
      rcases (show i = 0 ∨ i = 1 ∨ i = 2 by omega) with rfl | rfl | rfl
      · exact zi_ref hI (hv k hk).2 (by rfl)
      · exact zi_ref hI (hv k hk).2 (by rfl)
      · exact zi_ref hI (hv k hk).2 (by rfl)
    obtain ⟨y, y1, y2⟩ := q
    rw [hw0]
    show σ.2.2 (v k) i = some ((σ.2.2 (v k) i).getD 0) ∧ zT L kd ((σ.2.2 (v k) i).getD 0) (22 + i)
    rw [y1]
    exact ⟨rfl, y2⟩
  have iv : ∀ k k', k < 45 → k' < 45 → v k = v k' → k = k' := fun k k' hk hk' e => by
    have e2 : σ.2.2 (A k') (J k') = some (v k) := by rw [(hv k' hk').1, e]
    obtain ⟨o1, o2⟩ := ow (A k) (tA k).1 (A k') (tA k').1 (J k) (J k') (v k) (hv k hk).1 e2 (by rw [(hv k hk).2.2]; decide) (ro k hk) (ro k' hk')
    exact inj k k' hk hk' o1 o2
  have iw : ∀ k k' i, k < 45 → k' < 45 → i < 3 → w k i = w k' i → k = k' := fun k k' i hk hk' hi e => by
    have e2 : σ.2.2 (v k') i = some (w k i) := by rw [(hw k' hk' i hi).1, e]
    obtain ⟨o1, -⟩ := ow (v k) (hv k hk).2.1 (v k') (hv k' hk').2.1 i i (w k i) (hw k hk i hi).1 e2 (by rw [(hw k hk i hi).2.2]; omega) (by rw [(hv k hk).2.2]; exact Or.inl (by decide)) (by rw [(hv k' hk').2.2]; exact Or.inl (by decide))
    exact iv k k' hk hk' o1
  have at' : ∀ k, k < 45 → ∀ a j, A k = a → J k = j → σ.2.2 a j = some (v k) := fun k hk a j ea ej => by rw [← ea, ← ej]; exact (hv k hk).1
  refine ⟨(v, fun k => w k 0, fun k => w k 1, fun k => w k 2), ps, pc, sl, ⟨?_, ?_, s1, p1, q1⟩, fun s hs => ?_, fun i hi => ?_, fun k hk => ⟨⟨(hv k hk).2, (hw k hk 0 (by decide)).2, (hw k hk 1 (by decide)).2, (hw k hk 2 (by decide)).2⟩, (hw k hk 0 (by decide)).1, (hw k hk 1 (by decide)).1, (hw k hk 2 (by decide)).1⟩, fun k k' hk hk' e => ?_, hx, p2, q2, s2⟩
  · refine at' 0 (by decide) x0 6 ?_ ?_
    · have := z 0; omega
    · have := z 0; omega
  · refine at' 1 (by decide) x0 7 ?_ ?_
    · have := z 1; omega
    · have := z 1; omega
  · refine at' (2 + s) (by omega) sl s ?_ ?_
    · have := z (2 + s); omega
    · have := z (2 + s); omega
  · refine at' (5 + i) (by omega) pc i ?_ ?_
    · have := z (5 + i); omega
    · have := z (5 + i); omega
  · rcases e with e | e | e | e
    · exact iv k k' hk hk' e
    · exact iw k k' 0 hk hk' (by decide) e
    · exact iw k k' 1 hk hk' (by decide) e
    · exact iw k k' 2 hk hk' (by decide) e
theorem zRv.ofK (hk : zKb b ks L kd σ) (hx : zT L kd x0 10) : ∃ rv sh cd, zRv L kd x0 rv sh cd σ.2.2 := by
  have hI := hk.1
  obtain ⟨rv, r1, r2⟩ := zi_ref (j := 2) (k2 := 5) hI hx (by rfl)
  obtain ⟨sh, s1, s2⟩ := zi_ref (j := 3) (k2 := 6) hI hx (by rfl)
  obtain ⟨sh', t1, t2⟩ := zi_ref (j := 0) (k2 := 6) hI r2 (by rfl)
  have e : sh = sh' := hk.2.2.2.2.2 sh s2.1 sh' t2.1 (by rw [s2.2]; rfl) (by rw [s2.2, t2.2])
  refine zRv.of hI hx ?_
  rw [s1, r1]
  show some sh = σ.2.2 rv 0
  rw [t1, e]
theorem zTt.of (hk : zKb b ks L kd σ) (hx : zT L kd x0 10) : ∃ td tt, zTt x0 σ.2.2 td tt := by
  have hI := hk.1
  have ow := hk.2.2.2.2.1
  obtain ⟨td, d1, d2⟩ := zi_ref (j := 10) (k2 := 9) hI hx (by rfl)
  obtain ⟨tt, t1, t2⟩ := zi_ref (j := 11) (k2 := 9) hI hx (by rfl)
  have xo : ∀ j, zro (kd x0) j := fun j => by rw [hx.2]; exact Or.inl (by decide)
  have dt : td ≠ tt := fun e => by
    have e2 : σ.2.2 x0 11 = some td := by rw [t1, e]
    have := (ow x0 hx.1 x0 hx.1 10 11 td d1 e2 (by rw [d2.2]; decide) (xo _) (xo _)).2
    omega
  refine ⟨td, tt, d1, t1, dt, fun j j1 j9 j8 e => ?_⟩
  have rf : ∀ t, zT L kd t 9 → ∃ y, σ.2.2 t j = some y ∧ ∃ k, zT L kd y k ∧ k ≠ 6 := fun t ht => by
    rcases (show j = 1 ∨ j = 2 ∨ j = 3 ∨ j = 4 ∨ j = 5 ∨ j = 6 ∨ j = 7 ∨ j = 9 by omega) with rfl | rfl | rfl | rfl | rfl | rfl | rfl | rfl
    · obtain ⟨y, y1, y2⟩ := zi_ref (j := 1) (k2 := 44) hI ht (by rfl)
      exact ⟨y, y1, 44, y2, by decide⟩
    · obtain ⟨y, y1, y2⟩ := zi_ref (j := 2) (k2 := 45) hI ht (by rfl)
      exact ⟨y, y1, 45, y2, by decide⟩
    · obtain ⟨y, y1, y2⟩ := zi_ref (j := 3) (k2 := 46) hI ht (by rfl)
      exact ⟨y, y1, 46, y2, by decide⟩
    · obtain ⟨y, y1, y2⟩ := zi_ref (j := 4) (k2 := 47) hI ht (by rfl)
      exact ⟨y, y1, 47, y2, by decide⟩
    · obtain ⟨y, y1, y2⟩ := zi_ref (j := 5) (k2 := 48) hI ht (by rfl)
      exact ⟨y, y1, 48, y2, by decide⟩
    · obtain ⟨y, y1, y2⟩ := zi_ref (j := 6) (k2 := 49) hI ht (by rfl)
      exact ⟨y, y1, 49, y2, by decide⟩
    · obtain ⟨y, y1, y2⟩ := zi_ref (j := 7) (k2 := 50) hI ht (by rfl)
      exact ⟨y, y1, 50, y2, by decide⟩
    · obtain ⟨y, y1, y2⟩ := zi_ref (j := 9) (k2 := 51) hI ht (by rfl)
      exact ⟨y, y1, 51, y2, by decide⟩
  obtain ⟨y, y1, k, y2, y3⟩ := rf td d2
  obtain ⟨y', z1, -, -, -⟩ := rf tt t2
  have e' : y = y' := by rw [y1, z1] at e; exact e
  exact dt (ow td d2.1 tt t2.1 j j y y1 (by rw [z1, e']) (by rw [y2.2]; exact y3) (by rw [d2.2]; exact Or.inl (by decide)) (by rw [t2.2]; exact Or.inl (by decide))).1
end RD9A
section RD9B
variable {b : Bool} {ks L1 L2 : List Nat} {kd1 kd2 : Nat → Nat} {σ1 σ2 : zS} {x0 m0 : Nat}
/-- what goes on of the reference is zeros first -/
theorem mStart (hJ : zJ 0 L2 kd2 σ2) (hm : zT L2 kd2 m0 11) (h0 : zRf0 m0 σ2) : ∀ j, j < 50 → σ2.1 (mR σ2 m0 48) j = 0 := by
  obtain ⟨-, -, -, h18, hM, -, ⟨s, hs⟩, -⟩ := h0
  obtain ⟨t, ht⟩ : ∃ t, t = F_X11_begins m0 s := ⟨_, rfl⟩
  rw [← ht] at hs
  have ft : zFr (fun _ _ => True) s t := by rw [ht]; exact fr_X11_begins zFr.id (fun _ => trivial) trivial trivial
  have fk : zFr (fun c _ => c = (t.2.2 m0 48).getD 0) t σ2 := by rw [hs]; exact fr_X11_keepsRow zFr.id (fun _ => rfl)
  have rt : t.2.2 = σ2.2.2 := fk.rf.symm
  have rs : s.2.2 = σ2.2.2 := by rw [← rt]; exact ft.rf.symm
  have m49 : mR σ2 m0 49 ≠ m0 := mR_m hJ hm (s := 49) (k := 149) (by rfl) (by decide)
  have m48 : mR σ2 m0 48 ≠ m0 := mR_m hJ hm (s := 48) (k := 148) (by rfl) (by decide)
  have n1 : mR σ2 m0 22 ≠ mR σ2 m0 49 := mR_ne hJ hm (s := 22) (s' := 49) (k := 122) (k' := 149) (by rfl) (by rfl) (by decide)
  have n2 : mR σ2 m0 21 ≠ mR σ2 m0 49 := mR_ne hJ hm (s := 21) (s' := 49) (k := 121) (k' := 149) (by rfl) (by rfl) (by decide)
  have n3 : mR σ2 m0 21 ≠ mR σ2 m0 48 := mR_ne hJ hm (s := 21) (s' := 48) (k := 121) (k' := 148) (by rfl) (by rfl) (by decide)
  have f1 : zFr (fun c j => c = mR σ2 m0 49 ∨ (c = m0 ∧ (j = 50 ∨ j = 51))) s t := by
    rw [ht]
    exact fr_X11_begins zFr.id (fun _ => Or.inl (by rw [rs])) (Or.inr ⟨rfl, Or.inl rfl⟩) (Or.inr ⟨rfl, Or.inr rfl⟩)
  have s18 : s.1 m0 18 = σ2.1 m0 18 := by
    rw [fk.2 m0 18 (fun z => m48 (by rw [rt] at z; exact z.symm)), f1.2 m0 18 (by
      rintro (z | ⟨-, z⟩)
      · exact m49 z.symm
      · omega)]
  have s21 : ∀ j, s.1 (mR σ2 m0 21) j = σ2.1 (mR σ2 m0 21) j := fun j => by
    rw [fk.2 _ j (fun z => n3 (by rw [rt] at z; exact z)), f1.2 _ j (by
      rintro (z | ⟨z, -⟩)
      · exact n2 z
      · exact mR_m hJ hm (s := 21) (k := 121) (by rfl) (by decide) z)]
  have hM' : (σ2.1 (mR σ2 m0 21) (σ2.1 m0 18).toInt.toNat).toInt = 0 := hM
  rw [h18] at hM'
  have many : ∀ τ, zFr (fun c _ => c = mR σ2 m0 49) s τ → (F_X11_many m0 τ).toInt = (0 : Nat) := fun τ g => by
    unfold F_X11_many
    simp only [zlt]
    rw [g.rf, rs, g.2 m0 18 (fun z => m49 z.symm), g.2 (mR σ2 m0 21) _ n2, s18, s21, show (σ2.1 m0 18).toNatClampNeg = 0 by rw [ztn, h18]; rfl]
    exact hM'
  have et : t = F_X11_begins_2 m0 10000 0 s := by
    rw [ht]
    unfold F_X11_begins
    simp only [zlt]
  obtain ⟨-, q2⟩ := mBeg2 (N := 0) (s := s) (m0 := m0) (w := mR σ2 m0 49) (d := mR σ2 m0 22) (b := 0) n1 (fun z => m49 z.symm) (by rw [rs]) (by rw [rs]) (by rw [s18]; exact h18) (by omega) (by omega) many 10000 0 0 s (by decide) (by omega) (by omega) zFr.id (fun j h => absurd h (by omega))
  rw [← et] at q2
  intro j hj
  have K := zKeep hJ hm (τ := t) fk.1.symm
  have e : σ2.1 = zcf t.1 (mR σ2 m0 48) (mR σ2 m0 49) 0 0 0 50 := by
    have := congrArg Prod.fst (hs.trans K)
    exact this
  have q := q2 j hj
  rw [if_neg (by omega)] at q
  rw [show σ2.1 (mR σ2 m0 48) j = zcf t.1 (mR σ2 m0 48) (mR σ2 m0 49) 0 0 0 50 (mR σ2 m0 48) j from congrFun (congrFun e _) j, zcf_i ⟨by omega, by omega⟩, show 0 + (j - 0) = j by omega]
  exact q
theorem zRL.start (hk : zKb b ks L1 kd1 σ1) (hx : zT L1 kd1 x0 10) (hJ : zJ 0 L2 kd2 σ2) (hm : zT L2 kd2 m0 11) (h0 : zRf0 m0 σ2) : ∃ V ps pc sl rv sh cd, zRL zQ0 L1 kd1 x0 m0 V ps pc sl rv sh cd σ1 σ2 := by
  obtain ⟨V, ps, pc, sl, hL⟩ := zLay.of hk hx
  obtain ⟨rv, sh, cd, hV⟩ := zRv.ofK hk hx
  have hI := hk.1
  have hz := hk.2.2.1
  obtain ⟨td, d1, d2⟩ := zi_ref (j := 10) (k2 := 9) hI hx (by rfl)
  obtain ⟨dy, y1, y2⟩ := zi_ref (j := 5) (k2 := 2) hI hx (by rfl)
  have gd : (σ1.2.2 x0 10).getD 0 = td := by rw [d1]; rfl
  have gy : (σ1.2.2 x0 5).getD 0 = dy := by rw [y1]; rfl
  have tp : zT L1 kd1 ps 4 := hL.2.2.2.2.2.2.1
  obtain ⟨⟨tA, tI, tW, tM⟩, -⟩ := hL.2.2.2.1 0 (by decide)
  have z1 := (hz _ tA.1).1 tA.2
  have z2 := (hz _ y2.1).2.1 y2.2
  have z4 := (hz _ tp.1).2.2.1 tp.2
  have z9 := (hz _ d2.1).2.2.2.1 d2.2
  have z10 := (hz _ hx.1).2.2.2.2.1 hx.2
  have hr := mStart hJ hm h0
  obtain ⟨-, h57, h62, -, hM, h67, -⟩ := h0
  have e0 : (0 : Int32).toInt = 0 := by decide
  refine ⟨V, ps, pc, sl, rv, sh, cd, hL, hV, 0, 0, 0, ⟨by rw [gd, z9.1]; exact e0, hM, by omega, by rw [z4.1]; exact e0, by omega, by rw [z4.2]; exact e0, by omega, h57, by rw [gy, z2, h62]; exact e0⟩, ⟨fun p h1 h2 => absurd h2 (by omega), fun p h1 h2 => absurd h2 (by omega), ?_, ?_⟩, fun i hi => absurd hi (by omega), fun s hs => Or.inr ⟨by rw [z10.1]; exact b_0 s, ?_⟩⟩
  · show σ1.1 (V.1 0) 4 = _
    rw [z1.2.1, rC_i (by decide), hr _ (by decide)]
  · show σ1.1 (V.1 0) 5 = _
    rw [z1.2.2, rC_i (by decide), hr _ (by decide)]
  · have q : (σ2.1 (mR σ2 m0 67) (s : Int).toNat).toInt = 0 := h67 s
    exact Int32.toInt_inj.mp (q.trans e0.symm)
end RD9B
/-! THE RELATION OF THE ROWS OF DEEDS -/
/-- as zSBM; what goes on alike; one river; two texts apart -/
def zRM (κ : Int) (L1 : List Nat) (kd1 : Nat → Nat) (L2 : List Nat) (kd2 : Nat → Nat) (x0 m0 : Nat) (σ1 σ2 : zS) : Prop := zSBM κ L1 kd1 L2 kd2 x0 m0 σ1 σ2 ∧ ∃ V ps pc sl rv sh cd, zRL zQ0 L1 kd1 x0 m0 V ps pc sl rv sh cd σ1 σ2 ∧ ∃ td tt, zTt x0 σ1.2.2 td tt
section RD9C
variable {κ k : Int} {L1 : List Nat} {kd1 : Nat → Nat} {L2 : List Nat} {kd2 : Nat → Nat} {σ1 σ2 τ1 τ2 : zS} {Wk Wr Wf Wa : List Nat} {m0 x0 : Nat}
theorem zRM.le (h0 : k ≤ κ) (h : zRM κ L1 kd1 L2 kd2 x0 m0 σ1 σ2) : zRM k L1 kd1 L2 kd2 x0 m0 σ1 σ2 := ⟨h.1.le h0, h.2⟩
theorem zI_rv (hI : zI κ 0 L1 kd1 σ1) {rv sh cd : Nat} (hV : zRv L1 kd1 x0 rv sh cd σ1.2.2) : ∀ a ∈ L1, kd1 a = 5 → a = rv := fun a ha e => hI.2.2.2.1 a ha rv hV.2.1.2.1.1 (e.trans hV.2.1.2.1.2.symm) (Or.inr (Or.inl e))
/-- texts stay where the class' references stay -/
theorem zTt.sm {td tt : Nat} (h : zTt x0 σ1.2.2 td tt) (hI : zI κ 0 L1 kd1 σ1) (hx : zT L1 kd1 x0 10) (g : zSm Wk Wr L1 kd1 σ1 τ1) (h2 : (Wr.all (fun j => j == 5)) = true) : zTt x0 τ1.2.2 td tt := by
  have n : ∀ a ∈ L1, kd1 a ≠ 5 → τ1.2.2 a = σ1.2.2 a := fun a ha h5 => (g a ha).2 (fun q => h5 (by
    have := List.all_eq_true.mp h2 _ q
    simpa using this))
  obtain ⟨td', d1, d2⟩ := zi_ref (j := 10) (k2 := 9) hI hx (by rfl)
  obtain ⟨tt', t1, t2⟩ := zi_ref (j := 11) (k2 := 9) hI hx (by rfl)
  have ed : td' = td := Option.some.inj (d1.symm.trans h.1)
  have et : tt' = tt := Option.some.inj (t1.symm.trans h.2.1)
  subst ed et
  exact h.keep (fun j => by rw [n x0 hx.1 (by rw [hx.2]; decide)]) (fun j => by rw [n _ d2.1 (by rw [d2.2]; decide)]) (fun j => by rw [n _ t2.1 (by rw [t2.2]; decide)])
/-- a question of the class -/
theorem zRM.c (h : zRM κ L1 kd1 L2 kd2 x0 m0 σ1 σ2) (hx : zT L1 kd1 x0 10) (hI : zI κ 0 L1 kd1 σ1) (g : zSm Wk Wr L1 kd1 σ1 τ1) (hv : zRz σ1.2.2 τ1) (h1 : ([1, 2, 4, 9, 10, 22, 23, 24, 39, 40].all (fun j => !(Wk.contains j))) = true) (h2 : (Wr.all (fun j => j == 5)) = true) : zRM κ L1 kd1 L2 kd2 x0 m0 τ1 σ2 := by
  obtain ⟨hB, V, ps, pc, sl, rv, sh, cd, hR, td, tt, hT⟩ := h
  have n : ∀ k, k ∈ [1, 2, 4, 9, 10, 22, 23, 24, 39, 40] → Wk.contains k = false := fun k hk => by
    have := List.all_eq_true.mp h1 k hk
    simpa using this
  have h7 : Wr.contains 7 = false := by
    cases hc : Wr.contains 7 with
    | false => rfl
    | true =>
      have q := List.all_eq_true.mp h2 7 (by simpa using hc)
      simp at q
  refine ⟨hB.c hx g (n 39 (by decide)) (n 40 (by decide)) (n 10 (by decide)) h7, V, ps, pc, sl, rv, sh, cd, hR.c hx hI g hv (List.all_eq_true.mpr (fun j hj => ?_)) h2, td, tt, hT.sm hI hx g h2⟩
  rw [n j (by
    simp only [List.mem_cons, List.not_mem_nil, or_false] at hj ⊢
    omega)]
  rfl
/-- a question that tries -/
theorem zRM.t (h : zRM κ L1 kd1 L2 kd2 x0 m0 σ1 σ2) (hx : zT L1 kd1 x0 10) (hI : zI κ 0 L1 kd1 σ1) (g : zSm Wk Wr L1 kd1 σ1 τ1) (p : ∀ (V : zWh) (ps pc sl rv sh cd : Nat), zLay L1 kd1 x0 σ1.2.2 V ps pc sl → zRv L1 kd1 x0 rv sh cd σ1.2.2 → zPv L1 kd1 V rv σ1 τ1) (h1 : ([2, 4, 9, 10, 39, 40].all (fun j => !(Wk.contains j))) = true) (h2 : (Wr.all (fun j => j == 5)) = true) : zRM κ L1 kd1 L2 kd2 x0 m0 τ1 σ2 := by
  obtain ⟨hB, V, ps, pc, sl, rv, sh, cd, hR, td, tt, hT⟩ := h
  have n : ∀ k, k ∈ [2, 4, 9, 10, 39, 40] → Wk.contains k = false := fun k hk => by
    have := List.all_eq_true.mp h1 k hk
    simpa using this
  have h7 : Wr.contains 7 = false := by
    cases hc : Wr.contains 7 with
    | false => rfl
    | true =>
      have q := List.all_eq_true.mp h2 7 (by simpa using hc)
      simp at q
  refine ⟨hB.c hx g (n 39 (by decide)) (n 40 (by decide)) (n 10 (by decide)) h7, V, ps, pc, sl, rv, sh, cd, hR.t hx hI g (p V ps pc sl rv sh cd hR.1 hR.2.1) (List.all_eq_true.mpr (fun j hj => ?_)) h2 (zI_rv hI hR.2.1), td, tt, hT.sm hI hx g h2⟩
  rw [n j (by
    simp only [List.mem_cons, List.not_mem_nil, or_false] at hj ⊢
    omega)]
  rfl
/-- a question of the reference -/
theorem zRM.m (h : zRM κ L1 kd1 L2 kd2 x0 m0 σ1 σ2) (hJ : zJ k L2 kd2 σ2) (hm : zT L2 kd2 m0 11) (g : zSame m0 Wf Wa L2 kd2 σ2 τ2) (h1 : ([17, 18, 57, 62].all (fun j => !(Wf.contains j))) = true) (h2 : ([101, 109, 121, 148, 158, 167, 168].all (fun j => !(Wa.contains j))) = true) : zRM κ L1 kd1 L2 kd2 x0 m0 σ1 τ2 := by
  obtain ⟨hB, V, ps, pc, sl, rv, sh, cd, hR, hT⟩ := h
  have n1 : ∀ k, k ∈ [17, 18, 57, 62] → Wf.contains k = false := fun k hk => by
    have := List.all_eq_true.mp h1 k hk
    simpa using this
  have n2 : ∀ k, k ∈ [101, 109, 121, 148, 158, 167, 168] → Wa.contains k = false := fun k hk => by
    have := List.all_eq_true.mp h2 k hk
    simpa using this
  refine ⟨hB.m g (n2 101 (by decide)) (n2 109 (by decide)) (n1 17 (by decide)), V, ps, pc, sl, rv, sh, cd, hR.m hJ hm g (List.all_eq_true.mpr (fun j hj => ?_)) (List.all_eq_true.mpr (fun j hj => ?_)), hT⟩
  · rw [n1 j (by
      simp only [List.mem_cons, List.not_mem_nil, or_false] at hj ⊢
      omega)]
    rfl
  · rw [n2 j (by
      simp only [List.mem_cons, List.not_mem_nil, or_false] at hj ⊢
      omega)]
    rfl
/-- a deed on both sides: zSBM by frames, what goes on by its own row -/
theorem zRM.d {A : Prop} (h : zRM κ L1 kd1 L2 kd2 x0 m0 σ1 σ2) (hx : zT L1 kd1 x0 10) (hI : zI κ 0 L1 kd1 σ1) (g1 : zSm Wk Wr L1 kd1 σ1 τ1) (g2 : zSame m0 Wf Wa L2 kd2 σ2 τ2) (h1 : ([10, 39, 40].all (fun j => !(Wk.contains j))) = true) (h2 : (Wr.all (fun j => j == 5)) = true) (h3 : Wf.contains 17 = false) (h4 : ([101, 109].all (fun j => !(Wa.contains j))) = true) (H : ∀ (V : zWh) (ps pc sl rv sh cd : Nat), zRL zQ0 L1 kd1 x0 m0 V ps pc sl rv sh cd σ1 σ2 → A ∧ zRL zQ0 L1 kd1 x0 m0 V ps pc sl rv sh cd τ1 τ2) : A ∧ zRM κ L1 kd1 L2 kd2 x0 m0 τ1 τ2 := by
  obtain ⟨hB, V, ps, pc, sl, rv, sh, cd, hR, td, tt, hT⟩ := h
  have n : ∀ k, k ∈ [10, 39, 40] → Wk.contains k = false := fun k hk => by
    have := List.all_eq_true.mp h1 k hk
    simpa using this
  have n2 : ∀ k, k ∈ [101, 109] → Wa.contains k = false := fun k hk => by
    have := List.all_eq_true.mp h4 k hk
    simpa using this
  have h7 : Wr.contains 7 = false := by
    cases hc : Wr.contains 7 with
    | false => rfl
    | true =>
      have q := List.all_eq_true.mp h2 7 (by simpa using hc)
      simp at q
  obtain ⟨a, hR'⟩ := H V ps pc sl rv sh cd hR
  exact ⟨a, (hB.c hx g1 (n 39 (by decide)) (n 40 (by decide)) (n 10 (by decide)) h7).m g2 (n2 101 (by decide)) (n2 109 (by decide)) h3, V, ps, pc, sl, rv, sh, cd, hR', td, tt, hT.sm hI hx g1 h2⟩
end RD9C
