/-! THE REFERENCE, ahead of its loop -/
theorem wRead1 {a x bt ky k q v nm nO n : Nat} {τ : zS} (hd : zRd a k q v nm) (hx : x ≠ a ∧ x ≠ k ∧ x ≠ q ∧ x ≠ v) (hbx : bt ≠ x) (hba : bt ≠ a) (hyn : ky ≠ nm) (hno : nm ≠ nO) (hl : zRl a k q v nm ky τ) (r3 : τ.2.2 a 3 = some x) (r1 : τ.2.2 a 1 = some bt) (r20 : τ.2.2 a 20 = some nO) (hn : (τ.1 a 2).toInt = n) (hn2 : n ≤ 2000) (hxb : ∀ j, -128 ≤ (τ.1 x j).toInt ∧ (τ.1 x j).toInt ≤ 127) (hb : ∀ j, -128 ≤ (τ.1 bt j).toInt ∧ (τ.1 bt j).toInt ≤ 127) (hs : ∀ j, zQs j → (τ.2.2 a j).getD 0 ≠ a ∧ (τ.2.2 a j).getD 0 ≠ k ∧ (τ.2.2 a j).getD 0 ≠ q ∧ (τ.2.2 a j).getD 0 ≠ v) :
    ∃ (τc : zS) (m' : Nat) (E' : Nat → Nat), m' ≤ 401 ∧ zRq (τ.1 bt) n (τ.2.1 ky) k q v nm τc m' E' ∧ zFi (fun c j => (c = a ∧ (j = 2 ∨ j = 4 ∨ j = 10)) ∨ c = x ∨ c = k ∨ c = q ∨ c = v) τ τc ∧ (m' = 401 ∨ (0 < m' ∧ (τc.1 k (m' - 1)).toInt = 0)) ∧ ∀ (T : zTn) (m : Nat), zTm T m → zTK T m → (∀ j, j < m → (τc.1 k j).toInt = zrho (T.1 j) ∧ (τc.1 q j).toInt = T.2.2.2 j ∧ (T.1 j = 23 → (τc.1 v j).toInt = T.2.2.1 j) ∧ τc.2.1 nm j = (T.2.1 j).2) → ∃ (y : Int32) (K : Int32 → zS → Int32 × zS), zXo a k q v nm nO m T (zRi a τc) aZ ∧ F_X11_read a τ = F_X11_read_117 y a K 10000 (zRi a τc) := by
  obtain ⟨f, y, τ', u1, u2, u3, u4, u5, u6⟩ := rcopy (a := a) hx.1 hbx hn2 10000 0 0 (zu τ.1 a 4 (τ.1 a 2), τ.2.1, τ.2.2) (by decide) (by omega) (by omega) r3 r1 (by show (zu τ.1 a 4 _ a 4).toInt = _; rw [zu_s]; exact hn) (fun i => by show -128 ≤ (zu τ.1 a 4 _ bt i).toInt ∧ (zu τ.1 a 4 _ bt i).toInt ≤ 127; rw [zu_n _ _ _ hba]; exact hb i)
  have w1 : τ'.2.1 = τ.2.1 := by rw [u2]
  have w2 : τ'.2.2 = τ.2.2 := by rw [u2]
  have tb : ∀ i, i < n → τ'.1 x i = τ.1 bt i := fun i hi => by
    rw [u5 i (Nat.zero_le _) hi]
    show zu τ.1 a 4 _ bt i = _
    rw [zu_n _ _ _ hba]
  have tx : ∀ i, n ≤ i → τ'.1 x i = τ.1 x i := fun i hi => by
    rw [u6 i hi]
    show zu τ.1 a 4 _ x i = _
    rw [zu_n _ _ _ hx.1]
  obtain ⟨N, hN, eN⟩ : ∃ N : Nat, 1700000 < N ∧ F_X11_cut a (zu τ'.1 a 2 0, τ'.2.1, τ'.2.2) = F_X11_cut_7 a N 0 (zu (zu τ'.1 a 2 0) a 10 0, τ'.2.1, τ'.2.2) := by
    unfold F_X11_cut
    simp only [zlt]
    exact ⟨2000000, by omega, rfl⟩
  have x3 : ∀ j, zu (zu τ'.1 a 2 (0 : Int32)) a 10 (0 : Int32) x j = τ'.1 x j := fun j => by rw [zu_n _ _ _ hx.1, zu_n _ _ _ hx.1]
  obtain ⟨m', E', z1, z2, z3, z4, z5⟩ := rc_loop hd hx hyn N 0 (zu (zu τ'.1 a 2 0) a 10 0, τ'.2.1, τ'.2.2) 0 0 0 (fun _ => 0) (n := n)
    (by
      refine ⟨by show τ'.2.2 a 3 = _; rw [w2]; exact r3, ?_, hn2, fun j => ?_⟩
      · show (zu (zu τ'.1 a 2 (0 : Int32)) a 10 (0 : Int32) a 4).toInt = _
        rw [zu_j _ _ _ _ _ (by decide), zu_j _ _ _ _ _ (by decide), u3 a (fun z => hx.1 z.symm)]
        show (zu τ.1 a 4 _ a 4).toInt = _
        rw [zu_s]; exact hn
      · show -128 ≤ (zu (zu τ'.1 a 2 (0 : Int32)) a 10 (0 : Int32) x j).toInt ∧ (zu (zu τ'.1 a 2 (0 : Int32)) a 10 (0 : Int32) x j).toInt ≤ 127
        rw [x3]
        by_cases c : j < n
        · rw [tb j c]; exact hb j
        · rw [tx j (by omega)]; exact hxb j)
    (by unfold zRl; show τ'.2.2 a 5 = _ ∧ τ'.2.2 a 6 = _ ∧ τ'.2.2 a 7 = _ ∧ τ'.2.2 a 8 = _ ∧ τ'.2.2 a 9 = _; rw [w2]; exact hl)
    (by show (zu (zu τ'.1 a 2 (0 : Int32)) a 10 (0 : Int32) a 10).toInt = _; rw [zu_s]; decide)
    (by omega) (by decide) (Nat.le_refl _) (Nat.zero_le _) rfl (fun j _ h => absurd h (by omega)) ⟨rfl, fun j hj => absurd hj (by omega), fun j hj => absurd hj (by omega)⟩ (fun z => absurd rfl z) (by omega)
  obtain ⟨C, hC⟩ : ∃ c : zS, c = F_X11_cut_7 a N 0 (zu (zu τ'.1 a 2 0) a 10 0, τ'.2.1, τ'.2.2) := ⟨_, rfl⟩
  rw [← hC] at z1 z3 z4 z5 eN
  have z3' : zRq (τ.1 bt) n (τ.2.1 ky) k q v nm C m' E' := by
    have z3b : zRq (fun j => zu (zu τ'.1 a 2 (0 : Int32)) a 10 (0 : Int32) x j) n (τ'.2.1 ky) k q v nm C m' E' := z3
    rw [w1] at z3b
    exact zRq_cg (fun j hj => by show zu (zu τ'.1 a 2 (0 : Int32)) a 10 (0 : Int32) x j = _; rw [x3, tb j hj]) z3b
  obtain ⟨e5, e6, e7, e8, e9⟩ := id hl
  have w0 : zFi (fun c j => (c = a ∧ (j = 2 ∨ j = 4 ∨ j = 10)) ∨ c = x ∨ c = k ∨ c = q ∨ c = v) τ τ' := ⟨by rw [u2], fun c j n => by
    rw [u3 c (fun z => n (Or.inr (Or.inl z)))]
    show zu τ.1 a 4 _ c j = _
    unfold zu
    by_cases e : c = a
    · rw [if_pos e, if_neg (fun z => n (Or.inl ⟨e, Or.inr (Or.inl z)⟩)), e]
    · rw [if_neg e]⟩
  have w3 := (w0.w (r := a) (j := 2) (v := (0 : Int32)) (Or.inl ⟨rfl, Or.inl rfl⟩)).w (r := a) (j := 10) (v := (0 : Int32)) (Or.inl ⟨rfl, Or.inr (Or.inr rfl)⟩)
  have g5 : (τ.2.2 a 5).getD 0 = k := by rw [e5]; rfl
  have g6 : (τ.2.2 a 6).getD 0 = q := by rw [e6]; rfl
  have g7 : (τ.2.2 a 7).getD 0 = v := by rw [e7]; rfl
  have fC : zFi (fun c j => (c = a ∧ (j = 2 ∨ j = 4 ∨ j = 10)) ∨ c = x ∨ c = k ∨ c = q ∨ c = v) τ C := by
    rw [hC]
    exact fi_X11_cut_7 (fun _ => Or.inr (Or.inr (Or.inl g5))) (fun _ => Or.inr (Or.inr (Or.inr (Or.inl g6)))) (fun _ => Or.inr (Or.inr (Or.inr (Or.inr g7)))) (Or.inl ⟨rfl, Or.inr (Or.inr rfl)⟩) N 0 _ w3
  refine ⟨C, m', E', z2, z3', fC, z4, fun T m hT hK ht => ?_⟩
  obtain ⟨dk, dq, dv, -, -, -⟩ := hd
  have c2 : C.2.2 = τ.2.2 := by rw [z5.1]; exact w2
  obtain ⟨i1, i2, i3, i4, i5⟩ := zRi_f (t := C) dk dq dv (by rw [c2]; exact hs)
  have j2 : (zRi a C).2.2 = τ.2.2 := by rw [i1]; exact c2
  have j1 : (zRi a C).2.1 = C.2.1 := by rw [i1]
  have base : zXo a k q v nm nO m T (zRi a C) aZ := by
    refine ⟨⟨⟨⟨?_, ?_, ?_, ?_, ?_⟩, fun j hj => ?_, fun j hj => ?_⟩, i5 13 (by omega), Int.le_refl _, fun z => absurd rfl z, fun _ => ⟨hK.1, i5 11 (by omega), i5 15 (by omega), Int.le_refl _, fun z => absurd rfl z, i5 41 (by omega), i5 42 (by omega), ⟨Int.le_refl _, (by decide : (0 : Int) ≤ 11)⟩, fun p h1 h2 => ?_⟩⟩, fun _ => i5 12 (by omega)⟩
    · rw [j2]; exact e5
    · rw [j2]; exact e6
    · rw [j2]; exact e7
    · rw [j2]; exact e8
    · rw [j2]; exact r20
    · rw [i2, i3, i4, j1]
      exact ht j hj
    · rw [j2]; exact hs j hj
    · have h1' : (p : Int) ≤ 0 := h1
      have h2' : p ≠ 0 ∨ (0 : Int) ≠ 0 := h2
      omega
  refine ⟨y, F_X11_read_10 a f, base, ?_⟩
  unfold F_X11_read
  simp only [zlt]
  rw [u1, eN]
