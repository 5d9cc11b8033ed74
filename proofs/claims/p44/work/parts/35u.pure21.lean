section CG
variable {b b' : Nat → Int32} {n a : Nat}
theorem zRun_cg {p : Int → Prop} {e : Nat} (hb : ∀ j, j < n → b j = b' j) (h : zRun p b n a e) : zRun p b' n a e := by
  refine ⟨h.1, fun j h2 h3 => ?_, fun z => h.2.2 ⟨z.1, by rw [hb _ z.1]; exact z.2⟩⟩
  have q := h.2.1 j h2 h3
  exact ⟨q.1, by rw [← hb j q.1]; exact q.2⟩
theorem zwd_cg (hb : ∀ j, j < n → b j = b' j) : ∀ k, (∀ j, j < k → a + j < n) → zwd b a k = zwd b' a k
  | 0, _ => rfl
  | k + 1, h => by rw [zwd, zwd, zwd_cg hb k (fun j hj => h j (by omega)), hb _ (h k (by omega))]
theorem zdv_cg (hb : ∀ j, j < n → b j = b' j) : ∀ k, (∀ j, j < k → a + j < n) → zdv b a k = zdv b' a k
  | 0, _ => rfl
  | k + 1, h => by rw [zdv, zdv, zdv_cg hb k (fun j hj => h j (by omega)), hb _ (h k (by omega))]
theorem zRT_cg {Y : Nat → Int64} {K Q V : Int} {M : Int64} {e : Nat} (hb : ∀ j, j < n → b j = b' j) (h : zRT b n Y a K Q V M e) : zRT b' n Y a K Q V M e := by
  obtain ⟨s, h1, h2, h3, h4⟩ := h
  refine ⟨s, zRun_cg hb h1, h2, h3, ?_⟩
  rcases h4 with h4 | ⟨l, g1, g2, g3⟩ | ⟨l, g1, g2, g3⟩ | ⟨l, g1, g2, g3, g4⟩
  · exact Or.inl h4
  · refine Or.inr (Or.inl ⟨l, by rw [← hb s l]; exact g1, zRun_cg hb g2, ?_⟩)
    rcases g3 with g3 | ⟨g3, g4, g5⟩
    · exact Or.inl g3
    · exact Or.inr ⟨g3, by rw [← zwd_cg hb _ (fun j hj => (g2.2.1 (s + j) (by omega) (by omega)).1)]; exact g4, g5⟩
  · refine Or.inr (Or.inr (Or.inl ⟨l, by rw [← hb s l]; exact g1, zRun_cg hb g2, ?_⟩))
    rcases g3 with g3 | ⟨g3, g4, g5⟩
    · exact Or.inl g3
    · exact Or.inr ⟨g3, g4, by rw [← zdv_cg hb _ (fun j hj => (g2.2.1 (s + j) (by omega) (by omega)).1)]; exact g5⟩
  · exact Or.inr (Or.inr (Or.inr ⟨l, by rw [← hb s l]; exact g1, by rw [← hb s l]; exact g2, g3, by rw [← hb s l]; exact g4⟩))
theorem zRq_cg {Y : Nat → Int64} {k q v nm m : Nat} {σ : zS} {E : Nat → Nat} (hb : ∀ j, j < n → b j = b' j) (h : zRq b n Y k q v nm σ m E) : zRq b' n Y k q v nm σ m E := ⟨h.1, fun j hj => zRT_cg hb (h.2.1 j hj), h.2.2⟩
end CG
theorem wRead0 {a x bt ky k q v nm nO n : Nat} {τ : zS} (hd : zRd a k q v nm) (hx : x ≠ a ∧ x ≠ k ∧ x ≠ q ∧ x ≠ v) (hbx : bt ≠ x) (hba : bt ≠ a) (hyn : ky ≠ nm) (hno : nm ≠ nO) (hl : zRl a k q v nm ky τ) (r3 : τ.2.2 a 3 = some x) (r1 : τ.2.2 a 1 = some bt) (r20 : τ.2.2 a 20 = some nO) (hn : (τ.1 a 2).toInt = n) (hn2 : n ≤ 2000) (hxb : ∀ j, -128 ≤ (τ.1 x j).toInt ∧ (τ.1 x j).toInt ≤ 127) (hb : ∀ j, -128 ≤ (τ.1 bt j).toInt ∧ (τ.1 bt j).toInt ≤ 127) (hs : ∀ j, zQs j → (τ.2.2 a j).getD 0 ≠ a ∧ (τ.2.2 a j).getD 0 ≠ k ∧ (τ.2.2 a j).getD 0 ≠ q ∧ (τ.2.2 a j).getD 0 ≠ v) :
    ∃ (τc : zS) (m' : Nat) (E' : Nat → Nat), m' ≤ 401 ∧ zRq (τ.1 bt) n (τ.2.1 ky) k q v nm τc m' E' ∧ (m' = 401 ∨ (0 < m' ∧ (τc.1 k (m' - 1)).toInt = 0)) ∧ ∀ (T : zTn) (m : Nat), zTm T m → zTK T m → (∀ j, j < m → (τc.1 k j).toInt = zrho (T.1 j) ∧ (τc.1 q j).toInt = T.2.2.2 j ∧ (T.1 j = 23 → (τc.1 v j).toInt = T.2.2.1 j) ∧ τc.2.1 nm j = (T.2.1 j).2) → (F_X11_read a τ).1.toInt = aAns (aRun T 500 aZ) ∧ ((F_X11_read a τ).2.1 a 17).toInt = aPos (aRun T 500 aZ) := by
  obtain ⟨f, y, τ', u1, u2, u3, u4, u5, u6⟩ := rcopy (a := a) hx.1 hbx hn2 10000 0 0 (zu τ.1 a 4 (τ.1 a 2), τ.2.1, τ.2.2) (by decide) (by omega) (by omega) r3 r1 (by show (zu τ.1 a 4 _ a 4).toInt = _; rw [zu_s]; exact hn) (fun i => by show -128 ≤ (zu τ.1 a 4 _ bt i).toInt ∧ (zu τ.1 a 4 _ bt i).toInt ≤ 127; rw [zu_n _ _ _ hba]; exact hb i)
  have w1 : τ'.2.1 = τ.2.1 := by rw [u2]
  have w2 : τ'.2.2 = τ.2.2 := by rw [u2]
  have tb : ∀ i, i < n → τ'.1 x i = τ.1 bt i := fun i hi => by
    rw [u5 i (Nat.zero_le _) hi]
    show zu τ.1 a 4 _ bt i = _
    rw [zu_n _ _ _ hba]
  have tx : ∀ i, n ≤ i → τ'.1 x i = τ.1 x i := fun i hi => by
    rw [u6 i hi]
    show zu τ.1 a 4 _ x i = _
    rw [zu_n _ _ _ hx.1]
  obtain ⟨N, hN, eN⟩ : ∃ N : Nat, 1700000 < N ∧ F_X11_cut a (zu τ'.1 a 2 0, τ'.2.1, τ'.2.2) = F_X11_cut_7 a N 0 (zu (zu τ'.1 a 2 0) a 10 0, τ'.2.1, τ'.2.2) := by
    unfold F_X11_cut
    simp only [zlt]
    exact ⟨2000000, by omega, rfl⟩
  have x3 : ∀ j, zu (zu τ'.1 a 2 (0 : Int32)) a 10 (0 : Int32) x j = τ'.1 x j := fun j => by rw [zu_n _ _ _ hx.1, zu_n _ _ _ hx.1]
  obtain ⟨m', E', z1, z2, z3, z4, z5⟩ := rc_loop hd hx hyn N 0 (zu (zu τ'.1 a 2 0) a 10 0, τ'.2.1, τ'.2.2) 0 0 0 (fun _ => 0) (n := n)
    (by
      refine ⟨by show τ'.2.2 a 3 = _; rw [w2]; exact r3, ?_, hn2, fun j => ?_⟩
      · show (zu (zu τ'.1 a 2 (0 : Int32)) a 10 (0 : Int32) a 4).toInt = _
        rw [zu_j _ _ _ _ _ (by decide), zu_j _ _ _ _ _ (by decide), u3 a (fun z => hx.1 z.symm)]
        show (zu τ.1 a 4 _ a 4).toInt = _
        rw [zu_s]; exact hn
      · show -128 ≤ (zu (zu τ'.1 a 2 (0 : Int32)) a 10 (0 : Int32) x j).toInt ∧ (zu (zu τ'.1 a 2 (0 : Int32)) a 10 (0 : Int32) x j).toInt ≤ 127
        rw [x3]
        by_cases c : j < n
        · rw [tb j c]; exact hb j
        · rw [tx j (by omega)]; exact hxb j)
    (by unfold zRl; show τ'.2.2 a 5 = _ ∧ τ'.2.2 a 6 = _ ∧ τ'.2.2 a 7 = _ ∧ τ'.2.2 a 8 = _ ∧ τ'.2.2 a 9 = _; rw [w2]; exact hl)
    (by show (zu (zu τ'.1 a 2 (0 : Int32)) a 10 (0 : Int32) a 10).toInt = _; rw [zu_s]; decide)
    (by omega) (by decide) (Nat.le_refl _) (Nat.zero_le _) rfl (fun j _ h => absurd h (by omega)) ⟨rfl, fun j hj => absurd hj (by omega), fun j hj => absurd hj (by omega)⟩ (fun z => absurd rfl z) (by omega)
  obtain ⟨C, hC⟩ : ∃ c : zS, c = F_X11_cut_7 a N 0 (zu (zu τ'.1 a 2 0) a 10 0, τ'.2.1, τ'.2.2) := ⟨_, rfl⟩
  rw [← hC] at z1 z3 z4 z5 eN
  have z3' : zRq (τ.1 bt) n (τ.2.1 ky) k q v nm C m' E' := by
    have z3b : zRq (fun j => zu (zu τ'.1 a 2 (0 : Int32)) a 10 (0 : Int32) x j) n (τ'.2.1 ky) k q v nm C m' E' := z3
    rw [w1] at z3b
    exact zRq_cg (fun j hj => by show zu (zu τ'.1 a 2 (0 : Int32)) a 10 (0 : Int32) x j = _; rw [x3, tb j hj]) z3b
  refine ⟨C, m', E', z2, z3', z4, fun T m hT hK ht => ?_⟩
  obtain ⟨e5, e6, e7, e8, e9⟩ := hl
  obtain ⟨dk, dq, dv, -, -, -⟩ := hd
  have c2 : C.2.2 = τ.2.2 := by rw [z5.1]; exact w2
  obtain ⟨i1, i2, i3, i4, i5⟩ := zRi_f (t := C) dk dq dv (by rw [c2]; exact hs)
  have j2 : (zRi a C).2.2 = τ.2.2 := by rw [i1]; exact c2
  have j1 : (zRi a C).2.1 = C.2.1 := by rw [i1]
  have base : zXo a k q v nm nO m T (zRi a C) aZ := by
    refine ⟨⟨⟨⟨?_, ?_, ?_, ?_, ?_⟩, fun j hj => ?_, fun j hj => ?_⟩, i5 13 (by omega), Int.le_refl _, fun z => absurd rfl z, fun _ => ⟨hK.1, i5 11 (by omega), i5 15 (by omega), Int.le_refl _, fun z => absurd rfl z, i5 41 (by omega), i5 42 (by omega), ⟨Int.le_refl _, (by decide : (0 : Int) ≤ 11)⟩, fun p h1 h2 => ?_⟩⟩, fun _ => i5 12 (by omega)⟩
    · rw [j2]; exact e5
    · rw [j2]; exact e6
    · rw [j2]; exact e7
    · rw [j2]; exact e8
    · rw [j2]; exact r20
    · rw [i2, i3, i4, j1]
      exact ht j hj
    · rw [j2]; exact hs j hj
    · have h1' : (p : Int) ≤ 0 := h1
      have h2' : p ≠ 0 ∨ (0 : Int) ≠ 0 := h2
      omega
  unfold F_X11_read
  simp only [zlt]
  rw [u1, eN]
  exact xRun ⟨dk, dq, dv, hno⟩ hT hK _ 10000 _ aZ base (fun _ => rfl) (fun _ => by omega) (by omega) 500 (fun _ => by omega) (by omega)
/-- both sides read alike -/
theorem zReadEq {P tk kA vA qA tt N p1 w n : Nat} {p2 : Int32} {a x bt ky k q v nm nO : Nat} {σ τ : zS}
    (hd : zVd P tk kA vA qA N) (hk : kA ≠ tk) (hq : qA ≠ tk) (hkq : kA ≠ qA) (hp : p1 ≠ tk ∧ p1 ≠ kA ∧ p1 ≠ qA) (hwv : w ≠ vA) (hn : p2.toInt = n) (hn2 : n ≤ 2000) (hl : zTl tk w kA vA qA σ) (l0 : σ.2.2 P 0 = some tk) (l5 : σ.2.2 tt 1 = some N) (htd : zTd P tk kA qA tt σ.2.2) (hby : ∀ j, -128 ≤ (σ.1 p1 j).toInt ∧ (σ.1 p1 j).toInt ≤ 127)
    (hd' : zRd a k q v nm) (hx : x ≠ a ∧ x ≠ k ∧ x ≠ q ∧ x ≠ v) (hbx : bt ≠ x) (hba : bt ≠ a) (hyn : ky ≠ nm) (hno : nm ≠ nO) (hl' : zRl a k q v nm ky τ) (r3 : τ.2.2 a 3 = some x) (r1 : τ.2.2 a 1 = some bt) (r20 : τ.2.2 a 20 = some nO) (hn' : (τ.1 a 2).toInt = n) (hxb : ∀ j, -128 ≤ (τ.1 x j).toInt ∧ (τ.1 x j).toInt ≤ 127) (hb : ∀ j, -128 ≤ (τ.1 bt j).toInt ∧ (τ.1 bt j).toInt ≤ 127) (hs : ∀ j, zQs j → (τ.2.2 a j).getD 0 ≠ a ∧ (τ.2.2 a j).getD 0 ≠ k ∧ (τ.2.2 a j).getD 0 ≠ q ∧ (τ.2.2 a j).getD 0 ≠ v)
    (hW : ∀ i, i < 22 → σ.2.1 w i = zw32 i) (hY : ∀ i, i < 22 → τ.2.1 ky i = zw27 i) (hB : ∀ j, j < n → σ.1 p1 j = τ.1 bt j) :
    (F_X3_parse P p1 p2 tt σ).1.toInt = (F_X11_read a τ).1.toInt ∧ ((F_X3_parse P p1 p2 tt σ).2.1 P 9).toInt = ((F_X11_read a τ).2.1 a 17).toInt := by
  obtain ⟨m, E, c1, c2, c3, c4, c5⟩ := vRead0 hd hk hq hkq hp hwv hn hn2 hl l0 l5 htd hby
  obtain ⟨τc, m', E', d1, d2, d3, d4⟩ := wRead0 hd' hx hbx hba hyn hno hl' r3 r1 r20 hn' hn2 hxb hb hs
  have d2' := zRq_cg (b' := σ.1 p1) (fun j hj => (hB j hj).symm) d2
  have z := zall hW hY c3 d2' c2 d3 c1 (by rcases d3 with y | y <;> omega)
  obtain ⟨hK, e, e9⟩ := c5 (fun j => τc.2.1 nm j)
  have hTm : zTm (zTo kA vA qA (F_X8_scan tk p1 p2 σ) (fun j => τc.2.1 nm j)) m := by
    refine ⟨fun j hj => zmono c3 j hj, fun j hj => ?_, fun j hj h22 => ?_⟩
    · obtain ⟨-, -, -, -, t1, t2, -, -⟩ := z j hj
      exact ⟨t1, t2⟩
    · obtain ⟨-, -, -, -, t1, t2, t3, -⟩ := z j hj
      exact t3 h22
  have d5 := d4 _ m hTm hK (fun j hj => by
    obtain ⟨-, -, t1, t2, -, -, -, t4⟩ := z j hj
    exact ⟨t2, t1.symm, fun y => (t4 y).symm, rfl⟩)
  exact ⟨e.trans d5.1.symm, e9.trans d5.2.symm⟩
