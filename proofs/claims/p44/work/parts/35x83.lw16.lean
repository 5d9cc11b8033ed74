/-! WHAT A TEXT TELLS OF LAWS: the class -/
abbrev zGl : Type := Nat → Option (List zBr)
def aGL (T : zTn) (s : zA) (g : zGl) : zGl := if (2 ≤ T.1 s.2.2.1 ∧ T.1 s.2.2.1 ≤ 6) ∧ (aTell T s).1 = 0 then (fun k => if (k : Int) = T.1 s.2.2.1 - 2 then some (aLb T 10 0 (aTake T 25 (aTake T (2 + (T.1 s.2.2.1 - 2)) s))) else g k) else g
/-- a law that begins at i among the codes C -/
def zSub (C : zCs) (i : Nat) (B : List zBr) : Prop := ∃ pre post, C = pre ++ (cBr i B ++ post) ∧ pre.length = i
theorem zSub_app {C D : zCs} {i : Nat} {B : List zBr} (h : zSub C i B) : zSub (C ++ D) i B := by
  obtain ⟨pre, post, h1, h2⟩ := h
  exact ⟨pre, post ++ D, by rw [h1]; simp only [List.append_assoc], h2⟩
/-- the codes of the told and where its laws begin -/
def zCg (tt A6 A7 A9 : Nat) (τ : zS) (s : zA) (g : zGl) : Prop := s.1 = 0 → ∃ C, zCd tt A6 A7 0 τ C ∧ C.length ≤ 10 + s.2.2.1 ∧ ∀ k, k < 5 → okB (lwB k (g k)) ∧ ∃ i : Nat, (τ.1 A9 k).toInt = i ∧ zSub C i (lwB k (g k))
section CGL
variable {P tk kA vA qA tt N m A6 A7 A9 : Nat} {T : zTn} {τ τ' : zS} {s s' : zA} {g : zGl}
theorem zCg.zL {K v : Nat} (h : zCg tt A6 A7 A9 τ s g) (hs : s.1 = 0) (hK : (τ.1 tt 8).toInt = K) (hv : v < 5) : zLc A6 A7 A9 τ K v (g v) := by
  obtain ⟨C, ⟨-, h8, hh⟩, -, h⟩ := h hs
  obtain ⟨ho, i, h1, pre, post, h2, h3⟩ := h v hv
  refine ⟨ho, i, h1, ?_, ?_⟩
  · rw [h2] at hh
    have q := ((zHo_app _ _ _).mp hh).2
    rw [Nat.zero_add, h3] at q
    exact ((zHo_app _ _ _).mp q).1
  · have l : C.length = i + ((cBr i (lwB v (g v))).length + post.length) := by rw [h2, List.length_append, List.length_append, h3]
    omega
/-- a telling that is no law -/
theorem zCg.st (h : zCg tt A6 A7 A9 τ s g) (hs : s'.1 = 0 → s.1 = 0 ∧ s.2.2.1 ≤ s'.2.2.1) (e0 : τ'.2.2 = τ.2.2) (e8 : τ'.1 tt 8 = τ.1 tt 8) (e6 : τ'.1 A6 = τ.1 A6) (e7 : τ'.1 A7 = τ.1 A7) (e9 : τ'.1 A9 = τ.1 A9) : zCg tt A6 A7 A9 τ' s' g := fun z => by
  obtain ⟨z1, z2⟩ := hs z
  obtain ⟨C, ⟨hD, h8, hh⟩, hl, h⟩ := h z1
  refine ⟨C, ⟨by rw [e0]; exact hD, by rw [e8]; exact h8, zHo_cg C 0 (fun i _ _ => ⟨by rw [e6], by rw [e7]⟩) hh⟩, by omega, fun k hk => ?_⟩
  obtain ⟨ho, i, h1, h2⟩ := h k hk
  exact ⟨ho, i, by rw [e9]; exact h1, h2⟩
/-- a law told -/
theorem zCg.law (hd : zVd P tk kA vA qA N) (hT : zTK T m) (hP : tt ≠ P ∧ A6 ≠ P ∧ A7 ≠ P) (hN : zNn T m) (h1 : (τ.2.2 P 1).getD 0 = tt) (h67 : (τ.2.2 tt 6).getD 0 = A6 ∧ (τ.2.2 tt 7).getD 0 = A7) (h9 : (τ.2.2 tt 9).getD 0 = A9) (n9 : A9 ≠ P ∧ A9 ≠ tt ∧ A9 ≠ A6 ∧ A9 ≠ A7) (h : zCg tt A6 A7 A9 τ s g) (hv : zV P tk kA vA qA tt N m T τ s) (hs : s.1 = 0) {p1 : Int32} {w : Nat} (hp : p1.toInt = w) (hw : w < 5) (hz : (aTake T 24 (aLaw T w s)).1 = 0) : zCg tt A6 A7 A9 (F_X3_take P 24 (F_X3_law P p1 τ)) (aTake T 24 (aLaw T w s)) (fun k => if k = w then some (aLb T 10 0 (aTake T 25 (aTake T (2 + (w : Int)) s))) else g k) := fun _ => by
  obtain ⟨C, hC, hl, hk⟩ := h hs
  have e2 : (2 : Int32).toInt = 2 := by decide
  have np : p1.toNatClampNeg = w := by rw [ztn, hp]; rfl
  have zl := aTake_z hz
  have tz := aTake_i hz
  unfold aLaw at zl tz ⊢
  obtain ⟨s1, hs1⟩ : ∃ s1, s1 = aTake T (2 + (w : Int)) s := ⟨_, rfl⟩
  obtain ⟨s2, hs2⟩ : ∃ s2, s2 = aTake T 25 s1 := ⟨_, rfl⟩
  rw [← hs1, ← hs2] at zl tz ⊢
  have z2 : s2.1 = 0 := aLw_z zl
  have z1 : s1.1 = 0 := by rw [hs2] at z2; exact aTake_z z2
  have t1 := aTake_i (by rw [← hs1]; exact z1 : (aTake T (2 + (w : Int)) s).1 = 0)
  have t2 := aTake_i (by rw [← hs2]; exact z2 : (aTake T 25 s1).1 = 0)
  rw [← hs1] at t1
  rw [← hs2] at t2
  have a1 := vTake' hd hT hv (2 + p1) (2 + (w : Int)) (by rw [zb_add (by rw [e2]; omega) (by rw [e2]; omega), e2, hp]) (by omega)
  rw [← hs1] at a1
  have a2 := vTake' hd hT a1 25 25 (by decide) (by decide)
  rw [← hs2] at a2
  have c2 := cTake (cTake hC hP (2 + p1)) hP 25
  obtain ⟨τ2, ht2⟩ : ∃ t, t = F_X3_take P 25 (F_X3_take P (2 + p1) τ) := ⟨_, rfl⟩
  have g2 : zFi (zAl P tt A6 A7) τ τ2 := by rw [ht2]; exact fi_X3_take (fi_X3_take zFi.id (Or.inl rfl) (Or.inl rfl) (Or.inl rfl) (Or.inl rfl) (Or.inl rfl)) (Or.inl rfl) (Or.inl rfl) (Or.inl rfl) (Or.inl rfl) (Or.inl rfl)
  rw [← ht2] at a2 c2
  have i8 : (τ2.1 tt 8).toInt = (C.length : Int) := by have := c2.2.1; omega
  obtain ⟨τ', u1, u2, u3, u4, u5⟩ := cLaw_loop (p1 := p1) (v7 := τ2.1 tt 8) hd hT hP hN h1 h67 h9 10000 0 0 τ2 s2 C (by decide) (by omega) (by omega) a2 g2 c2 (by omega) 10 (by omega) zl
  have e00 : ((0 : Nat) : Int) = 0 := rfl
  rw [e00] at u3 u4 u5
  have E : F_X3_law P p1 τ = (zu τ'.1 A9 w (τ2.1 tt 8), τ'.2.1, τ'.2.2) := by
    unfold F_X3_law
    simp only [zlt]
    rw [← ht2, show (τ2.2.2 P 1).getD 0 = tt by rw [g2.1]; exact h1, u1, np]
  rw [E]
  obtain ⟨hD, h8, hh⟩ := u3
  have k3 : zCd tt A6 A7 0 (zu τ'.1 A9 w (τ2.1 tt 8), τ'.2.1, τ'.2.2) (C ++ cBr C.length (aLb T 10 0 s2)) := ⟨hD, by show (zu τ'.1 A9 w (τ2.1 tt 8) tt 8).toInt = _; rw [zu_n _ _ _ (fun z => n9.2.1 z.symm)]; exact h8, zHo_cg _ 0 (fun i _ _ => ⟨by show zu τ'.1 A9 w (τ2.1 tt 8) A6 i = _; rw [zu_n _ _ _ (fun z => n9.2.2.1 z.symm)], by show zu τ'.1 A9 w (τ2.1 tt 8) A7 i = _; rw [zu_n _ _ _ (fun z => n9.2.2.2 z.symm)]⟩) hh⟩
  have ft : zFi (fun b _ => b = P) (zu τ'.1 A9 w (τ2.1 tt 8), τ'.2.1, τ'.2.2) (F_X3_take P 24 (zu τ'.1 A9 w (τ2.1 tt 8), τ'.2.1, τ'.2.2)) := fi_X3_take zFi.id rfl rfl rfl rfl rfl
  refine ⟨_, cTake k3 hP 24, by rw [tz.2.2.1]; omega, fun k hk5 => ?_⟩
  have c9 : (F_X3_take P 24 (zu τ'.1 A9 w (τ2.1 tt 8), τ'.2.1, τ'.2.2)).1 A9 k = zu τ'.1 A9 w (τ2.1 tt 8) A9 k := ft.2 A9 k n9.1
  show okB (lwB k (if k = w then some (aLb T 10 0 s2) else g k)) ∧ ∃ i : Nat, ((F_X3_take P 24 (zu τ'.1 A9 w (τ2.1 tt 8), τ'.2.1, τ'.2.2)).1 A9 k).toInt = i ∧ zSub (C ++ cBr C.length (aLb T 10 0 s2)) i (lwB k (if k = w then some (aLb T 10 0 s2) else g k))
  by_cases e : k = w
  · rw [if_pos e]
    refine ⟨u5, C.length, ?_, C, [], ?_, rfl⟩
    · rw [c9, e, zu_s]
      exact i8
    · show _ = C ++ (cBr C.length (aLb T 10 0 s2) ++ [])
      rw [List.append_nil]
  · rw [if_neg e]
    obtain ⟨ho, i, q1, q2⟩ := hk k hk5
    refine ⟨ho, i, ?_, zSub_app q2⟩
    rw [c9, zu_j _ _ _ _ _ (fun z => e z.symm), u2.2 A9 k (by
      rintro (z | z | z | z)
      · exact n9.1 z
      · exact n9.2.1 z.1
      · exact n9.2.2.1 z
      · exact n9.2.2.2 z)]
    exact q1
end CGL
