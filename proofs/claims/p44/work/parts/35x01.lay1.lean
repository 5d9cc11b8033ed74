/-! THE CLASS' COURSES: where they lie (0: now, 1: tried, 2..4: held, 5..44: past), what each holds -/
abbrev zCo : Type := (Nat → Int32) × (Nat → Int32) × (Nat → Int32) × Int32 × Int32 × Int32
def zt12 (f : Nat → Int32) : Nat → Int32 := fun j => if j < 12 then f j else 0
/-- where: objects, their three rows -/
abbrev zWh : Type := (Nat → Nat) × (Nat → Nat) × (Nat → Nat) × (Nat → Nat)
def zcc (V : zWh) (f : Nat → Nat → Int32) (k : Nat) : zCo := (zt12 (f (V.2.1 k)), zt12 (f (V.2.2.1 k)), zt12 (f (V.2.2.2 k)), f (V.1 k) 3, f (V.1 k) 4, f (V.1 k) 5)
def zLay (L : List Nat) (kd : Nat → Nat) (x0 : Nat) (R : Nat → Nat → Option Nat) (V : zWh) (ps pc sl : Nat) : Prop :=
  (R x0 6 = some (V.1 0) ∧ R x0 7 = some (V.1 1) ∧ R x0 8 = some sl ∧ R x0 4 = some ps ∧ R ps 0 = some pc) ∧ (∀ s, s < 3 → R sl s = some (V.1 (2 + s))) ∧ (∀ i, i < 40 → R pc i = some (V.1 (5 + i))) ∧ (∀ k, k < 45 → (zT L kd (V.1 k) 1 ∧ zT L kd (V.2.1 k) 22 ∧ zT L kd (V.2.2.1 k) 23 ∧ zT L kd (V.2.2.2 k) 24) ∧ R (V.1 k) 0 = some (V.2.1 k) ∧ R (V.1 k) 1 = some (V.2.2.1 k) ∧ R (V.1 k) 2 = some (V.2.2.2 k)) ∧ (∀ k k', k < 45 → k' < 45 → V.1 k = V.1 k' ∨ V.2.1 k = V.2.1 k' ∨ V.2.2.1 k = V.2.2.1 k' ∨ V.2.2.2 k = V.2.2.2 k' → k = k') ∧ zT L kd x0 10 ∧ zT L kd ps 4 ∧ zT L kd pc 29 ∧ zT L kd sl 52
section ZLAY
variable {L : List Nat} {kd : Nat → Nat} {x0 : Nat} {R R' : Nat → Nat → Option Nat} {V : zWh} {ps pc sl : Nat} {σ σ' : zS} {κ : Int}
/-- the references that never change -/
theorem zLay.keep (h : zLay L kd x0 R V ps pc sl) (e : ∀ a ∈ L, kd a = 1 ∨ kd a = 4 ∨ kd a = 29 ∨ kd a = 52 → R' a = R a) (e0 : ∀ j, j < 10 → R' x0 j = R x0 j) : zLay L kd x0 R' V ps pc sl := by
  obtain ⟨⟨h1, h2, h3, h4, h5⟩, h6, h7, h8, h9, t0, t1, t2, t3⟩ := h
  refine ⟨⟨by rw [e0 6 (by decide)]; exact h1, by rw [e0 7 (by decide)]; exact h2, by rw [e0 8 (by decide)]; exact h3, by rw [e0 4 (by decide)]; exact h4, by rw [e ps t1.1 (by rw [t1.2]; decide)]; exact h5⟩, fun s hs => by rw [e sl t3.1 (by rw [t3.2]; decide)]; exact h6 s hs, fun i hi => by rw [e pc t2.1 (by rw [t2.2]; decide)]; exact h7 i hi, fun k hk => ?_, h9, t0, t1, t2, t3⟩
  obtain ⟨q0, q1, q2, q3⟩ := h8 k hk
  have e1 := e (V.1 k) q0.1.1 (by rw [q0.1.2]; decide)
  exact ⟨q0, by rw [e1]; exact q1, by rw [e1]; exact q2, by rw [e1]; exact q3⟩
theorem zLay.gA (h : zLay L kd x0 R V ps pc sl) {k : Nat} (hk : k < 45) : (R (V.1 k) 0).getD 0 = V.2.1 k ∧ (R (V.1 k) 1).getD 0 = V.2.2.1 k ∧ (R (V.1 k) 2).getD 0 = V.2.2.2 k := by
  obtain ⟨q0, q1, q2, q3⟩ := h.2.2.2.1 k hk
  rw [q1, q2, q3]
  exact ⟨rfl, rfl, rfl⟩
theorem zt12_e {u v : Nat → Int32} (h : ∀ j, j < 12 → u j = v j) : zt12 u = zt12 v := by
  funext j
  unfold zt12
  by_cases c : j < 12
  · rw [if_pos c, if_pos c, h j c]
  · rw [if_neg c, if_neg c]
theorem zcc.eq {f g : Nat → Nat → Int32} {k q : Nat} (h1 : ∀ j, j < 12 → f (V.2.1 k) j = g (V.2.1 q) j) (h2 : ∀ j, j < 12 → f (V.2.2.1 k) j = g (V.2.2.1 q) j) (h3 : ∀ j, j < 12 → f (V.2.2.2 k) j = g (V.2.2.2 q) j) (h4 : ∀ j, j = 3 ∨ j = 4 ∨ j = 5 → f (V.1 k) j = g (V.1 q) j) : zcc V f k = zcc V g q := by
  unfold zcc
  rw [h4 3 (by omega), h4 4 (by omega), h4 5 (by omega), zt12_e h1, zt12_e h2, zt12_e h3]
theorem zcc.st {f g : Nat → Nat → Int32} {k : Nat} (h1 : f (V.1 k) = g (V.1 k)) (h2 : f (V.2.1 k) = g (V.2.1 k)) (h3 : f (V.2.2.1 k) = g (V.2.2.1 k)) (h4 : f (V.2.2.2 k) = g (V.2.2.2 k)) : zcc V f k = zcc V g k := by
  unfold zcc
  rw [h1, h2, h3, h4]
def zc12 (f : Nat → Nat → Int32) (a b : Nat) : Nat → Nat → Int32 := fun c => if c = b then va_cpy (f a) (f b) 0 0 12 else f c
theorem zc12_b {f : Nat → Nat → Int32} {a b j : Nat} (h : j < 12) : zc12 f a b b j = f a j := by
  unfold zc12 va_cpy
  rw [if_pos rfl, if_pos (by omega)]
  congr 1
  omega
theorem zc12_n {f : Nat → Nat → Int32} {a b c : Nat} (h : ¬ c = b) : zc12 f a b c = f c := by
  unfold zc12
  rw [if_neg h]
/-- a course is copied: its rows and numbers alone are written -/
theorem zCopy (h : zLay L kd x0 σ.2.2 V ps pc sl) {k q : Nat} (hk : k < 45) (hq : q < 45) : (F_X1_copy (V.1 k) (V.1 q) σ).2 = σ.2 ∧ zcc V (F_X1_copy (V.1 k) (V.1 q) σ).1 k = zcc V σ.1 q ∧ (∀ r, r < 45 → r ≠ k → zcc V (F_X1_copy (V.1 k) (V.1 q) σ).1 r = zcc V σ.1 r) ∧ ∀ c, ¬ (c = V.1 k ∨ c = V.2.1 k ∨ c = V.2.2.1 k ∨ c = V.2.2.2 k) → (F_X1_copy (V.1 k) (V.1 q) σ).1 c = σ.1 c := by
  obtain ⟨a0, a1, a2⟩ := h.gA hk
  obtain ⟨b0, b1, b2⟩ := h.gA hq
  obtain ⟨⟨tA, tI, tW, tM⟩, -⟩ := h.2.2.2.1 k hk
  obtain ⟨⟨uA, uI, uW, uM⟩, -⟩ := h.2.2.2.1 q hq
  have n : ∀ {a b ka kb : Nat}, zT L kd a ka → zT L kd b kb → ka ≠ kb → ¬ a = b := fun ha hb hn => zNk ha hb hn
  obtain ⟨f1, e1⟩ : ∃ f, f = zc12 σ.1 (V.2.1 q) (V.2.1 k) := ⟨_, rfl⟩
  obtain ⟨f2, e2⟩ : ∃ f, f = zc12 f1 (V.2.2.1 q) (V.2.2.1 k) := ⟨_, rfl⟩
  obtain ⟨f3, e3⟩ : ∃ f, f = zc12 f2 (V.2.2.2 q) (V.2.2.2 k) := ⟨_, rfl⟩
  obtain ⟨f4, e4⟩ : ∃ f, f = zu f3 (V.1 k) 3 (f3 (V.1 q) 3) := ⟨_, rfl⟩
  obtain ⟨f5, e5⟩ : ∃ f, f = zu f4 (V.1 k) 4 (f4 (V.1 q) 4) := ⟨_, rfl⟩
  obtain ⟨f6, e6⟩ : ∃ f, f = zu f5 (V.1 k) 5 (f5 (V.1 q) 5) := ⟨_, rfl⟩
  have E : F_X1_copy (V.1 k) (V.1 q) σ = (f6, σ.2) := by
    rw [e6, e5, e4, e3, e2, e1]
    unfold F_X1_copy
    simp only [zlt, a0, a1, a2, b0, b1, b2]
    rfl
  rw [E]
  have o : ∀ c, ¬ (c = V.1 k ∨ c = V.2.1 k ∨ c = V.2.2.1 k ∨ c = V.2.2.2 k) → f6 c = σ.1 c := fun c hc => by
    rw [e6, zu_n _ _ _ (fun z => hc (Or.inl z)), e5, zu_n _ _ _ (fun z => hc (Or.inl z)), e4, zu_n _ _ _ (fun z => hc (Or.inl z)), e3, zc12_n (fun z => hc (Or.inr (Or.inr (Or.inr z)))), e2, zc12_n (fun z => hc (Or.inr (Or.inr (Or.inl z)))), e1, zc12_n (fun z => hc (Or.inr (Or.inl z)))]
  refine ⟨rfl, ?_, fun r hr hn => ?_, o⟩
  · have s6 : ∀ c, ¬ c = V.1 k → f6 c = f3 c := fun c hc => by rw [e6, zu_n _ _ _ hc, e5, zu_n _ _ _ hc, e4, zu_n _ _ _ hc]
    refine zcc.eq (fun j hj => ?_) (fun j hj => ?_) (fun j hj => ?_) (fun j hj => ?_)
    · show f6 (V.2.1 k) j = σ.1 (V.2.1 q) j
      rw [s6 _ (n tI tA (by decide)), e3, zc12_n (n tI tM (by decide)), e2, zc12_n (n tI tW (by decide)), e1, zc12_b hj]
    · show f6 (V.2.2.1 k) j = σ.1 (V.2.2.1 q) j
      rw [s6 _ (n tW tA (by decide)), e3, zc12_n (n tW tM (by decide)), e2, zc12_b hj, e1, zc12_n (n uW tI (by decide))]
    · show f6 (V.2.2.2 k) j = σ.1 (V.2.2.2 q) j
      rw [s6 _ (n tM tA (by decide)), e3, zc12_b hj, e2, zc12_n (n uM tW (by decide)), e1, zc12_n (n uM tI (by decide))]
    · show f6 (V.1 k) j = σ.1 (V.1 q) j
      have s3 : ∀ c, zT L kd c 1 → f3 c = σ.1 c := fun c hc => by rw [e3, zc12_n (n hc tM (by decide)), e2, zc12_n (n hc tW (by decide)), e1, zc12_n (n hc tI (by decide))]
      by_cases c : V.1 q = V.1 k
      · have w : ∀ (f : Nat → Nat → Int32) (i : Nat), zu f (V.1 k) i (f (V.1 q) i) = f := fun f i => by
          rw [c]
          funext x y
          unfold zu
          split
          · next h1 =>
            split
            · next h2 => rw [h1, h2]
            · rfl
          · rfl
        rw [e6, w, e5, w, e4, w, s3 _ tA, c]
      · have c' : ¬ V.1 q = V.1 k := c
        have v3 : f3 (V.1 q) = σ.1 (V.1 q) := s3 _ uA
        have v4 : f4 (V.1 q) = σ.1 (V.1 q) := by rw [e4, zu_n _ _ _ c', v3]
        have v5 : f5 (V.1 q) = σ.1 (V.1 q) := by rw [e5, zu_n _ _ _ c', v4]
        rcases hj with rfl | rfl | rfl
        · rw [e6, zu_j _ _ _ _ _ (by decide), e5, zu_j _ _ _ _ _ (by decide), e4, zu_s, v3]
        · rw [e6, zu_j _ _ _ _ _ (by decide), e5, zu_s, v4]
        · rw [e6, zu_s, v5]
  · have hi : ∀ x, x < 45 → V.1 x = V.1 k ∨ V.2.1 x = V.2.1 k ∨ V.2.2.1 x = V.2.2.1 k ∨ V.2.2.2 x = V.2.2.2 k → x = k := fun x hx => h.2.2.2.2.1 x k hx hk
    obtain ⟨⟨wA, wI, wW, wM⟩, -⟩ := h.2.2.2.1 r hr
    have nA : ¬ V.1 r = V.1 k := fun z => hn (hi r hr (Or.inl z))
    have nI : ¬ V.2.1 r = V.2.1 k := fun z => hn (hi r hr (Or.inr (Or.inl z)))
    have nW : ¬ V.2.2.1 r = V.2.2.1 k := fun z => hn (hi r hr (Or.inr (Or.inr (Or.inl z))))
    have nM : ¬ V.2.2.2 r = V.2.2.2 k := fun z => hn (hi r hr (Or.inr (Or.inr (Or.inr z))))
    refine zcc.st (o _ ?_) (o _ ?_) (o _ ?_) (o _ ?_)
    · rintro (z | z | z | z)
      · exact nA z
      · exact n wA tI (by decide) z
      · exact n wA tW (by decide) z
      · exact n wA tM (by decide) z
    · rintro (z | z | z | z)
      · exact n wI tA (by decide) z
      · exact nI z
      · exact n wI tW (by decide) z
      · exact n wI tM (by decide) z
    · rintro (z | z | z | z)
      · exact n wW tA (by decide) z
      · exact n wW tI (by decide) z
      · exact nW z
      · exact n wW tM (by decide) z
    · rintro (z | z | z | z)
      · exact n wM tA (by decide) z
      · exact n wM tI (by decide) z
      · exact n wM tW (by decide) z
      · exact nM z
end ZLAY
