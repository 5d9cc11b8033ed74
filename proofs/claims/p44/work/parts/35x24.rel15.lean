/-! BEGINNINGS -/
def zf12 (f : Nat → Nat → Int32) (r : Nat) : Nat → Nat → Int32 := fun q => if q = r then (fun j => if j < 12 then (0 : Int32) else f r j) else f q
theorem zf12_b {f : Nat → Nat → Int32} {r j : Nat} (h : j < 12) : zf12 f r r j = 0 := by
  unfold zf12
  rw [if_pos rfl, if_pos h]
theorem zf12_n {f : Nat → Nat → Int32} {r c : Nat} (h : ¬ c = r) : zf12 f r c = f c := if_neg h
section BEGC
variable {L : List Nat} {kd : Nat → Nat} {x0 : Nat} {V : zWh} {ps pc sl td ti dy : Nat} {σ : zS}
/-- the class begins anew: now is the tree told, nothing is past, held or dyed -/
theorem cBeg (hL : zLay L kd x0 σ.2.2 V ps pc sl) (d1 : (σ.2.2 x0 10).getD 0 = td) (d2 : (σ.2.2 td 2).getD 0 = ti) (ht : zT L kd ti 45) (y1 : (σ.2.2 x0 5).getD 0 = dy) (ty : zT L kd dy 2) : (F_X10_beginAnew x0 σ).2 = σ.2 ∧ zcc V (F_X10_beginAnew x0 σ).1 0 = (zt12 (σ.1 ti), fun _ => 0, fun _ => 0, 0, 0, 0) ∧ (∀ k, k < 45 → k ≠ 0 → zcc V (F_X10_beginAnew x0 σ).1 k = zcc V σ.1 k) ∧ (F_X10_beginAnew x0 σ).1 ps 1 = σ.1 ps 1 ∧ (F_X10_beginAnew x0 σ).1 ps 2 = 0 ∧ (F_X10_beginAnew x0 σ).1 dy 4 = 0 ∧ (F_X10_beginAnew x0 σ).1 x0 12 = 0 ∧ ∀ c, ¬ (c = V.1 0 ∨ c = V.2.1 0 ∨ c = V.2.2.1 0 ∨ c = V.2.2.2 0 ∨ c = ps ∨ c = dy ∨ c = x0) → (F_X10_beginAnew x0 σ).1 c = σ.1 c := by
  obtain ⟨a0, a1, a2⟩ := hL.gA (k := 0) (by decide)
  obtain ⟨⟨tA, tI, tW, tM⟩, -⟩ := hL.2.2.2.1 0 (by decide)
  have tp : zT L kd ps 4 := hL.2.2.2.2.2.2.1
  have tx : zT L kd x0 10 := hL.2.2.2.2.2.1
  have g6 : (σ.2.2 x0 6).getD 0 = V.1 0 := xnw hL
  have g4 : (σ.2.2 x0 4).getD 0 = ps := by rw [hL.1.2.2.2.1]; rfl
  have n : ∀ {a b ka kb : Nat}, zT L kd a ka → zT L kd b kb → ka ≠ kb → ¬ a = b := fun ha hb hn => zNk ha hb hn
  obtain ⟨f1, e1⟩ : ∃ f, f = zc12 σ.1 ti (V.2.1 0) := ⟨_, rfl⟩
  obtain ⟨f2, e2⟩ : ∃ f, f = zf12 f1 (V.2.2.1 0) := ⟨_, rfl⟩
  obtain ⟨f3, e3⟩ : ∃ f, f = zf12 f2 (V.2.2.2 0) := ⟨_, rfl⟩
  obtain ⟨f4, e4⟩ : ∃ f, f = zu f3 (V.1 0) 3 (0 : Int32) := ⟨_, rfl⟩
  obtain ⟨f5, e5⟩ : ∃ f, f = zu f4 (V.1 0) 4 (0 : Int32) := ⟨_, rfl⟩
  obtain ⟨f6, e6⟩ : ∃ f, f = zu f5 (V.1 0) 5 (0 : Int32) := ⟨_, rfl⟩
  obtain ⟨f7, e7⟩ : ∃ f, f = zu f6 ps 2 (0 : Int32) := ⟨_, rfl⟩
  obtain ⟨f8, e8⟩ : ∃ f, f = zu f7 dy 4 (0 : Int32) := ⟨_, rfl⟩
  obtain ⟨f9, e9⟩ : ∃ f, f = zu f8 x0 12 (0 : Int32) := ⟨_, rfl⟩
  have E1 : F_X1_begin (V.1 0) td σ = (f6, σ.2) := by
    rw [e6, e5, e4, e3, e2, e1]
    unfold F_X1_begin
    simp only [zlt, a0, d2]
    have r1 : ((zcpy σ ti (V.2.1 0) 12).2.2 (V.1 0) 1).getD 0 = V.2.2.1 0 := a1
    rw [r1]
    have r2 : ((zfil (zcpy σ ti (V.2.1 0) 12) (V.2.2.1 0) 0 12).2.2 (V.1 0) 2).getD 0 = V.2.2.2 0 := a2
    rw [r2]
    rfl
  have E : F_X10_beginAnew x0 σ = (f9, σ.2) := by
    unfold F_X10_beginAnew
    simp only [zlt, g6, d1, E1, g4, y1]
    rw [e9, e8, e7]
  rw [E]
  have o : ∀ c, ¬ (c = V.1 0 ∨ c = V.2.1 0 ∨ c = V.2.2.1 0 ∨ c = V.2.2.2 0 ∨ c = ps ∨ c = dy ∨ c = x0) → f9 c = σ.1 c := fun c hc => by
    have h1 : ¬ c = V.1 0 := fun z => hc (Or.inl z)
    have h2 : ¬ c = V.2.1 0 := fun z => hc (Or.inr (Or.inl z))
    have h3 : ¬ c = V.2.2.1 0 := fun z => hc (Or.inr (Or.inr (Or.inl z)))
    have h4 : ¬ c = V.2.2.2 0 := fun z => hc (Or.inr (Or.inr (Or.inr (Or.inl z))))
    have h5 : ¬ c = ps := fun z => hc (Or.inr (Or.inr (Or.inr (Or.inr (Or.inl z)))))
    have h6 : ¬ c = dy := fun z => hc (Or.inr (Or.inr (Or.inr (Or.inr (Or.inr (Or.inl z))))))
    have h7 : ¬ c = x0 := fun z => hc (Or.inr (Or.inr (Or.inr (Or.inr (Or.inr (Or.inr z))))))
    rw [e9, zu_n _ _ _ h7, e8, zu_n _ _ _ h6, e7, zu_n _ _ _ h5, e6, zu_n _ _ _ h1, e5, zu_n _ _ _ h1, e4, zu_n _ _ _ h1, e3, zf12_n h4, e2, zf12_n h3, e1, zc12_n h2]
  have t6 : ∀ {c k : Nat}, zT L kd c k → k ≠ 4 → k ≠ 2 → k ≠ 10 → f9 c = f6 c := fun hc h1 h2 h3 => by
    rw [e9, zu_n _ _ _ (n hc tx h3), e8, zu_n _ _ _ (n hc ty h2), e7, zu_n _ _ _ (n hc tp h1)]
  have s6 : ∀ {c k : Nat}, zT L kd c k → k ≠ 1 → f6 c = f3 c := fun hc h1 => by
    rw [e6, zu_n _ _ _ (n hc tA h1), e5, zu_n _ _ _ (n hc tA h1), e4, zu_n _ _ _ (n hc tA h1)]
  refine ⟨rfl, ?_, fun k hk h0 => ?_, ?_, ?_, ?_, ?_, o⟩
  · have z1 : zt12 (f9 (V.2.1 0)) = zt12 (σ.1 ti) := zt12_e (fun j hj => by
      rw [t6 tI (by decide) (by decide) (by decide), s6 tI (by decide), e3, zf12_n (n tI tM (by decide)), e2, zf12_n (n tI tW (by decide)), e1, zc12_b hj])
    have z2 : zt12 (f9 (V.2.2.1 0)) = fun _ => 0 := funext (fun j => by
      unfold zt12
      split
      · next hj => rw [t6 tW (by decide) (by decide) (by decide), s6 tW (by decide), e3, zf12_n (n tW tM (by decide)), e2, zf12_b hj]
      · rfl)
    have z3 : zt12 (f9 (V.2.2.2 0)) = fun _ => 0 := funext (fun j => by
      unfold zt12
      split
      · next hj => rw [t6 tM (by decide) (by decide) (by decide), s6 tM (by decide), e3, zf12_b hj]
      · rfl)
    show (zt12 (f9 (V.2.1 0)), zt12 (f9 (V.2.2.1 0)), zt12 (f9 (V.2.2.2 0)), f9 (V.1 0) 3, f9 (V.1 0) 4, f9 (V.1 0) 5) = _
    rw [z1, z2, z3, t6 tA (by decide) (by decide) (by decide), e6, zu_s, zu_j _ _ _ _ _ (by decide), zu_j _ _ _ _ _ (by decide), e5, zu_s, zu_j _ _ _ _ _ (by decide), e4, zu_s]
  · obtain ⟨⟨uA, uI, uW, uM⟩, -⟩ := hL.2.2.2.1 k hk
    have hi := hL.2.2.2.2.1 k 0 hk (by decide)
    have key : ∀ {c q : Nat}, zT L kd c q → q ≠ 4 → q ≠ 2 → q ≠ 10 → ¬ c = V.1 0 → ¬ c = V.2.1 0 → ¬ c = V.2.2.1 0 → ¬ c = V.2.2.2 0 → f9 c = σ.1 c := fun hc q1 q2 q3 h1 h2 h3 h4 => o _ (by
      rintro (z | z | z | z | z | z | z)
      · exact h1 z
      · exact h2 z
      · exact h3 z
      · exact h4 z
      · exact n hc tp q1 z
      · exact n hc ty q2 z
      · exact n hc tx q3 z)
    exact zcc.st (key uA (by decide) (by decide) (by decide) (fun z => h0 (hi (Or.inl z))) (n uA tI (by decide)) (n uA tW (by decide)) (n uA tM (by decide))) (key uI (by decide) (by decide) (by decide) (n uI tA (by decide)) (fun z => h0 (hi (Or.inr (Or.inl z)))) (n uI tW (by decide)) (n uI tM (by decide))) (key uW (by decide) (by decide) (by decide) (n uW tA (by decide)) (n uW tI (by decide)) (fun z => h0 (hi (Or.inr (Or.inr (Or.inl z))))) (n uW tM (by decide))) (key uM (by decide) (by decide) (by decide) (n uM tA (by decide)) (n uM tI (by decide)) (n uM tW (by decide)) (fun z => h0 (hi (Or.inr (Or.inr (Or.inr z))))))
  · show f9 ps 1 = σ.1 ps 1
    rw [e9, zu_n _ _ _ (n tp tx (by decide)), e8, zu_n _ _ _ (n tp ty (by decide)), e7, zu_j _ _ _ _ _ (by decide), s6 tp (by decide), e3, zf12_n (n tp tM (by decide)), e2, zf12_n (n tp tW (by decide)), e1, zc12_n (n tp tI (by decide))]
  · show f9 ps 2 = 0
    rw [e9, zu_n _ _ _ (n tp tx (by decide)), e8, zu_n _ _ _ (n tp ty (by decide)), e7, zu_s]
  · show f9 dy 4 = 0
    rw [e9, zu_n _ _ _ (n ty tx (by decide)), e8, zu_s]
  · show f9 x0 12 = 0
    rw [e9, zu_s]
end BEGC
