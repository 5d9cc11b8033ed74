theorem zb_mod {x y : Int32} {n : Int} (hy : y.toInt = n) (h0 : 0 ≤ x.toInt) : (x - x / y * y).toInt = x.toInt % n := by
  rw [rem_toInt, hy, Int.tmod_eq_emod_of_nonneg h0]
section ZLAY2
variable {L : List Nat} {kd : Nat → Nat} {x0 : Nat} {V : zWh} {ps pc sl : Nat} {σ : zS} {κ : Int} {b : Nat}
/-- what cells of other kinds hold stays -/
def zOth (ks : List Nat) (L : List Nat) (kd : Nat → Nat) (f g : Nat → Nat → Int32) : Prop := ∀ c ∈ L, kd c ∉ ks → g c = f c
theorem zOth.tr {ks : List Nat} {f g e : Nat → Nat → Int32} (h : zOth ks L kd f g) (q : zOth ks L kd g e) : zOth ks L kd f e := fun c hc n => (q c hc n).trans (h c hc n)
theorem zCopyO (h : zLay L kd x0 σ.2.2 V ps pc sl) {k q : Nat} (hk : k < 45) (hq : q < 45) : zOth [1, 22, 23, 24] L kd σ.1 (F_X1_copy (V.1 k) (V.1 q) σ).1 := fun c hc n => by
  obtain ⟨⟨tA, tI, tW, tM⟩, -⟩ := h.2.2.2.1 k hk
  refine (zCopy h hk hq).2.2.2 c (fun z => n ?_)
  rcases z with rfl | rfl | rfl | rfl
  · rw [tA.2]; decide
  · rw [tI.2]; decide
  · rw [tW.2]; decide
  · rw [tM.2]; decide
theorem zPush (h : zLay L kd x0 σ.2.2 V ps pc sl) {k : Nat} (hk : k < 45) {n u : Nat} (hn : (σ.1 ps 1).toInt = n) (hn2 : n < 40) (hu : (σ.1 ps 2).toInt = u) (hu2 : u ≤ 40) : ∃ σ' : zS, F_X4_push ps (V.1 k) σ = σ' ∧ σ'.2 = σ.2 ∧ zcc V σ'.1 (5 + n) = zcc V σ.1 k ∧ (∀ r, r < 45 → r ≠ 5 + n → zcc V σ'.1 r = zcc V σ.1 r) ∧ (σ'.1 ps 1).toInt = ((n + 1) % 40 : Nat) ∧ (σ'.1 ps 2).toInt = (if u = 40 then 40 else u + 1 : Nat) ∧ zOth [1, 4, 22, 23, 24] L kd σ.1 σ'.1 := by
  obtain ⟨⟨h1, h2, h3, h4, h5⟩, h6, h7, h8, h9, t0, t1, t2, t3⟩ := id h
  have g0 : (σ.2.2 ps 0).getD 0 = pc := by rw [h5]; rfl
  have en : (σ.1 ps 1).toNatClampNeg = n := by rw [ztn, hn]; rfl
  have g1 : (σ.2.2 pc n).getD 0 = V.1 (5 + n) := by rw [h7 n hn2]; rfl
  obtain ⟨c1, c2, c3, c4⟩ := zCopy h (k := 5 + n) (q := k) (by omega) hk
  have co := zCopyO h (k := 5 + n) (q := k) (by omega) hk
  obtain ⟨s, hs⟩ : ∃ s, s = F_X1_copy (V.1 (5 + n)) (V.1 k) σ := ⟨_, rfl⟩
  rw [← hs] at c1 c2 c3 c4 co
  have ep : s.1 ps = σ.1 ps := co ps t1.1 (by rw [t1.2]; decide)
  have e1 : (1 : Int32).toInt = 1 := by decide
  have e40 : (40 : Int32).toInt = 40 := by decide
  have a1 : (s.1 ps 1 + (1 : Int32)).toInt = n + 1 := by rw [ep, zb_add (by rw [hn, e1]; omega) (by rw [hn, e1]; omega), hn, e1]
  obtain ⟨w1, hw1⟩ : ∃ w, w = s.1 ps 1 + (1 : Int32) - (s.1 ps 1 + (1 : Int32)) / (40 : Int32) * (40 : Int32) := ⟨_, rfl⟩
  have b1 : w1.toInt = ((n + 1) % 40 : Nat) := by rw [hw1, zb_mod e40 (by omega), a1]; omega
  have f2 : zu s.1 ps 1 w1 ps 2 = σ.1 ps 2 := by rw [zu_j _ _ _ _ _ (by decide), ep]
  have a2 : (σ.1 ps 2 + (1 : Int32)).toInt = u + 1 := by rw [zb_add (by rw [hu, e1]; omega) (by rw [hu, e1]; omega), hu, e1]
  obtain ⟨w2, hw2⟩ : ∃ w, w = if (40 : Int32).toInt ≤ (σ.1 ps 2 + (1 : Int32)).toInt then (40 : Int32) else σ.1 ps 2 + (1 : Int32) := ⟨_, rfl⟩
  have b2 : w2.toInt = (if u = 40 then 40 else u + 1 : Nat) := by
    rw [hw2, e40, a2]
    by_cases c : u = 40
    · rw [if_pos (by omega), if_pos c]; exact e40
    · by_cases c2 : u = 39
      · rw [if_pos (by omega), if_neg c, c2]; exact e40
      · rw [if_neg (by omega), if_neg c]; exact a2
  have E : F_X4_push ps (V.1 k) σ = (zu (zu s.1 ps 1 w1) ps 2 w2, s.2) := by
    unfold F_X4_push
    simp only [zlt, g0, en, g1]
    rw [← hs]
    simp only [← hw1, f2, ← hw2]
  refine ⟨_, E, c1, ?_, fun r hr hnr => ?_, ?_, ?_, fun c hc n => ?_⟩
  · rw [← c2]
    obtain ⟨⟨tA, tI, tW, tM⟩, -⟩ := h8 (5 + n) (by omega)
    have q : ∀ {c kc : Nat}, zT L kd c kc → kc ≠ 4 → zu (zu s.1 ps 1 w1) ps 2 w2 c = s.1 c := fun tc nk => by rw [zu_n _ _ _ (zNk tc t1 nk), zu_n _ _ _ (zNk tc t1 nk)]
    exact zcc.st (q tA (by decide)) (q tI (by decide)) (q tW (by decide)) (q tM (by decide))
  · rw [← c3 r hr hnr]
    obtain ⟨⟨tA, tI, tW, tM⟩, -⟩ := h8 r hr
    have q : ∀ {c kc : Nat}, zT L kd c kc → kc ≠ 4 → zu (zu s.1 ps 1 w1) ps 2 w2 c = s.1 c := fun tc nk => by rw [zu_n _ _ _ (zNk tc t1 nk), zu_n _ _ _ (zNk tc t1 nk)]
    exact zcc.st (q tA (by decide)) (q tI (by decide)) (q tW (by decide)) (q tM (by decide))
  · show (zu (zu s.1 ps 1 w1) ps 2 w2 ps 1).toInt = _
    rw [zu_j _ _ _ _ _ (by decide), zu_s]; exact b1
  · show (zu (zu s.1 ps 1 w1) ps 2 w2 ps 2).toInt = _
    rw [zu_s]; exact b2
  · have n4 : ¬ c = ps := fun e => n (by rw [e, t1.2]; decide)
    show zu (zu s.1 ps 1 w1) ps 2 w2 c = _
    rw [zu_n _ _ _ n4, zu_n _ _ _ n4]
    exact co c hc (fun z => n (by
      simp only [List.mem_cons, List.not_mem_nil, or_false] at z ⊢
      omega))
theorem zPop (h : zLay L kd x0 σ.2.2 V ps pc sl) {n u : Nat} (hn : (σ.1 ps 1).toInt = n) (hn2 : n < 40) (hu : (σ.1 ps 2).toInt = u) (hu2 : u ≤ 40) : (u = 0 → F_X4_pop ps (V.1 0) σ = (0, σ)) ∧ (u ≠ 0 → ∃ σ' : zS, F_X4_pop ps (V.1 0) σ = (1, σ') ∧ σ'.2 = σ.2 ∧ zcc V σ'.1 0 = zcc V σ.1 (5 + (n + 39) % 40) ∧ (∀ r, r < 45 → r ≠ 0 → zcc V σ'.1 r = zcc V σ.1 r) ∧ (σ'.1 ps 1).toInt = ((n + 39) % 40 : Nat) ∧ (σ'.1 ps 2).toInt = (u - 1 : Nat) ∧ zOth [1, 4, 22, 23, 24] L kd σ.1 σ'.1) := by
  obtain ⟨⟨h1, h2, h3, h4, h5⟩, h6, h7, h8, h9, t0, t1, t2, t3⟩ := id h
  have g0 : (σ.2.2 ps 0).getD 0 = pc := by rw [h5]; rfl
  have e1 : (1 : Int32).toInt = 1 := by decide
  have e40 : (40 : Int32).toInt = 40 := by decide
  constructor
  · intro c
    unfold F_X4_pop
    simp only [zlt]
    rw [if_pos (by omega)]
  · intro c
    have a1 : (σ.1 ps 1 + (40 : Int32)).toInt = n + 40 := by rw [zb_add (by rw [hn, e40]; omega) (by rw [hn, e40]; omega), hn, e40]
    have a2 : (σ.1 ps 1 + (40 : Int32) - (1 : Int32)).toInt = n + 39 := by rw [zb_sub (by rw [a1, e1]; omega) (by rw [a1, e1]; omega), a1, e1]; omega
    obtain ⟨w1, hw1⟩ : ∃ w, w = σ.1 ps 1 + (40 : Int32) - (1 : Int32) - (σ.1 ps 1 + (40 : Int32) - (1 : Int32)) / (40 : Int32) * (40 : Int32) := ⟨_, rfl⟩
    have b1 : w1.toInt = ((n + 39) % 40 : Nat) := by rw [hw1, zb_mod e40 (by omega), a2]; omega
    have f2 : zu σ.1 ps 1 w1 ps 2 = σ.1 ps 2 := zu_j _ _ _ _ _ (by decide)
    have b2 : (σ.1 ps 2 - (1 : Int32)).toInt = (u - 1 : Nat) := by rw [zb_sub (by rw [hu, e1]; omega) (by rw [hu, e1]; omega), hu, e1]; omega
    obtain ⟨f, hf⟩ : ∃ f, f = zu (zu σ.1 ps 1 w1) ps 2 (σ.1 ps 2 - (1 : Int32)) := ⟨_, rfl⟩
    have fp1 : f ps 1 = w1 := by rw [hf, zu_j _ _ _ _ _ (by decide), zu_s]
    have fp2 : f ps 2 = σ.1 ps 2 - (1 : Int32) := by rw [hf, zu_s]
    have en : w1.toNatClampNeg = (n + 39) % 40 := by rw [ztn, b1]; rfl
    have g1 : (σ.2.2 pc ((n + 39) % 40)).getD 0 = V.1 (5 + (n + 39) % 40) := by rw [h7 _ (by omega)]; rfl
    have hL : zLay L kd x0 ((f, σ.2) : zS).2.2 V ps pc sl := h
    obtain ⟨c1, c2, c3, c4⟩ := zCopy hL (k := 0) (q := 5 + (n + 39) % 40) (by decide) (by omega)
    have co := zCopyO hL (k := 0) (q := 5 + (n + 39) % 40) (by decide) (by omega)
    have E : F_X4_pop ps (V.1 0) σ = (1, F_X1_copy (V.1 0) (V.1 (5 + (n + 39) % 40)) (f, σ.2)) := by
      unfold F_X4_pop
      simp only [zlt]
      rw [if_neg (by omega)]
      simp only [← hw1, f2, ← hf]
      simp only [g0, fp1, en, g1]
    have fo : ∀ {c kc : Nat}, zT L kd c kc → kc ≠ 4 → f c = σ.1 c := fun tc nk => by rw [hf, zu_n _ _ _ (zNk tc t1 nk), zu_n _ _ _ (zNk tc t1 nk)]
    have fc : ∀ r, r < 45 → zcc V f r = zcc V σ.1 r := fun r hr => by
      obtain ⟨⟨tA, tI, tW, tM⟩, -⟩ := h8 r hr
      exact zcc.st (fo tA (by decide)) (fo tI (by decide)) (fo tW (by decide)) (fo tM (by decide))
    have ep : (F_X1_copy (V.1 0) (V.1 (5 + (n + 39) % 40)) (f, σ.2)).1 ps = f ps := co ps t1.1 (by rw [t1.2]; decide)
    refine ⟨_, E, c1, ?_, fun r hr hnr => ?_, ?_, ?_, fun c hc nn => ?_⟩
    · rw [c2]; exact fc _ (by omega)
    · rw [c3 r hr hnr]; exact fc r hr
    · rw [ep, fp1]; exact b1
    · rw [ep, fp2]; exact b2
    · have q := co c hc (fun z => nn (by
        simp only [List.mem_cons, List.not_mem_nil, or_false] at z ⊢
        omega))
      rw [q]
      have n4 : ¬ c = ps := fun e => nn (by rw [e, t1.2]; decide)
      show f c = _
      rw [hf, zu_n _ _ _ n4, zu_n _ _ _ n4]
end ZLAY2
