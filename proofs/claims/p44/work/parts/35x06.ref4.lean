section REFD
variable {L : List Nat} {kd : Nat → Nat} {m0 : Nat} {σ σ' τ : zS} {κ : Int}
/-- copies: the row is now; what else is written -/
theorem zCopies2 (hJ : zJ κ L kd σ) (hm : zT L kd m0 11) : (F_X11_copies m0 σ).2 = σ.2 ∧ (∀ j, j < 50 → (F_X11_copies m0 σ).1 (mR σ m0 49) j = σ.1 (mR σ m0 48) j) ∧ zFr (zFm [50, 51, 47] [49, 54, 52, 53, 45, 46, 55] m0 σ.2.2) σ (F_X11_copies m0 σ) := by
  have g : zFr (zFm [50, 51, 47] [49, 54, 52, 53, 45, 46, 55] m0 σ.2.2) σ (F_X11_copies m0 σ) := fr_X11_copies zFr.id (zFm.s rfl) (zFm.f rfl) (zFm.f rfl) (zFm.s rfl) (zFm.s rfl) (zFm.s rfl) (zFm.s rfl) (zFm.f rfl) (zFm.s rfl) (zFm.s rfl)
  refine ⟨g.1, fun j hj => ?_, g⟩
  rw [zCopies hJ hm rfl]
  have e2 : (zCp m0 σ σ).2.2 = σ.2.2 := rfl
  have g1 : zFr (zFm [47] [54, 52, 53, 45, 46, 55] m0 σ.2.2) (zCp m0 σ σ) (F_X11_fillsWays m0 (zCp m0 σ σ)) := fr_X11_fillsWays zFr.id (by rw [e2]; exact zFm.s rfl) (by rw [e2]; exact zFm.s rfl) (by rw [e2]; exact zFm.s rfl)
  have g2 : zFr (zFm [47] [54, 52, 53, 45, 46, 55] m0 σ.2.2) (zCp m0 σ σ) (F_X11_fillsFlows m0 0 (F_X11_fillsWays m0 (zCp m0 σ σ))) := fr_X11_fillsFlows g1 (by rw [e2]; exact zFm.s rfl) (zFm.f rfl) (by rw [e2]; exact zFm.s rfl) (by rw [e2]; exact zFm.s rfl)
  have rm : mR σ m0 49 ≠ m0 := mR_m hJ hm (s := 49) (k := 149) (by rfl) (by decide)
  rw [g2.2 (mR σ m0 49) j (by
    rintro (⟨e, -⟩ | ⟨t, ht, e⟩)
    · exact rm e
    · have h2 : zf 0 11 t = some (100 + t) ∧ t ≠ 49 := by
        simp only [List.mem_cons, List.not_mem_nil, or_false] at ht
        rcases ht with rfl | rfl | rfl | rfl | rfl | rfl <;> exact ⟨by rfl, by decide⟩
      exact mR_ne hJ hm (s := 49) (s' := t) (k := 149) (by rfl) h2.1 (by omega) e)]
  show zu (zu (zcf σ.1 (mR σ m0 49) (mR σ m0 48) 0 0 0 50) m0 50 _) m0 51 0 (mR σ m0 49) j = _
  rw [zu_n _ _ _ rm, zu_n _ _ _ rm, zcf_i ⟨by omega, by omega⟩]
  exact congrArg _ (by omega)
theorem rC_i {f : Nat → Nat → Int32} {r o j : Nat} (h : j < 50) : rC f r o j = f r (o + j) := if_pos h
def updR (r : Nat → Int32) (k : Nat) (v : Int32) : Nat → Int32 := fun j => if j = k then v else r j
/-- the history and what else a deed leaves (now' is the new now) -/
def zDone (σ : zS) (m0 : Nat) (u : Nat) (now' : Nat → Int32) (f : zS) : Prop := f.2 = σ.2 ∧ (f.1 m0 57).toInt = (if u = 40 then 40 else u + 1 : Nat) ∧ rC f.1 (mR σ m0 48) 0 = now' ∧ rC f.1 (mR σ m0 58) (50 * (if u = 40 then 39 else u)) = rC σ.1 (mR σ m0 48) 0 ∧ (∀ i, i < (if u = 40 then 39 else u) → rC f.1 (mR σ m0 58) (50 * i) = rC σ.1 (mR σ m0 58) (50 * (if u = 40 then i + 1 else i))) ∧ f.1 m0 18 = σ.1 m0 18 ∧ f.1 m0 62 = σ.1 m0 62 ∧ f.1 (mR σ m0 21) = σ.1 (mR σ m0 21) ∧ f.1 (mR σ m0 67) = σ.1 (mR σ m0 67) ∧ f.1 (mR σ m0 68) = σ.1 (mR σ m0 68)
/-- records, behind what leaves all but rows of its own -/
theorem zDone.of (hJ : zJ κ L kd σ) (hm : zT L kd m0 11) {u : Nat} (hu : (σ.1 m0 57).toInt = u) (hu2 : u ≤ 40) {F S : List Nat} (g : zFr (zFm F S m0 σ.2.2) σ τ) (hS : S.all (fun t => zf 0 11 t == some (100 + t)) = true) (hF : ([18, 57, 62].all (fun j => !(F.contains j))) = true) (hS2 : ([21, 48, 58, 67, 68].all (fun j => !(S.contains j))) = true) {now' : Nat → Int32} (hn : rC τ.1 (mR σ m0 49) 0 = now') : zDone σ m0 u now' (F_X11_records m0 τ) := by
  have fF : ∀ j, j = 18 ∨ j = 57 ∨ j = 62 → F.contains j = false := fun j hj => by
    have q := List.all_eq_true.mp hF j (by rcases hj with rfl | rfl | rfl <;> decide)
    simpa using q
  have fS : ∀ j, j = 21 ∨ j = 48 ∨ j = 58 ∨ j = 67 ∨ j = 68 → S.contains j = false := fun j hj => by
    have q := List.all_eq_true.mp hS2 j (by rcases hj with rfl | rfl | rfl | rfl | rfl <;> decide)
    simpa using q
  have k18 := zFm.fld hJ hm g hS (fF 18 (by omega))
  have k57 := zFm.fld hJ hm g hS (fF 57 (by omega))
  have k62 := zFm.fld hJ hm g hS (fF 62 (by omega))
  have r21 := zFm.row hJ hm g (s := 21) (by rfl) hS (fS 21 (by omega))
  have r48 := zFm.row hJ hm g (s := 48) (by rfl) hS (fS 48 (by omega))
  have r58 := zFm.row hJ hm g (s := 58) (by rfl) hS (fS 58 (by omega))
  have r67 := zFm.row hJ hm g (s := 67) (by rfl) hS (fS 67 (by omega))
  have r68 := zFm.row hJ hm g (s := 68) (by rfl) hS (fS 68 (by omega))
  obtain ⟨f, f0, f1, f2, f3, f4, f5, f6⟩ := zRec2 hJ hm g.1 (u := u) (by rw [k57]; exact hu) hu2
  have ne : ∀ s : Nat, zf 0 11 s = some (100 + s) → s ≠ 58 → s ≠ 48 → f (mR σ m0 s) = τ.1 (mR σ m0 s) := fun s hs h1 h2 => f6 _ (mR_m hJ hm hs (by omega)) (mR_ne hJ hm hs (s' := 58) (k' := 158) (by rfl) (by omega)) (mR_ne hJ hm hs (s' := 48) (k' := 148) (by rfl) (by omega))
  rw [f0]
  refine ⟨rfl, f1, ?_, f3.trans (rC_e (fun j _ => by rw [r48])), fun i hi => (f4 i hi).trans (rC_e (fun j _ => by rw [r58])), ?_, ?_, ?_, ?_, ?_⟩
  · rw [← hn]
    exact rC_e (fun j hj => by rw [Nat.zero_add]; exact f2 j hj)
  · exact (f5 18 (by decide)).trans k18
  · exact (f5 62 (by decide)).trans k62
  · exact (ne 21 (by rfl) (by decide) (by decide)).trans r21
  · exact (ne 67 (by rfl) (by decide) (by decide)).trans r67
  · exact (ne 68 (by rfl) (by decide) (by decide)).trans r68
theorem zDoes (hJ : zJ κ L kd σ) (hm : zT L kd m0 11) {u : Nat} (hu : (σ.1 m0 57).toInt = u) (hu2 : u ≤ 40) {p v : Int32} {k : Nat} (hp : p.toInt = k) (hk : k < 50) : zDone σ m0 u (updR (rC σ.1 (mR σ m0 48) 0) k v) (F_X11_does m0 p v σ) := by
  obtain ⟨c1, c2, c3⟩ := zCopies2 hJ hm
  have en : p.toNatClampNeg = k := by rw [ztn, hp]; rfl
  have er : ((F_X11_copies m0 σ).2.2 m0 49).getD 0 = mR σ m0 49 := by rw [c3.rf]
  unfold F_X11_does
  simp only [zlt, er, en]
  refine zDone.of hJ hm hu hu2 (F := [50, 51, 47]) (S := [49, 54, 52, 53, 45, 46, 55]) (c3.w (zFm.s (s := 49) rfl k)) (by rfl) (by rfl) (by rfl) ?_
  funext j
  by_cases hj : j < 50
  · rw [rC_i hj, Nat.zero_add]
    by_cases e : j = k
    · rw [show updR (rC σ.1 (mR σ m0 48) 0) k v j = v from if_pos e, e]
      exact zu_s _ _ _ _
    · rw [show updR (rC σ.1 (mR σ m0 48) 0) k v j = rC σ.1 (mR σ m0 48) 0 j from if_neg e, rC_i hj, Nat.zero_add]
      exact (zu_j _ _ _ _ _ (fun z => e z.symm)).trans (c2 j hj)
  · rw [show updR (rC σ.1 (mR σ m0 48) 0) k v j = rC σ.1 (mR σ m0 48) 0 j from if_neg (by omega)]
    unfold rC
    rw [if_neg hj, if_neg hj]
end REFD
