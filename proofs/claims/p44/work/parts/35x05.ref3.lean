theorem zf_100 {s : Nat} (h : zf 0 11 s = some (100 + s)) : 100 + s ≠ 11 := by omega
section REFC
variable {L : List Nat} {kd : Nat → Nat} {m0 : Nat} {σ σ' τ : zS} {κ : Int}
/-- places of the reference: numbers of its own, rows -/
def zFm (F S : List Nat) (m0 : Nat) (R : Nat → Nat → Option Nat) : Nat → Nat → Prop := fun c j => (c = m0 ∧ j ∈ F) ∨ ∃ s ∈ S, c = (R m0 s).getD 0
theorem zFm.f {F S : List Nat} {R : Nat → Nat → Option Nat} {j : Nat} (h : F.contains j = true) : zFm F S m0 R m0 j := Or.inl ⟨rfl, by simpa using h⟩
theorem zFm.s {F S : List Nat} {R : Nat → Nat → Option Nat} {s : Nat} (h : S.contains s = true) : ∀ j, zFm F S m0 R ((R m0 s).getD 0) j := fun _ => Or.inr ⟨s, by simpa using h, rfl⟩
/-- a row that isn't among them stays -/
theorem zFm.row {F S : List Nat} (hJ : zJ κ L kd σ) (hm : zT L kd m0 11) (g : zFr (zFm F S m0 σ.2.2) σ σ') {s : Nat} (hs : zf 0 11 s = some (100 + s)) (hS : S.all (fun t => zf 0 11 t == some (100 + t)) = true) (h : S.contains s = false) : σ'.1 (mR σ m0 s) = σ.1 (mR σ m0 s) := by
  funext j
  refine g.2 _ j ?_
  rintro (⟨e, -⟩ | ⟨t, ht, e⟩)
  · exact mR_m hJ hm hs (by have := zf_100 hs; omega) e
  · have h1 := List.all_eq_true.mp hS t ht
    have h2 : zf 0 11 t = some (100 + t) := by simpa using h1
    have hn : s ≠ t := fun z => by
      subst z
      simp [ht] at h
    exact mR_ne hJ hm hs h2 (by omega) e
theorem zFm.fld {F S : List Nat} (hJ : zJ κ L kd σ) (hm : zT L kd m0 11) (g : zFr (zFm F S m0 σ.2.2) σ σ') (hS : S.all (fun t => zf 0 11 t == some (100 + t)) = true) {j : Nat} (h : F.contains j = false) : σ'.1 m0 j = σ.1 m0 j := by
  refine g.2 _ j ?_
  rintro (⟨-, e⟩ | ⟨t, ht, e⟩)
  · simp [e] at h
  · have h1 := List.all_eq_true.mp hS t ht
    have h2 : zf 0 11 t = some (100 + t) := by simpa using h1
    exact mR_m hJ hm h2 (by have := zf_100 h2; omega) e.symm
end REFC
