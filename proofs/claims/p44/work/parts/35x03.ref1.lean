/-! THE REFERENCE'S ROWS: loops that copy, what they leave -/
/-- from k on up to N the row D holds what S held -/
def zcf (f : Nat → Nat → Int32) (D S dO sO k N : Nat) : Nat → Nat → Int32 := fun c => if c = D then (fun j => if dO + k ≤ j ∧ j < dO + N then f S (sO + (j - dO)) else f D j) else f c
theorem zcf_n {f : Nat → Nat → Int32} {D S dO sO k N c : Nat} (h : ¬ c = D) : zcf f D S dO sO k N c = f c := if_neg h
theorem zcf_i {f : Nat → Nat → Int32} {D S dO sO k N j : Nat} (h : dO + k ≤ j ∧ j < dO + N) : zcf f D S dO sO k N D j = f S (sO + (j - dO)) := by
  unfold zcf
  rw [if_pos rfl, if_pos h]
theorem zcf_o {f : Nat → Nat → Int32} {D S dO sO k N j : Nat} (h : ¬ (dO + k ≤ j ∧ j < dO + N)) : zcf f D S dO sO k N D j = f D j := by
  unfold zcf
  rw [if_pos rfl, if_neg h]
theorem zcf_s {f : Nat → Nat → Int32} {D S dO sO k N : Nat} (hk : k < N) (hD : D ≠ S ∨ dO ≤ sO) : zcf (zu f D (dO + k) (f S (sO + k))) D S dO sO (k + 1) N = zcf f D S dO sO k N := by
  funext c j
  by_cases c1 : c = D
  · subst c1
    by_cases c2 : dO + (k + 1) ≤ j ∧ j < dO + N
    · rw [zcf_i c2, zcf_i ⟨by omega, c2.2⟩]
      rcases hD with h | h
      · rw [zu_n _ _ _ (fun z => h z.symm)]
      · by_cases c3 : S = c
        · subst c3
          exact zu_j _ _ _ _ _ (by omega)
        · rw [zu_n _ _ _ c3]
    · rw [zcf_o c2]
      by_cases c3 : j = dO + k
      · subst c3
        rw [zu_s, zcf_i ⟨by omega, by omega⟩]
        congr 1
        omega
      · rw [zu_j _ _ _ _ _ (fun z => c3 z.symm), zcf_o (by omega)]
  · rw [zcf_n c1, zcf_n c1, zu_n _ _ _ c1]
theorem zcf_e {f : Nat → Nat → Int32} {D S dO sO N : Nat} : zcf f D S dO sO N N = f := by
  funext c j
  by_cases c1 : c = D
  · subst c1; exact zcf_o (by omega)
  · rw [zcf_n c1]
theorem zLoopC {α : Type} {G : Nat → Int32 → zS → α} {E : zS → α} {D S dO sO N m0 : Nat} {σ : zS} (hD : D ≠ S ∨ dO ≤ sO) (hm : D ≠ m0) (hN : N < 4000)
    (step : ∀ (n : Nat) (x : Int32) (k : Nat) (τ : zS), x.toInt = k → k < N → τ.2 = σ.2 → τ.1 m0 = σ.1 m0 → G (n + 1) x τ = G n (x + (1 : Int32)) (zu τ.1 D (dO + k) (τ.1 S (sO + k)), τ.2))
    (stop : ∀ (n : Nat) (x : Int32) (τ : zS), x.toInt = N → τ.2 = σ.2 → τ.1 m0 = σ.1 m0 → G (n + 1) x τ = E τ) :
    ∀ (n : Nat) (x : Int32) (k : Nat) (τ : zS), x.toInt = k → k ≤ N → N - k < n → τ.2 = σ.2 → τ.1 m0 = σ.1 m0 → G n x τ = E (zcf τ.1 D S dO sO k N, τ.2) := by
  intro n
  induction n with
  | zero => intro x k τ _ _ h; exact absurd h (by omega)
  | succ n ih =>
    intro x k τ hx hk hm2 h2 h0
    by_cases c : k = N
    · subst c
      rw [stop n x τ hx h2 h0, zcf_e]
    · rw [step n x k τ hx (by omega) h2 h0, ih (x + (1 : Int32)) (k + 1) (zu τ.1 D (dO + k) (τ.1 S (sO + k)), τ.2) (zp1 hx (by omega)) (by omega) (by omega) h2 (by
        show zu τ.1 D (dO + k) _ m0 = _
        rw [zu_n _ _ _ (fun z => hm z.symm)]
        exact h0)]
      show E (zcf (zu τ.1 D (dO + k) (τ.1 S (sO + k))) D S dO sO (k + 1) N, τ.2) = _
      rw [zcf_s (by omega) hD]
/-- where the reference's row of a slot lies -/
abbrev mR (σ : zS) (m0 s : Nat) : Nat := (σ.2.2 m0 s).getD 0
section REFA
variable {L : List Nat} {kd : Nat → Nat} {m0 : Nat} {σ σ' τ : zS} {κ : Int}
theorem mR_t (hJ : zJ κ L kd σ) (hm : zT L kd m0 11) {s k : Nat} (h : zf 0 11 s = some k) : zT L kd (mR σ m0 s) k := by
  obtain ⟨y, h1, h2⟩ := zj_ref (j := s) hJ hm h
  rw [show mR σ m0 s = y by rw [mR, h1]; rfl]
  exact h2
theorem mR_ne (hJ : zJ κ L kd σ) (hm : zT L kd m0 11) {s s' k k' : Nat} (h : zf 0 11 s = some k) (h' : zf 0 11 s' = some k') (n : k ≠ k') : mR σ m0 s ≠ mR σ m0 s' := zNk (mR_t hJ hm h) (mR_t hJ hm h') n
theorem mR_m (hJ : zJ κ L kd σ) (hm : zT L kd m0 11) {s k : Nat} (h : zf 0 11 s = some k) (n : k ≠ 11) : mR σ m0 s ≠ m0 := zNk (mR_t hJ hm h) hm n
/-- keepsRow: now is the row -/
theorem zKeep (hJ : zJ κ L kd σ) (hm : zT L kd m0 11) (h2 : τ.2 = σ.2) : F_X11_keepsRow m0 τ = (zcf τ.1 (mR σ m0 48) (mR σ m0 49) 0 0 0 50, σ.2) := by
  have e50 : (50 : Int32).toInt = 50 := by decide
  have r : ∀ (ρ : zS) s, ρ.2 = σ.2 → (ρ.2.2 m0 s).getD 0 = mR σ m0 s := fun ρ s h => by rw [mR, h]
  unfold F_X11_keepsRow
  simp only [zlt]
  rw [zLoopC (E := fun s => s) (G := F_X11_keepsRow_2 m0) (D := mR σ m0 48) (S := mR σ m0 49) (dO := 0) (sO := 0) (N := 50) (m0 := m0) (σ := τ) (Or.inr (Nat.le_refl _)) (mR_m hJ hm (by rfl) (by decide)) (by decide) ?_ ?_ 10000 0 0 τ (by decide) (by decide) (by decide) rfl rfl]
  · rw [h2]
  · intro n x k ρ hx hk q2 _
    have q := q2.trans h2
    have en : x.toNatClampNeg = k := by rw [ztn, hx]; rfl
    rw [F_X11_keepsRow_2]
    simp only [zlt, e50]
    rw [if_pos (by omega), r ρ 48 q, r ρ 49 q, en, Nat.zero_add]
  · intro n x ρ hx _ _
    rw [F_X11_keepsRow_2]
    simp only [zlt, e50]
    rw [if_neg (by omega)]
/-- the row as copies leaves it ahead of its fills -/
def zCp (m0 : Nat) (σ τ : zS) : zS := (zu (zu (zcf τ.1 (mR σ m0 49) (mR σ m0 48) 0 0 0 50) m0 50 (τ.1 (mR σ m0 29) (τ.1 m0 18).toNatClampNeg)) m0 51 0, σ.2)
theorem zCopies (hJ : zJ κ L kd σ) (hm : zT L kd m0 11) (h2 : τ.2 = σ.2) : F_X11_copies m0 τ = F_X11_fillsFlows m0 0 (F_X11_fillsWays m0 (zCp m0 σ τ)) := by
  have e50 : (50 : Int32).toInt = 50 := by decide
  have r : ∀ (ρ : zS) s, ρ.2 = σ.2 → (ρ.2.2 m0 s).getD 0 = mR σ m0 s := fun ρ s h => by rw [mR, h]
  unfold F_X11_copies
  simp only [zlt]
  rw [zLoopC (E := fun s => F_X11_fillsFlows m0 0 (F_X11_fillsWays m0 (zu (zu s.1 m0 50 (s.1 (mR σ m0 29) (s.1 m0 18).toNatClampNeg)) m0 51 0, s.2))) (G := F_X11_copies_2 m0) (D := mR σ m0 49) (S := mR σ m0 48) (dO := 0) (sO := 0) (N := 50) (m0 := m0) (σ := τ) (Or.inr (Nat.le_refl _)) (mR_m hJ hm (by rfl) (by decide)) (by decide) ?_ ?_ 10000 0 0 τ (by decide) (by decide) (by decide) rfl rfl]
  · unfold zCp
    have e29 : ¬ mR σ m0 29 = mR σ m0 49 := mR_ne hJ hm (s := 29) (s' := 49) (k := 129) (k' := 149) (by rfl) (by rfl) (by decide)
    have em : ¬ m0 = mR σ m0 49 := fun z => mR_m hJ hm (s := 49) (k := 149) (by rfl) (by decide) z.symm
    show F_X11_fillsFlows m0 0 (F_X11_fillsWays m0 (zu (zu (zcf τ.1 (mR σ m0 49) (mR σ m0 48) 0 0 0 50) m0 50 (zcf τ.1 (mR σ m0 49) (mR σ m0 48) 0 0 0 50 (mR σ m0 29) (zcf τ.1 (mR σ m0 49) (mR σ m0 48) 0 0 0 50 m0 18).toNatClampNeg)) m0 51 0, τ.2)) = _
    rw [zcf_n e29, zcf_n em, h2]
  · intro n x k ρ hx hk q2 _
    have q := q2.trans h2
    have en : x.toNatClampNeg = k := by rw [ztn, hx]; rfl
    rw [F_X11_copies_2]
    simp only [zlt, e50]
    rw [if_pos (by omega), r ρ 49 q, r ρ 48 q, en, Nat.zero_add]
  · intro n x ρ hx q2 _
    have q := q2.trans h2
    rw [F_X11_copies_2]
    simp only [zlt, e50]
    rw [if_neg (by omega), r ρ 29 q]
end REFA
