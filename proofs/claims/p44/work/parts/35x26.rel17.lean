section HELD
variable {m0 h : Nat} {s : zS}
theorem mHeld (gh : (s.2.2 m0 67).getD 0 = h) {kA : Int32 → zS → Int32 × zS} {kB : zS → Int32 × zS} : ∀ (n : Nat) (x : Int32) (i : Nat) (τ : zS), x.toInt = i → i ≤ 3 → 3 - i < n → zFr (fun c _ => c = h) s τ → (∀ j, j < i → τ.1 h j = 0) → (F_X11_read_224 m0 kA kB n x τ).1 = 0 ∧ zFr (fun c _ => c = h) s (F_X11_read_224 m0 kA kB n x τ).2 ∧ ∀ j, j < 3 → (F_X11_read_224 m0 kA kB n x τ).2.1 h j = 0 := by
  have e3 : (3 : Int32).toInt = 3 := by decide
  have eb : vp_nar .boolean (0 : Int32) = 0 := by decide
  intro n
  induction n with
  | zero => intro x i τ _ _ h; exact absurd h (by omega)
  | succ n ih =>
    intro x i τ hx hi hm g hj
    have r0 : τ.2.2 = s.2.2 := g.rf
    rw [F_X11_read_224]
    simp only [zlt, r0, gh, e3, eb]
    by_cases cx : i < 3
    · rw [if_pos (by omega)]
      have nx : x.toNatClampNeg = i := by rw [ztn, hx]; rfl
      rw [nx]
      refine ih (x + (1 : Int32)) (i + 1) _ (zp1 hx (by omega)) (by omega) (by omega) (by rw [← r0]; exact g.w rfl) (fun j h' => ?_)
      show zu τ.1 h i 0 h j = 0
      by_cases e : j = i
      · rw [e, zu_s]
      · rw [zu_j _ _ _ _ _ (fun z => e z.symm)]
        exact hj j (by omega)
    · rw [if_neg (by omega)]
      obtain rfl : i = 3 := by omega
      exact ⟨rfl, g, hj⟩
end HELD
