/-! THE REFERENCE'S SHAPE: how far, how many steps -/
theorem zTr.rec {N : Nat} {u : Nat → Nat} {α : Type} (h : zTr N u) (z : α) (g : Nat → α → α) : ∃ f : Nat → α, f 0 = z ∧ ∀ c, 1 ≤ c → c < N → f c = g c (f (u c)) := by
  obtain ⟨q, hq⟩ := h
  obtain ⟨F, hF⟩ : ∃ F : Nat → Nat → α, (∀ c, F 0 c = z) ∧ ∀ n c, F (n + 1) c = if c = 0 then z else g c (F n (u c)) := ⟨fun n => Nat.rec (fun _ => z) (fun _ f c => if c = 0 then z else g c (f (u c))) n, fun _ => rfl, fun _ _ => rfl⟩
  have st : ∀ n m c, q c < n → q c < m → c < N → F n c = F m c := by
    intro n
    induction n with
    | zero => intro m c h; exact absurd h (by omega)
    | succ n ih =>
      intro m c h1 h2 h3
      cases m with
      | zero => exact absurd h2 (by omega)
      | succ m =>
        rw [hF.2, hF.2]
        by_cases c0 : c = 0
        · rw [if_pos c0, if_pos c0]
        · obtain ⟨w1, w2⟩ := hq c (by omega) h3
          rw [if_neg c0, if_neg c0, ih m (u c) (by omega) (by omega) w1]
  refine ⟨fun c => F (q c + 1) c, (hF.2 (q 0) 0).trans (if_pos rfl), fun c h1 h2 => ?_⟩
  obtain ⟨w1, w2⟩ := hq c h1 h2
  show F (q c + 1) c = g c (F (q (u c) + 1) (u c))
  rw [hF.2, if_neg (by omega), st (q c) (q (u c) + 1) (u c) w2 (by omega) w1]
section MFAR
variable {N m0 a b c e w B : Nat} {FR SR : Nat → Int32} {s : zS}
theorem mFar1 (ab : a ≠ b) (ac : a ≠ c) (bc : b ≠ c) (wa : w ≠ a) (wb : w ≠ b) (wc : w ≠ c) (ea : e ≠ a) (eb : e ≠ b) (ec : e ≠ c) (ma : m0 ≠ a) (mb : m0 ≠ b) (mc : m0 ≠ c) (ga : (s.2.2 m0 54).getD 0 = a) (gb : (s.2.2 m0 52).getD 0 = b) (gc : (s.2.2 m0 53).getD 0 = c) (gw : (s.2.2 m0 49).getD 0 = w) (ge : (s.2.2 m0 23).getD 0 = e) (hB : (s.1 m0 18).toInt = B) (hB1 : B ≤ 1) (hr : zRow N (s.1 w)) (F0 : FR 0 = 0) (S0 : SR 0 = 0) (hF : ∀ c, 1 ≤ c → c < N → FR c = FR (uOf (s.1 w) c) + s.1 e (12 * B + c)) (hS : ∀ c, 1 ≤ c → c < N → SR c = SR (uOf (s.1 w) c) + (1 : Int32)) {i : Nat} (hi : i < N) (hN : N ≤ 12) {kA kB : Int32 → zS → zS} {q : Int → Nat} (hq : ∀ c : Nat, 1 ≤ c → c < N → q (s.1 w c).toInt < q c) : ∀ (n k : Nat) (τ : zS), q (pa (s.1 w) k (nI i)).toInt < n → zFr (zAw a b c) s τ → (∀ j, j < i → τ.1 b j = FR j ∧ τ.1 c j = SR j) → τ.1 b i + FR (up (uOf (s.1 w)) k i) = FR i → τ.1 c i + SR (up (uOf (s.1 w)) k i) = SR i → ∃ τ', zFr (zAw a b c) s τ' ∧ (∀ j, j < i + 1 → τ'.1 b j = FR j ∧ τ'.1 c j = SR j) ∧ F_X11_fillsWays_61 (nI i) m0 kA kB n (pa (s.1 w) k (nI i)) τ = kB (nI i + (1 : Int32)) τ' := by
  have i0 : (nI i).toInt = (i : Int) := nI_t (by omega)
  have ni : (nI i).toNatClampNeg = i := by rw [ztn, i0]; rfl
  have e12 : (12 : Int32).toInt = 12 := by decide
  intro n
  induction n with
  | zero => intro k τ h; exact absurd h (by omega)
  | succ n ih =>
    intro k τ hk g hj hb hc
    obtain ⟨z0, z1⟩ := pa_in (p := nI i) hr (by omega) (by omega) k
    have pu := pa_up hr hN hi k
    have r0 : τ.2.2 = s.2.2 := g.rf
    have te : ∀ j, τ.1 e j = s.1 e j := fun j => g.2 _ _ (by
      rintro (z | z | z)
      · exact ea z
      · exact eb z
      · exact ec z)
    have tm : τ.1 m0 18 = s.1 m0 18 := g.2 _ _ (by
      rintro (z | z | z)
      · exact ma z
      · exact mb z
      · exact mc z)
    rw [F_X11_fillsWays_61]
    by_cases cz : 0 < (pa (s.1 w) k (nI i)).toInt
    · rw [if_pos cz]
      simp only [zlt, r0, ga, gb, gc, gw, ge, tm, te, ni]
      have ep : pa (s.1 w) (k + 1) (nI i) = s.1 w (pa (s.1 w) k (nI i)).toNatClampNeg := by
        show stp _ (pa _ k _) = _
        unfold stp
        rw [if_pos cz]
      obtain ⟨d, hd⟩ : ∃ d, d = up (uOf (s.1 w)) k i := ⟨_, rfl⟩
      rw [← hd] at pu hb hc
      have d1 : 1 ≤ d := by omega
      have d2 : d < N := by omega
      have ud : up (uOf (s.1 w)) (k + 1) i = uOf (s.1 w) d := by
        show (if up (uOf (s.1 w)) k i = 0 then 0 else uOf (s.1 w) (up (uOf (s.1 w)) k i)) = _
        rw [← hd, if_neg (by omega)]
      have em : ((12 : Int32) * s.1 m0 18).toInt = 12 * B := by rw [zb_mul (by rw [e12, hB]; omega) (by rw [e12, hB]; omega), e12, hB]
      have ei : ((12 : Int32) * s.1 m0 18 + pa (s.1 w) k (nI i)).toNatClampNeg = 12 * B + d := by rw [ztn, zb_add (by rw [em, pu]; omega) (by rw [em, pu]; omega), em, pu]; omega
      rw [ei]
      obtain ⟨τ3, e3⟩ : ∃ τ3 : zS, τ3 = (zu (zu τ.1 b i (τ.1 b i + s.1 e (12 * B + d))) c i (zu τ.1 b i (τ.1 b i + s.1 e (12 * B + d)) c i + (1 : Int32)), τ.2.1, s.2.2) := ⟨_, rfl⟩
      have g3 : zFr (zAw a b c) s τ3 := by
        rw [e3, ← r0]
        exact (g.w (Or.inr (Or.inl rfl))).w (Or.inr (Or.inr rfl))
      have w3 : τ3.1 w = s.1 w := funext (fun j => g3.2 _ _ (fun z => z.elim wa (fun z => z.elim wb wc)))
      have b3 : ∀ j, τ3.1 b j = if j = i then τ.1 b i + s.1 e (12 * B + d) else τ.1 b j := fun j => by
        rw [e3]
        show zu (zu τ.1 b i _) c i _ b j = _
        rw [zu_n _ _ _ bc]
        by_cases cj : j = i
        · rw [if_pos cj, cj, zu_s]
        · rw [if_neg cj, zu_j _ _ _ _ _ (fun z => cj z.symm)]
      have c3 : ∀ j, τ3.1 c j = if j = i then τ.1 c i + (1 : Int32) else τ.1 c j := fun j => by
        rw [e3]
        show zu (zu τ.1 b i _) c i _ c j = _
        by_cases cj : j = i
        · rw [if_pos cj, cj, zu_s, zu_n _ _ _ (fun z => bc z.symm)]
        · rw [if_neg cj, zu_j _ _ _ _ _ (fun z => cj z.symm), zu_n _ _ _ (fun z => bc z.symm)]
      have E : ∀ (x : Int32) (τ4 : zS) (v : Int32), x = pa (s.1 w) (k + 1) (nI i) → τ4 = (zu τ3.1 a x.toNatClampNeg v, τ3.2.1, τ3.2.2) → ∃ τ', zFr (zAw a b c) s τ' ∧ (∀ j, j < i + 1 → τ'.1 b j = FR j ∧ τ'.1 c j = SR j) ∧ F_X11_fillsWays_61 (nI i) m0 kA kB n x τ4 = kB (nI i + (1 : Int32)) τ' := fun x τ4 v ex e4 => by
        rw [ex] at e4 ⊢
        have b4 : ∀ j, τ4.1 b j = τ3.1 b j := fun j => by
          rw [e4]
          show zu τ3.1 a _ _ b j = _
          rw [zu_n _ _ _ (fun z => ab z.symm)]
        have c4 : ∀ j, τ4.1 c j = τ3.1 c j := fun j => by
          rw [e4]
          show zu τ3.1 a _ _ c j = _
          rw [zu_n _ _ _ (fun z => ac z.symm)]
        refine ih (k + 1) τ4 ?_ (by rw [e4]; exact g3.w (Or.inl rfl)) (fun j h => ?_) ?_ ?_
        · have := hq (pa (s.1 w) k (nI i)).toNatClampNeg (by rw [ztn]; omega) (by rw [ztn]; omega)
          rw [show (((pa (s.1 w) k (nI i)).toNatClampNeg : Nat) : Int) = (pa (s.1 w) k (nI i)).toInt by rw [ztn]; omega, ← ep] at this
          omega
        · rw [b4, c4, b3, c3, if_neg (by omega), if_neg (by omega)]
          exact hj j h
        · rw [b4, b3, if_pos rfl, ud, Int32.add_assoc, Int32.add_comm (s.1 e (12 * B + d)), ← hF d d1 d2]
          exact hb
        · rw [c4, c3, if_pos rfl, ud, Int32.add_assoc, Int32.add_comm (1 : Int32), ← hS d d1 d2]
          exact hc
      have Z := E (τ3.1 w (pa (s.1 w) k (nI i)).toNatClampNeg) _ (τ3.1 a (τ3.1 w (pa (s.1 w) k (nI i)).toNatClampNeg).toNatClampNeg ||| ((1 : Int32) <<< (nI i &&& 31))) (by rw [w3, ep]) rfl
      rw [e3] at Z
      exact Z
    · rw [if_neg cz]
      simp only [zlt]
      have u0 : up (uOf (s.1 w)) k i = 0 := by omega
      refine ⟨τ, g, fun j h => ?_, rfl⟩
      by_cases cj : j = i
      · rw [u0, F0] at hb
        rw [u0, S0] at hc
        rw [cj]
        exact ⟨by rw [← hb, Int32.add_zero], by rw [← hc, Int32.add_zero]⟩
      · exact hj j (by omega)
theorem mFar2 (ab : a ≠ b) (ac : a ≠ c) (bc : b ≠ c) (wa : w ≠ a) (wb : w ≠ b) (wc : w ≠ c) (ea : e ≠ a) (eb : e ≠ b) (ec : e ≠ c) (ma : m0 ≠ a) (mb : m0 ≠ b) (mc : m0 ≠ c) (ga : (s.2.2 m0 54).getD 0 = a) (gb : (s.2.2 m0 52).getD 0 = b) (gc : (s.2.2 m0 53).getD 0 = c) (gw : (s.2.2 m0 49).getD 0 = w) (ge : (s.2.2 m0 23).getD 0 = e) (hB : (s.1 m0 18).toInt = B) (hB1 : B ≤ 1) (hr : zRow N (s.1 w)) (F0 : FR 0 = 0) (S0 : SR 0 = 0) (hF : ∀ c, 1 ≤ c → c < N → FR c = FR (uOf (s.1 w) c) + s.1 e (12 * B + c)) (hS : ∀ c, 1 ≤ c → c < N → SR c = SR (uOf (s.1 w) c) + (1 : Int32)) (hN : N ≤ 12) (hM : ∀ τ, zFr (zAw a b c) s τ → (F_X11_many m0 τ).toInt = N) {kA : Int32 → zS → zS} : ∀ (n : Nat) (x : Int32) (i : Nat) (τ : zS), x.toInt = i → i ≤ N → N - i < n → zFr (zAw a b c) s τ → (∀ j, j < i → τ.1 b j = FR j ∧ τ.1 c j = SR j) → ∀ j, j < N → (F_X11_fillsWays_25 m0 kA n x τ).1 b j = FR j ∧ (F_X11_fillsWays_25 m0 kA n x τ).1 c j = SR j := by
  obtain ⟨q, hq1, hq2⟩ := id hr
  intro n
  induction n with
  | zero => intro x i τ _ _ h; exact absurd h (by omega)
  | succ n ih =>
    intro x i τ hx hi hm g hj
    have ex : x = nI i := zNi hx (by omega)
    have r0 : τ.2.2 = s.2.2 := g.rf
    have M := hM τ g
    rw [F_X11_fillsWays_25]
    simp only [zlt, r0, ga, gb, gc]
    by_cases cx : i < N
    · rw [if_pos (by omega), ex]
      have i0 : (nI i).toInt = (i : Int) := nI_t (by omega)
      have ni : (nI i).toNatClampNeg = i := by rw [ztn, i0]; rfl
      obtain ⟨τ3, e3⟩ : ∃ τ3 : zS, τ3 = (zu (zu τ.1 b (nI i).toNatClampNeg (0 : Int32)) c (nI i).toNatClampNeg (0 : Int32), τ.2.1, s.2.2) := ⟨_, rfl⟩
      have g3 : zFr (zAw a b c) s τ3 := by
        rw [e3, ← r0]
        exact (g.w (Or.inr (Or.inl rfl))).w (Or.inr (Or.inr rfl))
      rw [ni] at e3
      have b3 : ∀ j, τ3.1 b j = if j = i then 0 else τ.1 b j := fun j => by
        rw [e3]
        show zu (zu τ.1 b i 0) c i 0 b j = _
        rw [zu_n _ _ _ bc]
        by_cases cj : j = i
        · rw [if_pos cj, cj, zu_s]
        · rw [if_neg cj, zu_j _ _ _ _ _ (fun z => cj z.symm)]
      have c3 : ∀ j, τ3.1 c j = if j = i then 0 else τ.1 c j := fun j => by
        rw [e3]
        show zu (zu τ.1 b i 0) c i 0 c j = _
        by_cases cj : j = i
        · rw [if_pos cj, cj, zu_s]
        · rw [if_neg cj, zu_j _ _ _ _ _ (fun z => cj z.symm), zu_n _ _ _ (fun z => bc z.symm)]
      have E : ∀ (τ4 : zS) (v : Int32), τ4 = (zu τ3.1 a (nI i).toNatClampNeg v, τ3.2.1, τ3.2.2) → ∀ j, j < N → (F_X11_fillsWays_61 (nI i) m0 kA (F_X11_fillsWays_25 m0 kA n) 10000 (nI i) τ4).1 b j = FR j ∧ (F_X11_fillsWays_61 (nI i) m0 kA (F_X11_fillsWays_25 m0 kA n) 10000 (nI i) τ4).1 c j = SR j := fun τ4 v e4 => by
        have g4 : zFr (zAw a b c) s τ4 := by rw [e4]; exact g3.w (Or.inl rfl)
        have b4 : ∀ j, τ4.1 b j = τ3.1 b j := fun j => by
          rw [e4]
          show zu τ3.1 a _ _ b j = _
          rw [zu_n _ _ _ (fun z => ab z.symm)]
        have c4 : ∀ j, τ4.1 c j = τ3.1 c j := fun j => by
          rw [e4]
          show zu τ3.1 a _ _ c j = _
          rw [zu_n _ _ _ (fun z => ac z.symm)]
        obtain ⟨τ5, k1, k2, k3⟩ := mFar1 ab ac bc wa wb wc ea eb ec ma mb mc ga gb gc gw ge hB hB1 hr F0 S0 hF hS cx hN (kA := kA) (kB := F_X11_fillsWays_25 m0 kA n) (q := q) (fun c c1 c2 => (hq1 c c1 c2).2.2) 10000 0 τ4 (by have := hq2 (pa (s.1 w) 0 (nI i)).toInt; omega) g4 (fun j h => by
          rw [b4, c4, b3, c3, if_neg (by omega), if_neg (by omega)]
          exact hj j h) (by
          rw [b4, b3, if_pos rfl]
          show (0 : Int32) + FR i = FR i
          rw [Int32.zero_add]) (by
          rw [c4, c3, if_pos rfl]
          show (0 : Int32) + SR i = SR i
          rw [Int32.zero_add])
        have k3' : F_X11_fillsWays_61 (nI i) m0 kA (F_X11_fillsWays_25 m0 kA n) 10000 (nI i) τ4 = F_X11_fillsWays_25 m0 kA n (nI i + (1 : Int32)) τ5 := k3
        rw [k3']
        exact ih _ (i + 1) τ5 (zp1 i0 (by omega)) (by omega) (by omega) k1 k2
      have Z := E _ (τ3.1 a (nI i).toNatClampNeg ||| ((1 : Int32) <<< (nI i &&& 31))) rfl
      rw [e3] at Z
      rw [ni] at Z ⊢
      exact Z
    · rw [if_neg (by omega)]
      obtain rfl : i = N := by omega
      exact hj
theorem mFar3 (ab : a ≠ b) (ac : a ≠ c) (bc : b ≠ c) (wa : w ≠ a) (wb : w ≠ b) (wc : w ≠ c) (ea : e ≠ a) (eb : e ≠ b) (ec : e ≠ c) (ma : m0 ≠ a) (mb : m0 ≠ b) (mc : m0 ≠ c) (ga : (s.2.2 m0 54).getD 0 = a) (gb : (s.2.2 m0 52).getD 0 = b) (gc : (s.2.2 m0 53).getD 0 = c) (gw : (s.2.2 m0 49).getD 0 = w) (ge : (s.2.2 m0 23).getD 0 = e) (hB : (s.1 m0 18).toInt = B) (hB1 : B ≤ 1) (hr : zRow N (s.1 w)) (F0 : FR 0 = 0) (S0 : SR 0 = 0) (hF : ∀ c, 1 ≤ c → c < N → FR c = FR (uOf (s.1 w) c) + s.1 e (12 * B + c)) (hS : ∀ c, 1 ≤ c → c < N → SR c = SR (uOf (s.1 w) c) + (1 : Int32)) (hN : N ≤ 12) (hM : ∀ τ, zFr (zAw a b c) s τ → (F_X11_many m0 τ).toInt = N) : ∀ (n : Nat) (x : Int32) (i : Nat) (τ : zS), x.toInt = i → i ≤ N → N - i < n → zFr (zAw a b c) s τ → ∀ j, j < N → (F_X11_fillsWays_2 m0 n x τ).1 b j = FR j ∧ (F_X11_fillsWays_2 m0 n x τ).1 c j = SR j := by
  intro n
  induction n with
  | zero => intro x i τ _ _ h; exact absurd h (by omega)
  | succ n ih =>
    intro x i τ hx hi hm g
    have r0 : τ.2.2 = s.2.2 := g.rf
    have M := hM τ g
    rw [F_X11_fillsWays_2]
    simp only [zlt, r0, ga]
    by_cases cx : i < N
    · rw [if_pos (by omega)]
      exact ih (x + (1 : Int32)) (i + 1) _ (zp1 hx (by omega)) (by omega) (by omega) (by rw [← r0]; exact g.w (Or.inl rfl))
    · rw [if_neg (by omega)]
      exact mFar2 ab ac bc wa wb wc ea eb ec ma mb mc ga gb gc gw ge hB hB1 hr F0 S0 hF hS hN hM 10000 0 0 τ (by decide) (by omega) (by omega) g (fun j h => absurd h (by omega))
end MFAR
section MFAR2
variable {L : List Nat} {kd : Nat → Nat} {m0 N B : Nat} {FR SR : Nat → Int32} {σ : zS} {κ : Int}
/-- the reference's shape behind copies: bits of who comes by, how far, how many steps; all that bears on it as it was -/
def zShM (N : Nat) (u : Nat → Nat) (FR SR : Nat → Int32) (m0 : Nat) (σ t : zS) : Prop := t.2 = σ.2 ∧ (∀ p j, p < N → j < 32 → (bt (t.1 (mR σ m0 54) p) j = true ↔ (j < N ∧ An u p j))) ∧ (∀ p, p < N → t.1 (mR σ m0 52) p = FR p ∧ t.1 (mR σ m0 53) p = SR p) ∧ (∀ j, j < 50 → t.1 (mR σ m0 49) j = σ.1 (mR σ m0 48) j) ∧ zFr (zFm [50, 51, 47] [49, 54, 52, 53, 45, 46, 55] m0 σ.2.2) σ t
set_option maxHeartbeats 1000000 in
theorem mShp (hJ : zJ κ L kd σ) (hm : zT L kd m0 11) (hM : zM m0 σ = N) (hN : N ≤ 12) (hr : zRow N (σ.1 (mR σ m0 48))) (hB : (σ.1 m0 18).toInt = B) (hB1 : B ≤ 1) (F0 : FR 0 = 0) (S0 : SR 0 = 0) (hF : ∀ c, 1 ≤ c → c < N → FR c = FR (uOf (σ.1 (mR σ m0 48)) c) + σ.1 (mR σ m0 23) (12 * B + c)) (hS : ∀ c, 1 ≤ c → c < N → SR c = SR (uOf (σ.1 (mR σ m0 48)) c) + (1 : Int32)) : zShM N (uOf (σ.1 (mR σ m0 48))) FR SR m0 σ (F_X11_copies m0 σ) := by
  obtain ⟨C1, C2, C3⟩ := zCopies2 hJ hm
  obtain ⟨s, hs⟩ : ∃ s, s = zCp m0 σ σ := ⟨_, rfl⟩
  have hc : F_X11_copies m0 σ = F_X11_fillsFlows m0 0 (F_X11_fillsWays m0 s) := by rw [zCopies hJ hm rfl, hs]
  have rm : mR σ m0 49 ≠ m0 := mR_m hJ hm (s := 49) (k := 149) (by rfl) (by decide)
  have s2 : s.2 = σ.2 := by rw [hs]; rfl
  have rs : s.2.2 = σ.2.2 := by rw [s2]
  have row : ∀ j, j < 50 → s.1 (mR σ m0 49) j = σ.1 (mR σ m0 48) j := fun j hj => by
    rw [hs]
    show zu (zu (zcf σ.1 (mR σ m0 49) (mR σ m0 48) 0 0 0 50) m0 50 _) m0 51 0 (mR σ m0 49) j = _
    rw [zu_n _ _ _ rm, zu_n _ _ _ rm, zcf_i ⟨by omega, by omega⟩]
    exact congrArg _ (by omega)
  have base : zFr (zFm [50, 51] [49] m0 σ.2.2) σ (zcf σ.1 (mR σ m0 49) (mR σ m0 48) 0 0 0 50, σ.2.1, σ.2.2) := ⟨rfl, fun c j n => congrFun (zcf_n (fun z => n (Or.inr ⟨49, by decide, z⟩))) j⟩
  have gs : zFr (zFm [50, 51] [49] m0 σ.2.2) σ s := by
    rw [hs]
    exact (base.w (j := 50) (zFm.f (by rfl))).w (j := 51) (zFm.f (by rfl))
  have hMs : (F_X11_many m0 s).toInt = N := by rw [mMany_g hJ hm gs (by rfl) (by rfl) (by rfl), hM]
  have s18 : s.1 m0 18 = σ.1 m0 18 := zFm.fld hJ hm gs (by rfl) (by rfl)
  have s23 : s.1 (mR σ m0 23) = σ.1 (mR σ m0 23) := zFm.row hJ hm gs (s := 23) (by rfl) (by rfl) (by rfl)
  obtain ⟨t, ht⟩ : ∃ t, t = F_X11_fillsWays m0 s := ⟨_, rfl⟩
  have gt : zFr (zFm [] [54, 52, 53] m0 s.2.2) s t := by rw [ht]; exact fr_X11_fillsWays zFr.id (zFm.s rfl) (zFm.s rfl) (zFm.s rfl)
  have rt : t.2.2 = σ.2.2 := by rw [gt.rf, rs]
  have g2 : zFr (zFm [47] [45, 46, 55] m0 σ.2.2) t (F_X11_fillsFlows m0 0 t) := fr_X11_fillsFlows zFr.id (by rw [rt]; exact zFm.s rfl) (zFm.f rfl) (by rw [rt]; exact zFm.s rfl) (by rw [rt]; exact zFm.s rfl)
  have fl : ∀ x, (x = 54 ∨ x = 52 ∨ x = 53) → ∀ j, (F_X11_copies m0 σ).1 (mR σ m0 x) j = t.1 (mR σ m0 x) j := fun x hx j => by
    rw [hc, ← ht]
    have hz : zf 0 11 x = some (100 + x) := by rcases hx with rfl | rfl | rfl <;> rfl
    refine g2.2 _ _ ?_
    rintro (⟨e, -⟩ | ⟨y, hy, e⟩)
    · exact mR_m hJ hm hz (by omega) e
    · have h2 : zf 0 11 y = some (100 + y) ∧ y ≠ x := by
        simp only [List.mem_cons, List.not_mem_nil, or_false] at hy
        rcases hy with rfl | rfl | rfl <;> exact ⟨by rfl, by omega⟩
      exact mR_ne hJ hm hz h2.1 (by omega) e
  have e2 : t = F_X11_fillsWays_2 m0 10000 0 s := by
    rw [ht]
    unfold F_X11_fillsWays
    simp only [zlt]
  have ne : ∀ {x y : Nat}, zf 0 11 x = some (100 + x) → zf 0 11 y = some (100 + y) → x ≠ y → mR σ m0 x ≠ mR σ m0 y := fun h1 h2 h3 => mR_ne hJ hm h1 h2 (by omega)
  have nm : ∀ {x : Nat}, zf 0 11 x = some (100 + x) → m0 ≠ mR σ m0 x := fun {x} h1 z => by
    have h3 := zf_100 h1
    exact mR_m hJ hm h1 h3 z.symm
  have g : ∀ x, (s.2.2 m0 x).getD 0 = mR σ m0 x := fun x => by rw [rs]
  have many : ∀ τ, zFr (zAw (mR σ m0 54) (mR σ m0 52) (mR σ m0 53)) s τ → (F_X11_many m0 τ).toInt = N := fun τ h => by
    rw [← hMs]
    unfold F_X11_many
    simp only [zlt]
    rw [h.rf, g 21]
    rw [h.2 m0 18 (fun z => z.elim (nm (by rfl)) (fun z => z.elim (nm (by rfl)) (nm (by rfl))))]
    rw [h.2 (mR σ m0 21) _ (fun z => z.elim (ne (by rfl) (by rfl) (by decide)) (fun z => z.elim (ne (by rfl) (by rfl) (by decide)) (ne (by rfl) (by rfl) (by decide))))]
  have hrs : zRow N (s.1 (mR σ m0 49)) := hr.cg (fun c _ c2 => row c (by omega))
  have ue : ∀ c, 1 ≤ c → c < N → uOf (s.1 (mR σ m0 49)) c = uOf (σ.1 (mR σ m0 48)) c := uOf_cg (fun c _ c2 => row c (by omega))
  obtain ⟨-, Q⟩ := mWay3 (s := s) (m0 := m0) (ne (x := 54) (y := 52) (by rfl) (by rfl) (by decide)) (ne (x := 54) (y := 53) (by rfl) (by rfl) (by decide)) (ne (x := 49) (y := 54) (by rfl) (by rfl) (by decide)) (ne (x := 49) (y := 52) (by rfl) (by rfl) (by decide)) (ne (x := 49) (y := 53) (by rfl) (by rfl) (by decide)) (g 54) (g 52) (g 53) (g 49) hrs hN many 10000 0 0 s (by decide) (by omega) (by omega) zFr.id (fun t ht => absurd ht (by omega))
  have W := mFar3 (s := s) (m0 := m0) (B := B) (FR := FR) (SR := SR) (ne (x := 54) (y := 52) (by rfl) (by rfl) (by decide)) (ne (x := 54) (y := 53) (by rfl) (by rfl) (by decide)) (ne (x := 52) (y := 53) (by rfl) (by rfl) (by decide)) (ne (x := 49) (y := 54) (by rfl) (by rfl) (by decide)) (ne (x := 49) (y := 52) (by rfl) (by rfl) (by decide)) (ne (x := 49) (y := 53) (by rfl) (by rfl) (by decide)) (ne (x := 23) (y := 54) (by rfl) (by rfl) (by decide)) (ne (x := 23) (y := 52) (by rfl) (by rfl) (by decide)) (ne (x := 23) (y := 53) (by rfl) (by rfl) (by decide)) (nm (x := 54) (by rfl)) (nm (x := 52) (by rfl)) (nm (x := 53) (by rfl)) (g 54) (g 52) (g 53) (g 49) (g 23) (by rw [s18]; exact hB) hB1 hrs F0 S0 (fun c c1 c2 => by rw [ue c c1 c2, s23]; exact hF c c1 c2) (fun c c1 c2 => by rw [ue c c1 c2]; exact hS c c1 c2) hN many 10000 0 0 s (by decide) (by omega) (by omega) zFr.id
  rw [← e2] at Q W
  refine ⟨C1, fun p j hp hj => ?_, fun p hp => ?_, C2, C3⟩
  · rw [fl 54 (by omega), Q p j hp hj]
    constructor
    · rintro (⟨h1, h2⟩ | ⟨-, h⟩)
      · exact ⟨h1, (An_cg hr.tr ue j h1 p).mp ((pa_An hrs hN h1).mp h2)⟩
      · exact h.elim
    · rintro ⟨h1, h2⟩
      exact Or.inl ⟨h1, (pa_An hrs hN h1).mpr ((An_cg hr.tr ue j h1 p).mpr h2)⟩
  · rw [fl 52 (by omega), fl 53 (by omega)]
    exact W p hp
end MFAR2
