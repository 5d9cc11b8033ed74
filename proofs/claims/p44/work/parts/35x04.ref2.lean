theorem zb_mul {x y : Int32} (h1 : -2147483648 ≤ x.toInt * y.toInt) (h2 : x.toInt * y.toInt ≤ 2147483647) : (x * y).toInt = x.toInt * y.toInt := by
  rw [Int32.toInt_mul, Int.bmod_eq_of_le (by omega) (by omega)]
section REFB
variable {L : List Nat} {kd : Nat → Nat} {m0 : Nat} {σ σ' τ : zS} {κ : Int}
/-- now goes into the history behind u - 1, then the row becomes now -/
def zRcU (m0 H N W : Nat) (f : Nat → Nat → Int32) (u : Nat) : Nat → Nat → Int32 := zcf (zu (zcf f H N (50 * u) 0 0 50) m0 57 (f m0 57 + (1 : Int32))) N W 0 0 0 50
theorem zRec_t (hJ : zJ κ L kd σ) (hm : zT L kd m0 11) (h2 : τ.2 = σ.2) {u : Nat} (hu : (τ.1 m0 57).toInt = u) (hu2 : u < 40) (G : Nat → Int32 → zS → zS)
    (hG : ∀ (n : Nat) (x : Int32) (ρ : zS), G (n + 1) x ρ = if x.toInt < (50 : Int32).toInt then G n (x + (1 : Int32)) (zu ρ.1 ((ρ.2.2 m0 58).getD 0) ((50 : Int32) * ρ.1 m0 57 + x).toNatClampNeg (ρ.1 ((ρ.2.2 m0 48).getD 0) x.toNatClampNeg), ρ.2.1, ρ.2.2) else F_X11_keepsRow m0 (zu ρ.1 m0 57 (ρ.1 m0 57 + (1 : Int32)), ρ.2.1, ρ.2.2)) : G 10000 0 τ = (zRcU m0 (mR σ m0 58) (mR σ m0 48) (mR σ m0 49) τ.1 u, σ.2) := by
  have e50 : (50 : Int32).toInt = 50 := by decide
  have r : ∀ (ρ : zS) s, ρ.2 = σ.2 → (ρ.2.2 m0 s).getD 0 = mR σ m0 s := fun ρ s h => by rw [mR, h]
  have hHm : mR σ m0 58 ≠ m0 := mR_m hJ hm (s := 58) (k := 158) (by rfl) (by decide)
  rw [zLoopC (E := fun s => F_X11_keepsRow m0 (zu s.1 m0 57 (s.1 m0 57 + (1 : Int32)), s.2)) (G := G) (D := mR σ m0 58) (S := mR σ m0 48) (dO := 50 * u) (sO := 0) (N := 50) (m0 := m0) (σ := τ) (Or.inl (mR_ne hJ hm (s := 58) (s' := 48) (k := 158) (k' := 148) (by rfl) (by rfl) (by decide))) hHm (by decide) ?_ ?_ 10000 0 0 τ (by decide) (by decide) (by decide) rfl rfl]
  · have k := zKeep (τ := (zu (zcf τ.1 (mR σ m0 58) (mR σ m0 48) (50 * u) 0 0 50) m0 57 (zcf τ.1 (mR σ m0 58) (mR σ m0 48) (50 * u) 0 0 50 m0 57 + (1 : Int32)), τ.2)) hJ hm h2
    refine Eq.trans k ?_
    show (zcf (zu (zcf τ.1 _ _ _ _ _ _) m0 57 (zcf τ.1 _ _ _ _ _ _ m0 57 + (1 : Int32))) _ _ _ _ _ _, σ.2) = _
    rw [zcf_n (fun z => hHm z.symm)]
    rfl
  · intro n x k ρ hx hk q2 q0
    have q := q2.trans h2
    have en : x.toNatClampNeg = k := by rw [ztn, hx]; rfl
    have eu : ((50 : Int32) * ρ.1 m0 57).toInt = 50 * u := by rw [zb_mul (by rw [e50, q0, hu]; omega) (by rw [e50, q0, hu]; omega), e50, q0, hu]
    have ei : ((50 : Int32) * ρ.1 m0 57 + x).toNatClampNeg = 50 * u + k := by
      rw [ztn, zb_add (by rw [eu, hx]; omega) (by rw [eu, hx]; omega), eu, hx]
      omega
    rw [hG, e50, if_pos (by omega), r ρ 58 q, r ρ 48 q, en, ei, Nat.zero_add]
  · intro n x ρ hx _ _
    rw [hG, e50, if_neg (by omega)]
theorem zRec (hJ : zJ κ L kd σ) (hm : zT L kd m0 11) (h2 : τ.2 = σ.2) {u : Nat} (hu : (τ.1 m0 57).toInt = u) (hu2 : u ≤ 40) : F_X11_records m0 τ = (if u = 40 then zRcU m0 (mR σ m0 58) (mR σ m0 48) (mR σ m0 49) (zu (zcf τ.1 (mR σ m0 58) (mR σ m0 58) 0 50 0 1950) m0 57 (τ.1 m0 57 - (1 : Int32))) 39 else zRcU m0 (mR σ m0 58) (mR σ m0 48) (mR σ m0 49) τ.1 u, σ.2) := by
  have e50 : (50 : Int32).toInt = 50 := by decide
  have e40 : (40 : Int32).toInt = 40 := by decide
  have e1 : (1 : Int32).toInt = 1 := by decide
  have e1950 : (1950 : Int32).toInt = 1950 := by decide
  have r : ∀ (ρ : zS) s, ρ.2 = σ.2 → (ρ.2.2 m0 s).getD 0 = mR σ m0 s := fun ρ s h => by rw [mR, h]
  have hHm : mR σ m0 58 ≠ m0 := mR_m hJ hm (s := 58) (k := 158) (by rfl) (by decide)
  unfold F_X11_records
  simp only [zlt, e40]
  by_cases c : u = 40
  · rw [if_pos (by omega), if_pos c]
    rw [zLoopC (E := fun s => (zRcU m0 (mR σ m0 58) (mR σ m0 48) (mR σ m0 49) (zu s.1 m0 57 (s.1 m0 57 - (1 : Int32))) 39, σ.2)) (G := F_X11_records_11 m0) (D := mR σ m0 58) (S := mR σ m0 58) (dO := 0) (sO := 50) (N := 1950) (m0 := m0) (σ := τ) (Or.inr (by decide)) hHm (by decide) ?_ ?_ 10000 0 0 τ (by decide) (by decide) (by decide) rfl rfl]
    · show (zRcU m0 _ _ _ (zu (zcf τ.1 _ _ _ _ _ _) m0 57 (zcf τ.1 _ _ _ _ _ _ m0 57 - (1 : Int32))) 39, σ.2) = _
      rw [zcf_n (fun z => hHm z.symm)]
    · intro n x k ρ hx hk q2 _
      have q := q2.trans h2
      have en : x.toNatClampNeg = k := by rw [ztn, hx]; rfl
      have ei : (x + (50 : Int32)).toNatClampNeg = 50 + k := by
        rw [ztn, zb_add (by rw [hx, e50]; omega) (by rw [hx, e50]; omega), hx, e50]
        omega
      rw [F_X11_records_11]
      simp only [zlt, e1950]
      rw [if_pos (by omega), r ρ 58 q, en, ei, Nat.zero_add]
    · intro n x ρ hx q2 q0
      have q := q2.trans h2
      rw [F_X11_records_11]
      simp only [zlt, e1950]
      rw [if_neg (by omega)]
      have u39 : (ρ.1 m0 57 - (1 : Int32)).toInt = (39 : Nat) := by rw [q0, zb_sub (by rw [hu, e1]; omega) (by rw [hu, e1]; omega), hu, e1, c]; rfl
      exact zRec_t (τ := (zu ρ.1 m0 57 (ρ.1 m0 57 - (1 : Int32)), ρ.2.1, ρ.2.2)) hJ hm q (by show (zu ρ.1 m0 57 _ m0 57).toInt = _; rw [zu_s]; exact u39) (by decide) _ (fun n x ρ => by rw [F_X11_records_51_1]; simp only [zlt])
  · rw [if_neg (by omega), if_neg c]
    exact zRec_t hJ hm h2 hu (by omega) _ (fun n x ρ => by rw [F_X11_records_51]; simp only [zlt])
/-- a row of the reference: 50 numbers -/
def rC (f : Nat → Nat → Int32) (r o : Nat) : Nat → Int32 := fun j => if j < 50 then f r (o + j) else 0
theorem rC_e {f g : Nat → Nat → Int32} {r r' o o' : Nat} (h : ∀ j, j < 50 → f r (o + j) = g r' (o' + j)) : rC f r o = rC g r' o' := by
  funext j
  unfold rC
  by_cases c : j < 50
  · rw [if_pos c, if_pos c, h j c]
  · rw [if_neg c, if_neg c]
/-- what records does, told: the history, now, all else -/
theorem zRec2 (hJ : zJ κ L kd σ) (hm : zT L kd m0 11) (h2 : τ.2 = σ.2) {u : Nat} (hu : (τ.1 m0 57).toInt = u) (hu2 : u ≤ 40) : ∃ f : Nat → Nat → Int32, F_X11_records m0 τ = (f, σ.2) ∧ (f m0 57).toInt = (if u = 40 then 40 else u + 1 : Nat) ∧ (∀ j, j < 50 → f (mR σ m0 48) j = τ.1 (mR σ m0 49) j) ∧ rC f (mR σ m0 58) (50 * (if u = 40 then 39 else u)) = rC τ.1 (mR σ m0 48) 0 ∧ (∀ i, i < (if u = 40 then 39 else u) → rC f (mR σ m0 58) (50 * i) = rC τ.1 (mR σ m0 58) (50 * (if u = 40 then i + 1 else i))) ∧ (∀ j, j ≠ 57 → f m0 j = τ.1 m0 j) ∧ ∀ c, c ≠ m0 → c ≠ mR σ m0 58 → c ≠ mR σ m0 48 → f c = τ.1 c := by
  have hHm : mR σ m0 58 ≠ m0 := mR_m hJ hm (s := 58) (k := 158) (by rfl) (by decide)
  have hNm : mR σ m0 48 ≠ m0 := mR_m hJ hm (s := 48) (k := 148) (by rfl) (by decide)
  have hWm : mR σ m0 49 ≠ m0 := mR_m hJ hm (s := 49) (k := 149) (by rfl) (by decide)
  have hHN : mR σ m0 58 ≠ mR σ m0 48 := mR_ne hJ hm (s := 58) (s' := 48) (k := 158) (k' := 148) (by rfl) (by rfl) (by decide)
  have hWN : mR σ m0 49 ≠ mR σ m0 48 := mR_ne hJ hm (s := 49) (s' := 48) (k := 149) (k' := 148) (by rfl) (by rfl) (by decide)
  have hWH : mR σ m0 49 ≠ mR σ m0 58 := mR_ne hJ hm (s := 49) (s' := 58) (k := 149) (k' := 158) (by rfl) (by rfl) (by decide)
  have e1 : (1 : Int32).toInt = 1 := by decide
  -- the common part
  have key : ∀ (g : Nat → Nat → Int32) (v : Nat), v < 40 → (g m0 57).toInt = v → (zRcU m0 (mR σ m0 58) (mR σ m0 48) (mR σ m0 49) g v m0 57).toInt = (v + 1 : Nat) ∧ (∀ j, j < 50 → zRcU m0 (mR σ m0 58) (mR σ m0 48) (mR σ m0 49) g v (mR σ m0 48) j = g (mR σ m0 49) j) ∧ (∀ j, j < 50 → zRcU m0 (mR σ m0 58) (mR σ m0 48) (mR σ m0 49) g v (mR σ m0 58) (50 * v + j) = g (mR σ m0 48) j) ∧ (∀ j, j < 50 * v → zRcU m0 (mR σ m0 58) (mR σ m0 48) (mR σ m0 49) g v (mR σ m0 58) j = g (mR σ m0 58) j) ∧ (∀ j, j ≠ 57 → zRcU m0 (mR σ m0 58) (mR σ m0 48) (mR σ m0 49) g v m0 j = g m0 j) ∧ ∀ c, c ≠ m0 → c ≠ mR σ m0 58 → c ≠ mR σ m0 48 → zRcU m0 (mR σ m0 58) (mR σ m0 48) (mR σ m0 49) g v c = g c := fun g v hv hg => by
    unfold zRcU
    refine ⟨?_, fun j hj => ?_, fun j hj => ?_, fun j hj => ?_, fun j hj => ?_, fun c h1 h2 h3 => ?_⟩
    · rw [zcf_n (fun z => hNm z.symm), zu_s, zb_add (by rw [hg, e1]; omega) (by rw [hg, e1]; omega), hg, e1]; rfl
    · rw [zcf_i ⟨by omega, by omega⟩, zu_n _ _ _ hWm, zcf_n hWH]
      congr 1
      omega
    · rw [zcf_n hHN, zu_n _ _ _ hHm, zcf_i ⟨by omega, by omega⟩]
      congr 1
      omega
    · rw [zcf_n hHN, zu_n _ _ _ hHm, zcf_o (by omega)]
    · rw [zcf_n (fun z => hNm z.symm), zu_j _ _ _ _ _ (fun z => hj z.symm), zcf_n (fun z => hHm z.symm)]
    · rw [zcf_n h3, zu_n _ _ _ h1, zcf_n h2]
  by_cases c : u = 40
  · obtain ⟨g, hg⟩ : ∃ g, g = zu (zcf τ.1 (mR σ m0 58) (mR σ m0 58) 0 50 0 1950) m0 57 (τ.1 m0 57 - (1 : Int32)) := ⟨_, rfl⟩
    have g57 : (g m0 57).toInt = (39 : Nat) := by rw [hg, zu_s, zb_sub (by rw [hu, e1]; omega) (by rw [hu, e1]; omega), hu, e1, c]; rfl
    have gn : ∀ d, d ≠ m0 → d ≠ mR σ m0 58 → g d = τ.1 d := fun d h3 h4 => by rw [hg, zu_n _ _ _ h3, zcf_n h4]
    have gh : ∀ j, j < 1950 → g (mR σ m0 58) j = τ.1 (mR σ m0 58) (50 + j) := fun j hj => by
      rw [hg, zu_n _ _ _ hHm, zcf_i ⟨by omega, by omega⟩]
      congr 1
    obtain ⟨k1, k2, k3, k4, k5, k6⟩ := key g 39 (by decide) g57
    refine ⟨_, (zRec hJ hm h2 hu hu2).trans (by rw [if_pos c, ← hg]), by rw [if_pos c]; exact k1, fun j hj => (k2 j hj).trans (by rw [gn _ hWm hWH]), ?_, fun i hi => ?_, fun j hj => (k5 j hj).trans ?_, fun d h3 h4 h5 => (k6 d h3 h4 h5).trans (gn d h3 h4)⟩
    · rw [if_pos c]
      refine rC_e (fun j hj => (k3 j hj).trans ?_)
      rw [gn _ hNm (fun z => hHN z.symm), Nat.zero_add]
    · rw [if_pos c] at hi
      rw [if_pos c]
      refine rC_e (fun j hj => (k4 _ (by omega)).trans ?_)
      rw [gh _ (by omega)]
      exact congrArg _ (by omega)
    · rw [hg, zu_j _ _ _ _ _ (fun z => hj z.symm), zcf_n (fun z => hHm z.symm)]
  · obtain ⟨k1, k2, k3, k4, k5, k6⟩ := key τ.1 u (by omega) hu
    refine ⟨_, (zRec hJ hm h2 hu hu2).trans (by rw [if_neg c]), by rw [if_neg c]; exact k1, k2, ?_, fun i hi => ?_, k5, k6⟩
    · rw [if_neg c]
      refine rC_e (fun j hj => (k3 j hj).trans ?_)
      rw [Nat.zero_add]
    · rw [if_neg c] at hi
      rw [if_neg c]
      exact rC_e (fun j hj => k4 _ (by omega))
end REFB
