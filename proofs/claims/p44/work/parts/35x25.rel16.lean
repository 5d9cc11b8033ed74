/-! THE REFERENCE BEGINS -/
section BEGM
variable {N m0 b w d : Nat} {s : zS}
/-- what beginning writes -/
def zAb (m0 w : Nat) : Nat → Nat → Prop := fun c j => c = w ∨ (c = m0 ∧ (j = 50 ∨ j = 51))
theorem mBeg1 (wd : d ≠ w) (wm : m0 ≠ w) (gw : (s.2.2 m0 49).getD 0 = w) (gd : (s.2.2 m0 22).getD 0 = d) (hb : (s.1 m0 18).toInt = b) (hb1 : b ≤ 1) (hN : N ≤ 12) (hM : ∀ τ, zFr (fun c _ => c = w) s τ → (F_X11_many m0 τ).toInt = N) {kA : Int32 → zS → zS} : ∀ (n : Nat) (x : Int32) (i : Nat) (τ : zS), x.toInt = i → i ≤ N → N - i < n → zFr (fun c _ => c = w) s τ → (∀ j, j < 50 → τ.1 w j = if j < i then s.1 d (12 * b + j) else 0) → zFr (zAb m0 w) s (F_X11_begins_23 m0 kA n x τ) ∧ ∀ j, j < 50 → (F_X11_begins_23 m0 kA n x τ).1 w j = if j < N then s.1 d (12 * b + j) else 0 := by
  have e12 : (12 : Int32).toInt = 12 := by decide
  intro n
  induction n with
  | zero => intro x i τ _ _ h; exact absurd h (by omega)
  | succ n ih =>
    intro x i τ hx hi hm g hj
    have r0 : τ.2.2 = s.2.2 := g.rf
    have M := hM τ g
    have t18 : τ.1 m0 18 = s.1 m0 18 := g.2 _ _ wm
    have td : τ.1 d = s.1 d := funext (fun j => g.2 _ _ wd)
    rw [F_X11_begins_23]
    simp only [zlt, r0, gw, gd, t18, td]
    by_cases cx : i < N
    · rw [if_pos (by omega)]
      have nx : x.toNatClampNeg = i := by rw [ztn, hx]; rfl
      have em : ((12 : Int32) * s.1 m0 18).toInt = 12 * b := by rw [zb_mul (by rw [e12, hb]; omega) (by rw [e12, hb]; omega), e12, hb]
      have ei : ((12 : Int32) * s.1 m0 18 + x).toNatClampNeg = 12 * b + i := by rw [ztn, zb_add (by rw [em, hx]; omega) (by rw [em, hx]; omega), em, hx]; omega
      rw [nx, ei]
      refine ih (x + (1 : Int32)) (i + 1) _ (zp1 hx (by omega)) (by omega) (by omega) (by rw [← r0]; exact g.w rfl) (fun j h50 => ?_)
      show zu τ.1 w i _ w j = _
      by_cases e : j = i
      · rw [e, zu_s, if_pos (by omega)]
      · rw [zu_j _ _ _ _ _ (fun z => e z.symm), hj j h50]
        by_cases c : j < i
        · rw [if_pos c, if_pos (by omega)]
        · rw [if_neg c, if_neg (by omega)]
    · rw [if_neg (by omega)]
      obtain rfl : i = N := by omega
      have g2 : zFr (zAb m0 w) s τ := g.up (fun c j q => Or.inl q)
      refine ⟨by rw [← r0]; exact (g2.w (Or.inr ⟨rfl, Or.inl rfl⟩)).w (Or.inr ⟨rfl, Or.inr rfl⟩), fun j h50 => ?_⟩
      show zu (zu τ.1 m0 50 _) m0 51 0 w j = _
      rw [zu_n _ _ _ (fun z => wm z.symm), zu_n _ _ _ (fun z => wm z.symm)]
      exact hj j h50
theorem mBeg2 (wd : d ≠ w) (wm : m0 ≠ w) (gw : (s.2.2 m0 49).getD 0 = w) (gd : (s.2.2 m0 22).getD 0 = d) (hb : (s.1 m0 18).toInt = b) (hb1 : b ≤ 1) (hN : N ≤ 12) (hM : ∀ τ, zFr (fun c _ => c = w) s τ → (F_X11_many m0 τ).toInt = N) : ∀ (n : Nat) (x : Int32) (i : Nat) (τ : zS), x.toInt = i → i ≤ 50 → 50 - i < n → zFr (fun c _ => c = w) s τ → (∀ j, j < i → τ.1 w j = 0) → zFr (zAb m0 w) s (F_X11_begins_2 m0 n x τ) ∧ ∀ j, j < 50 → (F_X11_begins_2 m0 n x τ).1 w j = if j < N then s.1 d (12 * b + j) else 0 := by
  have e50 : (50 : Int32).toInt = 50 := by decide
  intro n
  induction n with
  | zero => intro x i τ _ _ h; exact absurd h (by omega)
  | succ n ih =>
    intro x i τ hx hi hm g hj
    have r0 : τ.2.2 = s.2.2 := g.rf
    rw [F_X11_begins_2]
    simp only [zlt, r0, gw, e50]
    by_cases cx : i < 50
    · rw [if_pos (by omega)]
      have nx : x.toNatClampNeg = i := by rw [ztn, hx]; rfl
      rw [nx]
      refine ih (x + (1 : Int32)) (i + 1) _ (zp1 hx (by omega)) (by omega) (by omega) (by rw [← r0]; exact g.w rfl) (fun j h => ?_)
      show zu τ.1 w i 0 w j = 0
      by_cases e : j = i
      · rw [e, zu_s]
      · rw [zu_j _ _ _ _ _ (fun z => e z.symm)]
        exact hj j (by omega)
    · rw [if_neg (by omega)]
      obtain rfl : i = 50 := by omega
      exact mBeg1 wd wm gw gd hb hb1 hN hM 10000 0 0 τ (by decide) (by omega) (by omega) g (fun j h => by rw [hj j h, if_neg (by omega)])
end BEGM
section BEGM2
variable {L : List Nat} {kd : Nat → Nat} {m0 N b : Nat} {σ s : zS} {κ : Int}
/-- what follows a text without faults -/
noncomputable def mBg (m0 : Nat) (s : zS) : zS :=
  zLet (s.1 m0 19) fun v165 =>
  zLet ((zu s.1 m0 18 v165, s.2.1, s.2.2)) fun s166 =>
  zLet (F_X11_begins m0 s166) fun t173 =>
  zLet (F_X11_keepsRow m0 t173) fun t180 =>
  zLet ((0 : Int32)) fun v187 =>
  zLet ((zu t180.1 m0 57 v187, t180.2.1, t180.2.2)) fun s188 =>
  zLet ((0 : Int32)) fun v196 =>
  zLet ((zu s188.1 m0 62 v196, s188.2.1, s188.2.2)) fun s197 => s197
theorem mBg_e (hJ : zJ κ L kd σ) (hm : zT L kd m0 11) (h2 : s.2 = σ.2) (hb : (s.1 m0 19).toInt = b) (hb1 : b ≤ 1) (hM : (s.1 (mR σ m0 21) b).toInt = N) (hN : N ≤ 12) : (mBg m0 s).2 = σ.2 ∧ (mBg m0 s).1 m0 18 = s.1 m0 19 ∧ (mBg m0 s).1 m0 57 = 0 ∧ (mBg m0 s).1 m0 62 = 0 ∧ (∀ j, j < 50 → (mBg m0 s).1 (mR σ m0 48) j = if j < N then s.1 (mR σ m0 22) (12 * b + j) else 0) ∧ zFr (zFm [18, 50, 51, 57, 62] [48, 49] m0 σ.2.2) s (mBg m0 s) := by
  have rs : s.2.2 = σ.2.2 := by rw [h2]
  have m49 : mR σ m0 49 ≠ m0 := mR_m hJ hm (s := 49) (k := 149) (by rfl) (by decide)
  have m48 : mR σ m0 48 ≠ m0 := mR_m hJ hm (s := 48) (k := 148) (by rfl) (by decide)
  have m22 : mR σ m0 22 ≠ m0 := mR_m hJ hm (s := 22) (k := 122) (by rfl) (by decide)
  have m21 : mR σ m0 21 ≠ m0 := mR_m hJ hm (s := 21) (k := 121) (by rfl) (by decide)
  have n1 : mR σ m0 22 ≠ mR σ m0 49 := mR_ne hJ hm (s := 22) (s' := 49) (k := 122) (k' := 149) (by rfl) (by rfl) (by decide)
  have n2 : mR σ m0 21 ≠ mR σ m0 49 := mR_ne hJ hm (s := 21) (s' := 49) (k := 121) (k' := 149) (by rfl) (by rfl) (by decide)
  obtain ⟨s6, e6⟩ : ∃ s6 : zS, s6 = (zu s.1 m0 18 (s.1 m0 19), s.2.1, s.2.2) := ⟨_, rfl⟩
  have g6 : zFr (zFm [18, 50, 51, 57, 62] [48, 49] m0 σ.2.2) s s6 := by rw [e6]; exact zFr.id.w (zFm.f (by rfl))
  have s18 : s6.1 m0 18 = s.1 m0 19 := by rw [e6]; exact zu_s _ _ _ _
  have s22 : s6.1 (mR σ m0 22) = s.1 (mR σ m0 22) := by rw [e6]; exact zu_n _ _ _ m22
  have s21 : s6.1 (mR σ m0 21) = s.1 (mR σ m0 21) := by rw [e6]; exact zu_n _ _ _ m21
  have r6 : s6.2.2 = σ.2.2 := by rw [g6.rf, rs]
  have many : ∀ τ, zFr (fun c _ => c = mR σ m0 49) s6 τ → (F_X11_many m0 τ).toInt = N := fun τ g => by
    unfold F_X11_many
    simp only [zlt]
    rw [g.rf, r6, g.2 m0 18 (fun z => m49 z.symm), g.2 (mR σ m0 21) _ n2, s18, s21, show (s.1 m0 19).toNatClampNeg = b by rw [ztn, hb]; rfl]
    exact hM
  obtain ⟨q1, q2⟩ := mBeg2 (s := s6) (m0 := m0) (w := mR σ m0 49) (d := mR σ m0 22) (b := b) n1 (fun z => m49 z.symm) (by rw [r6]) (by rw [r6]) (by rw [s18]; exact hb) hb1 hN many 10000 0 0 s6 (by decide) (by omega) (by omega) zFr.id (fun j h => absurd h (by omega))
  obtain ⟨t, et⟩ : ∃ t, t = F_X11_begins m0 s6 := ⟨_, rfl⟩
  have et2 : t = F_X11_begins_2 m0 10000 0 s6 := by
    rw [et]
    unfold F_X11_begins
    simp only [zlt]
  rw [← et2] at q1 q2
  have t2 : t.2 = σ.2 := by rw [q1.1, g6.1, h2]
  have gt : zFr (zFm [18, 50, 51, 57, 62] [48, 49] m0 σ.2.2) s t := g6.tr (q1.up (fun c j z => by
    rcases z with z | ⟨z1, z2⟩
    · exact Or.inr ⟨49, by decide, z⟩
    · exact Or.inl ⟨z1, by simp only [List.mem_cons, List.not_mem_nil, or_false]; omega⟩))
  have K := zKeep hJ hm (τ := t) t2
  have E : mBg m0 s = (zu (zu (zcf t.1 (mR σ m0 48) (mR σ m0 49) 0 0 0 50) m0 57 0) m0 62 0, σ.2) := by
    unfold mBg
    simp only [zlt]
    rw [← e6, ← et, K]
  have gk : zFr (zFm [18, 50, 51, 57, 62] [48, 49] m0 σ.2.2) s (zcf t.1 (mR σ m0 48) (mR σ m0 49) 0 0 0 50, t.2.1, t.2.2) := ⟨gt.1, fun c j n => (congrFun (zcf_n (fun z => n (Or.inr ⟨48, by decide, z⟩))) j).trans (gt.2 c j n)⟩
  have gE := (gk.w (j := 57) (v := (0 : Int32)) (zFm.f (by rfl))).w (j := 62) (v := (0 : Int32)) (zFm.f (by rfl))
  have e2 : (zu (zu (zcf t.1 (mR σ m0 48) (mR σ m0 49) 0 0 0 50) m0 57 0) m0 62 0, σ.2) = (zu (zu (zcf t.1 (mR σ m0 48) (mR σ m0 49) 0 0 0 50) m0 57 0) m0 62 0, t.2.1, t.2.2) := by rw [← t2]
  rw [E]
  refine ⟨rfl, ?_, ?_, zu_s _ _ _ _, fun j hj => ?_, by rw [e2]; exact gE⟩
  · show zu (zu (zcf t.1 (mR σ m0 48) (mR σ m0 49) 0 0 0 50) m0 57 0) m0 62 0 m0 18 = _
    rw [zu_j _ _ _ _ _ (by decide), zu_j _ _ _ _ _ (by decide), zcf_n (fun z => m48 z.symm), ← s18]
    exact q1.2 _ _ (by
      rintro (z | ⟨-, z⟩)
      · exact m49 z.symm
      · omega)
  · show zu (zu (zcf t.1 (mR σ m0 48) (mR σ m0 49) 0 0 0 50) m0 57 0) m0 62 0 m0 57 = _
    rw [zu_j _ _ _ _ _ (by decide), zu_s]
  · show zu (zu (zcf t.1 (mR σ m0 48) (mR σ m0 49) 0 0 0 50) m0 57 0) m0 62 0 (mR σ m0 48) j = _
    rw [zu_n _ _ _ m48, zu_n _ _ _ m48, zcf_i ⟨by omega, by omega⟩, show 0 + (j - 0) = j by omega, q2 j hj, s22]
end BEGM2
