/-! THE REFERENCE: what comes down as rain, what flows -/
/-- what the reference writes while it fills the flows -/
def zVw (Y : Nat → Nat) (a : Nat) : Nat → Nat → Prop := fun c j => c = Y 55 ∨ c = Y 45 ∨ c = Y 46 ∨ (c = a ∧ j = 47)
noncomputable def vMl (Y : Nat → Nat) (b : Nat) (s : zS) (g : zGl) (k p : Nat) (f : Int32) : Int32 := evB (fMt Y b s (pI p) f) (lwB k (g k))
noncomputable def rMl (Y : Nat → Nat) (b : Nat) (s : zS) (g : zGl) (m : Int32) (p : Nat) : Int32 := F_X11_within (vMl Y b s g 0 p 0) 0 999 + m
noncomputable def drM (Y : Nat → Nat) (b : Nat) (s : zS) (g : zGl) (c : Nat) (f : Int32) : Int32 := F_X11_within (vMl Y b s g 1 c f) 0 f
def dmM (Y : Nat → Nat) (s : zS) (c : Nat) : Bool := decide ((s.1 (Y 49) (12 + c)).toInt = 1)
/-- those farther than d, and of those as far those ahead of i -/
def PrM (sp : Nat → Nat) (d i c : Nat) : Bool := decide (1 ≤ c ∧ (d < sp c ∨ (sp c = d ∧ c < i)))
section FLM
variable {a b : Nat} {Y : Nat → Nat} {R : Nat → Nat → Option Nat} {s t τ : zS} {g : zGl} {N : Nat} {m : Int32} {u sp : Nat → Nat}
theorem zVw.r (h : zYm Y a R) (f : zFr (zVw Y a) s t) {j : Nat} (hj : zYj j) (n : j ≠ 45 ∧ j ≠ 46 ∧ j ≠ 55) : t.1 (Y j) = s.1 (Y j) := funext (fun i => f.2 (Y j) i (by
  rintro (z | z | z | z)
  · exact h.2 j 55 hj (by unfold zYj; omega) n.2.2 z
  · exact h.2 j 45 hj (by unfold zYj; omega) n.1 z
  · exact h.2 j 46 hj (by unfold zYj; omega) n.2.1 z
  · exact (h.1 j hj).2 z.1))
theorem zVw.fl (h : zYm Y a R) (g : zFr (zVw Y a) s t) {j : Nat} (n : j ≠ 47) : t.1 a j = s.1 a j := g.2 a j (by
  rintro (z | z | z | z)
  · exact (h.1 55 (by unfold zYj; omega)).2 z.symm
  · exact (h.1 45 (by unfold zYj; omega)).2 z.symm
  · exact (h.1 46 (by unfold zYj; omega)).2 z.symm
  · exact n z.2)
theorem zUw.up (f : zFr (zUw Y a) s t) : zFr (zVw Y a) s t := zFr.up f (fun c j z => Or.inr z)
theorem zUw.r55 (h : zYm Y a R) (f : zFr (zUw Y a) s t) : t.1 (Y 55) = s.1 (Y 55) := zUw.r h f (by unfold zYj; omega) (by decide) (by decide)
/-- what goes through all stands -/
theorem zVw.all (h : zYm Y a s.2.2) (h18 : (s.1 a 18).toInt = b) (hg : zW5 Y b s g) (f : zFr (zVw Y a) s t) : zYm Y a t.2.2 ∧ (t.1 a 18).toInt = b ∧ zW5 Y b t g ∧ ∀ p y, fMt Y b t p y = fMt Y b s p y := by
  refine ⟨by rw [f.rf]; exact h, by rw [zVw.fl h f (by decide)]; exact h18, hg.cg (fun j hj => zVw.r h f (by unfold zYj; omega) (by omega)), fun p y => fMt.cg (fun j hj => zVw.r h f (by unfold zYj; omega) (by omega))⟩
theorem mMany_w (h : zYm Y a s.2.2) (f : zFr (zVw Y a) s t) : F_X11_many a t = F_X11_many a s := by
  unfold F_X11_many
  simp only [zlt]
  have g21 := (h.1 21 (by unfold zYj; omega)).1
  rw [f.rf, g21, zVw.fl h f (by decide), zVw.r h f (j := 21) (by unfold zYj; omega) (by decide)]
theorem mRainW (h : zYm Y a s.2.2) (h18 : (s.1 a 18).toInt = b) (hb : b ≤ 1) (hg : zW5 Y b s g) (f : zFr (zVw Y a) s t) {p : Int32} {P : Nat} (hp : p.toInt = P) (hP : P < 12) : ∃ τ, F_X11_rainsAt a p t = (F_X11_within (vMl Y b s g 0 P 0) 0 999, τ) ∧ zFr (zUw Y a) t τ := by
  obtain ⟨a1, a2, a3, a4⟩ := zVw.all h h18 hg f
  obtain ⟨τ, e1, e2⟩ := mRainsAt a1 a2 hb a3 hp hP
  refine ⟨τ, ?_, e2⟩
  rw [e1, a4, pI_e hp]
  rfl
theorem mDriesW (h : zYm Y a s.2.2) (h18 : (s.1 a 18).toInt = b) (hb : b ≤ 1) (hg : zW5 Y b s g) (f : zFr (zVw Y a) s t) {p : Int32} {P : Nat} (hp : p.toInt = P) (hP : P < 12) : ∃ τ, F_X11_driesAt a p t = (drM Y b s g P (t.1 (Y 55) P), τ) ∧ zFr (zUw Y a) t τ := by
  obtain ⟨a1, a2, a3, a4⟩ := zVw.all h h18 hg f
  obtain ⟨τ, e1, e2⟩ := mDriesAt a1 a2 hb a3 hp hP
  refine ⟨τ, ?_, e2⟩
  rw [e1, a4, pI_e hp]
  rfl
theorem PrM_t {d i c : Nat} : PrM sp d i c = true ↔ 1 ≤ c ∧ (d < sp c ∨ (sp c = d ∧ c < i)) := by
  unfold PrM
  exact decide_eq_true_iff
theorem PrM_f {d i c : Nat} : PrM sp d i c = false ↔ ¬ (1 ≤ c ∧ (d < sp c ∨ (sp c = d ∧ c < i))) := by
  unfold PrM
  exact decide_eq_false_iff_not
theorem zFw.cgP {dm Pr Pr' : Nat → Bool} {dr : Nat → Int32 → Int32} {r F : Nat → Int32} (h : zFw N u dm dr r Pr F) (e : ∀ c, 1 ≤ c → c < N → Pr' c = Pr c) : zFw N u dm dr r Pr' F := by
  refine ⟨fun c c1 c2 hc x x1 x2 ux => ?_, fun q hq => ?_⟩
  · rw [e x x1 x2]
    rw [e c c1 c2] at hc
    exact h.1 c c1 c2 hc x x1 x2 ux
  · rw [h.2 q hq]
    congr 1
    refine (sm_cg N (fun i hi => ?_)).symm
    by_cases z : 1 ≤ i
    · unfold inF
      rw [e i z hi]
    · rw [inF_0 (fun w => z w.1), inF_0 (fun w => z w.1)]
/-- the rain comes down everywhere -/
theorem mFl2 (h : zYm Y a s.2.2) (h18 : (s.1 a 18).toInt = b) (hb : b ≤ 1) (hg : 0 < N → zW5 Y b s g) (hM : (F_X11_many a s).toInt = N) (hN : N ≤ 12) : ∀ (n : Nat) (x : Int32) (i : Nat) (τ : zS), x.toInt = i → i ≤ N → N - i < n → zFr (zVw Y a) s τ → (∀ p, p < i → τ.1 (Y 55) p = rMl Y b s g m p) → ∃ (τ' : zS) (kL : Int32 → zS → zS), F_X11_fillsFlows_2 a m n x τ = F_X11_fillsFlows_32 a m kL 10000 11 τ' ∧ zFr (zVw Y a) s τ' ∧ ∀ p, p < N → τ'.1 (Y 55) p = rMl Y b s g m p := by
  have g55 := (h.1 55 (by unfold zYj; omega)).1
  intro n
  induction n with
  | zero => intro x i τ _ _ h; exact absurd h (by omega)
  | succ n ih =>
    intro x i τ hx hi hn f hr
    have M : (F_X11_many a τ).toInt = N := by rw [mMany_w h f]; exact hM
    have nx : x.toNatClampNeg = i := by rw [ztn, hx]; rfl
    rw [F_X11_fillsFlows_2]
    simp only [↓zlt, ↓zlt2, f.rf, g55]
    by_cases c : i < N
    · have cx : x.toInt < (F_X11_many a τ).toInt := by omega
      rw [if_pos cx]
      obtain ⟨t, e1, e2⟩ := mRainW h h18 hb (hg (by omega)) f hx (by omega)
      rw [e1, nx]
      have f2 := f.tr (zUw.up e2)
      have f3 : zFr (zVw Y a) s (zu t.1 (Y 55) i (F_X11_within (vMl Y b s g 0 i 0) 0 999 + m), t.2.1, t.2.2) := f2.w (Or.inl rfl)
      refine ih _ (i + 1) _ (zp1 hx (by omega)) (by omega) (by omega) f3 (fun p hp => ?_)
      show zu t.1 (Y 55) i _ (Y 55) p = _
      by_cases e : p = i
      · rw [e, zu_s]
        rfl
      · rw [zu_j _ _ _ _ _ (fun z => e z.symm), zUw.r55 h e2]
        exact hr p (by omega)
    · have cx : ¬ x.toInt < (F_X11_many a τ).toInt := by omega
      rw [if_neg cx]
      exact ⟨τ, _, rfl, f, fun p hp => hr p (by omega)⟩
/-- those that are so far -/
theorem mFl38 (h : zYm Y a s.2.2) (h18 : (s.1 a 18).toInt = b) (hb : b ≤ 1) (hg : 0 < N → zW5 Y b s g) (hM : (F_X11_many a s).toInt = N) (hN : N ≤ 12) (hT : zTr N u) (hu : ∀ c, 1 ≤ c → c < N → (s.1 (Y 49) c).toInt = u c) (hS : ∀ c, c < N → (s.1 (Y 53) c).toInt = sp c) (hsp : ∀ c, 1 ≤ c → c < N → sp c = sp (u c) + 1) {r : Nat → Int32} {x8 : Int32} {d : Nat} (h8 : x8.toInt = d) {k3 k9 : Int32 → zS → zS} : ∀ (n : Nat) (x : Int32) (i : Nat) (τ : zS), x.toInt = i → 1 ≤ i → (i ≤ N ∨ i = 1) → 13 - i < n → zFr (zVw Y a) s τ → zFw N u (dmM Y s) (drM Y b s g) r (PrM sp d i) (fun c => τ.1 (Y 55) c) → ∃ τ', F_X11_fillsFlows_38 x8 a m k3 k9 n x τ = k9 (x8 + (-1 : Int32)) τ' ∧ zFr (zVw Y a) s τ' ∧ zFw N u (dmM Y s) (drM Y b s g) r (PrM sp d 13) (fun c => τ'.1 (Y 55) c) := by
  have g55 := (h.1 55 (by unfold zYj; omega)).1
  have g53 := (h.1 53 (by unfold zYj; omega)).1
  have g49 := (h.1 49 (by unfold zYj; omega)).1
  have e1' : (1 : Int32).toInt = 1 := by decide
  have e12 : (12 : Int32).toInt = 12 := by decide
  intro n
  induction n with
  | zero => intro x i τ _ _ _ h; exact absurd h (by omega)
  | succ n ih =>
    intro x i τ hx hi hi2 hn f hw
    have M : (F_X11_many a τ).toInt = N := by rw [mMany_w h f]; exact hM
    have nx : x.toNatClampNeg = i := by rw [ztn, hx]; rfl
    have r53 : τ.1 (Y 53) = s.1 (Y 53) := zVw.r h f (by unfold zYj; omega) (by decide)
    have r49 : τ.1 (Y 49) = s.1 (Y 49) := zVw.r h f (by unfold zYj; omega) (by decide)
    have x12 : ((12 : Int32) + x).toNatClampNeg = 12 + i := by
      rw [ztn, zb_add (by rw [e12]; omega) (by rw [e12]; omega), e12, hx]
      omega
    rw [F_X11_fillsFlows_38]
    simp only [↓zlt, ↓zlt2, f.rf, g55, g53, g49, nx, r53, r49, x12, e1']
    by_cases c : i < N
    · have cx : x.toInt < (F_X11_many a τ).toInt := by omega
      rw [if_pos cx]
      by_cases cd : sp i = d
      · have cs : (s.1 (Y 53) i).toInt = x8.toInt := by rw [hS i c, h8, cd]
        rw [if_pos cs]
        have Pc : PrM sp d i i = false := PrM_f.mpr (by omega)
        have Pk : ∀ e, 1 ≤ e → e < N → u e = i → PrM sp d i e = true := fun e x1 x2 eu => PrM_t.mpr ⟨x1, Or.inl (by have := hsp e x1 x2; rw [eu] at this; omega)⟩
        have Ps : ∀ y, PrM sp d (i + 1) y = (PrM sp d i y || decide (y = i)) := fun y => by
          rw [Bool.eq_iff_iff]
          simp only [Bool.or_eq_true, decide_eq_true_eq]
          rw [PrM_t, PrM_t]
          constructor
          · rintro ⟨y1, y2⟩
            by_cases e : y = i
            · exact Or.inr e
            · exact Or.inl ⟨y1, by omega⟩
          · rintro (⟨y1, y2⟩ | e)
            · exact ⟨y1, by omega⟩
            · rw [e]
              exact ⟨hi, Or.inr ⟨cd, by omega⟩⟩
        by_cases dm : (s.1 (Y 49) (12 + i)).toInt = 1
        · rw [if_pos dm]
          have dm' : ¬ dmM Y s i = false := fun z => by
            unfold dmM at z
            rw [decide_eq_false_iff_not] at z
            exact z dm
          exact ih _ (i + 1) τ (zp1 hx (by omega)) (by omega) (by omega) (by omega) f (hw.step hT hi c Pc Pk Ps (fun y hy => by rw [if_neg (fun z => dm' z.1)]))
        · rw [if_neg dm]
          have dm' : dmM Y s i = false := by
            unfold dmM
            rw [decide_eq_false_iff_not]
            exact dm
          obtain ⟨t, d1, d2⟩ := mDriesW h h18 hb (hg (by omega)) f hx (by omega)
          have r55 := zUw.r55 h d2
          have t49 : t.1 (Y 49) = s.1 (Y 49) := (zUw.r h d2 (j := 49) (by unfold zYj; omega) (by decide) (by decide)).trans r49
          have rt : t.2.2 = s.2.2 := d2.rf.trans f.rf
          have nu : (s.1 (Y 49) i).toNatClampNeg = u i := by rw [ztn, hu i hi c]; rfl
          rw [d1]
          simp only [rt, g55, g49, t49, nu, r55]
          have f2 := f.tr (zUw.up d2)
          have F : zFr (zVw Y a) s (zu t.1 (Y 55) (u i) (τ.1 (Y 55) (u i) + (τ.1 (Y 55) i - drM Y b s g i (τ.1 (Y 55) i))), t.2.1, s.2.2) := by
            have q := f2.w (r := Y 55) (j := u i) (v := τ.1 (Y 55) (u i) + (τ.1 (Y 55) i - drM Y b s g i (τ.1 (Y 55) i))) (Or.inl rfl)
            rw [rt] at q
            exact q
          exact ih _ (i + 1) _ (zp1 hx (by omega)) (by omega) (by omega) (by omega) F (hw.step hT hi c Pc Pk Ps (fun y hy => by
            show zu t.1 (Y 55) (u i) _ (Y 55) y = _
            by_cases e : y = u i
            · rw [if_pos ⟨dm', e⟩, e, zu_s]
            · rw [if_neg (fun z => e z.2), zu_j _ _ _ _ _ (fun z => e z.symm), r55]))
      · have cs : ¬ (s.1 (Y 53) i).toInt = x8.toInt := by rw [hS i c, h8]; omega
        rw [if_neg cs]
        refine ih _ (i + 1) τ (zp1 hx (by omega)) (by omega) (by omega) (by omega) f (hw.cgP (fun y y1 y2 => ?_))
        rw [Bool.eq_iff_iff, PrM_t, PrM_t]
        constructor
        · rintro ⟨z1, z2⟩
          refine ⟨z1, ?_⟩
          rcases z2 with z2 | ⟨z2, z3⟩
          · exact Or.inl z2
          · by_cases e : y = i
            · rw [e] at z2
              exact absurd z2 cd
            · exact Or.inr ⟨z2, by omega⟩
        · rintro ⟨z1, z2⟩
          exact ⟨z1, by omega⟩
    · have cx : ¬ x.toInt < (F_X11_many a τ).toInt := by omega
      rw [if_neg cx]
      refine ⟨τ, rfl, f, hw.cgP (fun y y1 y2 => ?_)⟩
      rw [Bool.eq_iff_iff, PrM_t, PrM_t]
      constructor
      · rintro ⟨z1, z2⟩
        exact ⟨z1, by omega⟩
      · rintro ⟨z1, z2⟩
        exact ⟨z1, by omega⟩
theorem mFl32 (h : zYm Y a s.2.2) (h18 : (s.1 a 18).toInt = b) (hb : b ≤ 1) (hg : 0 < N → zW5 Y b s g) (hM : (F_X11_many a s).toInt = N) (hN : N ≤ 12) (hT : zTr N u) (hu : ∀ c, 1 ≤ c → c < N → (s.1 (Y 49) c).toInt = u c) (hS : ∀ c, c < N → (s.1 (Y 53) c).toInt = sp c) (hsp : ∀ c, 1 ≤ c → c < N → sp c = sp (u c) + 1) {r : Nat → Int32} {k3 : Int32 → zS → zS} : ∀ (n : Nat) (x : Int32) (d : Nat) (τ : zS), x.toInt = d → d < n → zFr (zVw Y a) s τ → zFw N u (dmM Y s) (drM Y b s g) r (PrM sp d 1) (fun c => τ.1 (Y 55) c) → zFr (zVw Y a) s (F_X11_fillsFlows_32 a m k3 n x τ) ∧ zFw N u (dmM Y s) (drM Y b s g) r (fun c => decide (1 ≤ c)) (fun c => (F_X11_fillsFlows_32 a m k3 n x τ).1 (Y 55) c) := by
  have em : (-1 : Int32).toInt = -1 := by decide
  have e1' : (1 : Int32).toInt = 1 := by decide
  intro n
  induction n with
  | zero => intro x d τ _ h; exact absurd h (by omega)
  | succ n ih =>
    intro x d τ hx hd f hw
    rw [F_X11_fillsFlows_32]
    simp only [↓zlt]
    by_cases c : 0 < d
    · have cx : 0 < x.toInt := by omega
      rw [if_pos cx]
      obtain ⟨τ', e1, e2, e3⟩ := mFl38 (m := m) (k3 := k3) (k9 := F_X11_fillsFlows_32 a m k3 n) h h18 hb hg hM hN hT hu hS hsp hx 10000 1 1 τ e1' (Nat.le_refl _) (Or.inr rfl) (by omega) f hw
      rw [e1]
      have bx := zb_rng x
      refine ih _ (d - 1) τ' (by rw [zb_add (by rw [em]; omega) (by rw [em]; omega), em, hx]; omega) (by omega) e2 (e3.cgP (fun y y1 y2 => ?_))
      rw [Bool.eq_iff_iff, PrM_t, PrM_t]
      constructor
      · rintro ⟨z1, z2⟩
        exact ⟨z1, by omega⟩
      · rintro ⟨z1, z2⟩
        exact ⟨z1, by omega⟩
    · have cx : ¬ 0 < x.toInt := by omega
      have d0 : d = 0 := by omega
      rw [if_neg cx]
      rw [d0] at hw
      refine ⟨f, hw.cgP (fun y y1 y2 => ?_)⟩
      rw [Bool.eq_iff_iff, PrM_t, decide_eq_true_iff]
      have := hsp y y1 y2
      constructor
      · intro _
        exact ⟨y1, Or.inl (by omega)⟩
      · intro z
        exact z.1
/-- the flows filled -/
theorem mFlow (h : zYm Y a s.2.2) (h18 : (s.1 a 18).toInt = b) (hb : b ≤ 1) (hg : 0 < N → zW5 Y b s g) (hM : (F_X11_many a s).toInt = N) (hN : N ≤ 12) (hT : zTr N u) (hu : ∀ c, 1 ≤ c → c < N → (s.1 (Y 49) c).toInt = u c) (hS : ∀ c, c < N → (s.1 (Y 53) c).toInt = sp c) (hsp : ∀ c, 1 ≤ c → c < N → sp c = sp (u c) + 1) (h11 : ∀ c, c < N → sp c ≤ 11) (f : zFr (zVw Y a) s t) : zFr (zVw Y a) s (F_X11_fillsFlows a m t) ∧ zFw N u (dmM Y s) (drM Y b s g) (rMl Y b s g m) (fun c => decide (1 ≤ c)) (fun c => (F_X11_fillsFlows a m t).1 (Y 55) c) := by
  have e0 : (0 : Int32).toInt = 0 := by decide
  unfold F_X11_fillsFlows
  simp only [zlt]
  obtain ⟨τ', kL, e1, e2, e3⟩ := mFl2 (m := m) h h18 hb hg hM hN 10000 0 0 t e0 (by omega) (by omega) f (fun p hp => absurd hp (by omega))
  rw [e1]
  refine mFl32 h h18 hb hg hM hN hT hu hS hsp 10000 11 11 τ' (by decide) (by omega) e2 (zFw.st e3 (fun c c1 c2 => PrM_f.mpr (fun z => ?_)))
  have := h11 c c2
  omega
end FLM
