/-! THE CLASS: what comes down as rain -/
def pI (p : Nat) : Int32 := Int32.ofInt (p : Int)
theorem pI_b : ∀ p, p < 13 → (pI p).toInt = p ∧ (pI p).toNatClampNeg = p := by decide
theorem pI_e {x : Int32} {p : Nat} (h : x.toInt = p) : x = pI p := ofI h
/-- what the river writes while it is looked at -/
def zRw (q : Nat → Nat) : Nat → Nat → Prop := fun c _ => c = q 5 ∨ c = q 6 ∨ c = q 7 ∨ c = q 8 ∨ c = q 9
/-- what a law is worth at a place -/
noncomputable def vCl (q : Nat → Nat) (s : zS) (g : zGl) (k p : Nat) (f : Int32) : Int32 := evB (fCt q s (pI p) f) (lwB k (g k))
/-- what comes down at a place -/
noncomputable def rCl (q : Nat → Nat) (s : zS) (g : zGl) (m : Int32) (p : Nat) : Int32 := F_X10_held (vCl q s g 0 p 0) 0 999 + m
section RAINC
variable {q : Nat → Nat} {R : Nat → Nat → Option Nat} {s t τ : zS} {g : zGl} {N : Nat} {m : Int32}
theorem zRw.r (h : zQr q R) (f : zFr (zRw q) s t) {i : Nat} (hi : i < 22) (n : i < 5 ∨ 9 < i) : t.1 (q i) = s.1 (q i) := funext (fun j => f.2 (q i) j (by
  rintro (z | z | z | z | z)
  · exact h.n hi (by decide) (by omega) z
  · exact h.n hi (by decide) (by omega) z
  · exact h.n hi (by decide) (by omega) z
  · exact h.n hi (by decide) (by omega) z
  · exact h.n hi (by decide) (by omega) z))
theorem zTw.up (f : zFr (zTw q) s t) : zFr (zRw q) s t := zFr.up f (fun c j z => by
  rcases z with z | z
  · exact Or.inr (Or.inr (Or.inr (Or.inl z)))
  · exact Or.inr (Or.inr (Or.inr (Or.inr z))))
/-- a law asked later on: by what stood at first -/
theorem cTellsR (h : zQr q s.2.2) (hg : zL5 q s g) (f : zFr (zRw q) s t) {k x y : Int32} {w p : Nat} (hk : k.toInt = w) (hw : w < 5) (hp : x.toInt = p) : ∃ τ, F_X5_tells (q 0) k x y t = (vCl q s g w p y, τ) ∧ zFr (zTw q) t τ := by
  have rt : t.2.2 = s.2.2 := f.rf
  have hg' : zL5 q t g := hg.cg (congrFun (zRw.r h f (by decide) (by omega)) 8) (fun i hi => zRw.r h f (by omega) (by omega))
  obtain ⟨τ, e1, e2⟩ := cTells (p := x) (f := y) (by rw [rt]; exact h) hg' hk hw
  refine ⟨τ, ?_, e2⟩
  have e : fCt q t x y = fCt q s x y := fCt.cg (fun i hi => zRw.r h f (by omega) (by omega))
  rw [e1, e, pI_e hp]
  rfl
theorem cRainL (h : zQr q s.2.2) (hg : 0 < N → zL5 q s g) (h0 : (s.1 (q 1) 0).toInt = N) (hN : N ≤ 12) : ∀ (n : Nat) (x : Int32) (i : Nat) (τ : zS), x.toInt = i → i ≤ N → N - i < n → zFr (zRw q) s τ → (∀ p, p < i → τ.1 (q 5) p = rCl q s g m p) → zFr (zRw q) s (F_X5_rainDown_2 (q 0) m n x τ) ∧ ∀ p, p < N → (F_X5_rainDown_2 (q 0) m n x τ).1 (q 5) p = rCl q s g m p := by
  obtain ⟨⟨g1, -, -, -, g5, -, -⟩, -⟩ := id h.1
  intro n
  induction n with
  | zero => intro x i τ _ _ h; exact absurd h (by omega)
  | succ n ih =>
    intro x i τ hx hi hn f hr
    have rt : τ.2.2 = s.2.2 := f.rf
    have t0 : (τ.1 (q 1) 0).toInt = N := by rw [congrFun (zRw.r h f (i := 1) (by decide) (by omega)) 0]; exact h0
    have nx : x.toNatClampNeg = i := by rw [ztn, hx]; rfl
    rw [F_X5_rainDown_2]
    simp only [↓zlt, ↓zlt2, rt, g1, g5]
    by_cases c : i < N
    · have cx : x.toInt < (τ.1 (q 1) 0).toInt := by omega
      rw [if_pos cx]
      obtain ⟨t, e1, e2⟩ := cTellsR (k := 0) (y := 0) (w := 0) h (hg (by omega)) f (by decide) (by decide) hx
      rw [e1]
      have f2 := f.tr (zTw.up e2)
      have f3 : zFr (zRw q) s (zu t.1 (q 5) i (F_X10_held (vCl q s g 0 i 0) 0 999 + m), t.2.1, t.2.2) := f2.w (Or.inl rfl)
      rw [nx]
      refine ih _ (i + 1) _ (zp1 hx (by omega)) (by omega) (by omega) f3 (fun p hp => ?_)
      show zu t.1 (q 5) i _ (q 5) p = _
      by_cases e : p = i
      · rw [e, zu_s]
        rfl
      · rw [zu_j _ _ _ _ _ (fun z => e z.symm), e2.2 (q 5) p (by
          rintro (z | z)
          · exact h.n (by decide) (by decide) (by decide) z
          · exact h.n (by decide) (by decide) (by decide) z)]
        exact hr p (by omega)
    · have cx : ¬ x.toInt < (τ.1 (q 1) 0).toInt := by omega
      rw [if_neg cx]
      exact ⟨f, fun p hp => hr p (by omega)⟩
theorem cRain (h : zQr q s.2.2) (hg : 0 < N → zL5 q s g) (h0 : (s.1 (q 1) 0).toInt = N) (hN : N ≤ 12) (f : zFr (zRw q) s t) : zFr (zRw q) s (F_X5_rainDown (q 0) m t) ∧ ∀ p, p < N → (F_X5_rainDown (q 0) m t).1 (q 5) p = rCl q s g m p := by
  unfold F_X5_rainDown
  simp only [zlt]
  exact cRainL h hg h0 hN 10000 0 0 t (by decide) (by omega) (by omega) f (fun p hp => absurd hp (by omega))
end RAINC
/-! THE CLASS: what flows -/
/-- the line: each place behind the one that it runs into -/
def zLnP (N : Nat) (u : Nat → Nat) (A2 : Nat) (l : Nat → Nat) (τ : zS) : Prop := (∀ j, j < N → (τ.1 A2 j).toInt = l j ∧ l j < N) ∧ (∀ j j', j < N → j' < N → l j = l j' → j = j') ∧ (∀ j, 1 ≤ j → j < N → 1 ≤ l j ∧ ∃ j', j' < j ∧ l j' = u (l j)) ∧ ∀ q, q < N → ∃ j, j < N ∧ l j = q
theorem zLnE.p {N A2 A3 A6 : Nat} {u l : Nat → Nat} {FR : Nat → Int32} {τ : zS} (h : zLnE N u A2 A3 A6 FR l τ) : zLnP N u A2 l τ := ⟨h.1, h.2.2.2.1, h.2.2.2.2.1, h.2.2.2.2.2⟩
theorem zLnP.cg {N A2 : Nat} {u l : Nat → Nat} {τ τ' : zS} (h : zLnP N u A2 l τ) (e : τ'.1 A2 = τ.1 A2) : zLnP N u A2 l τ' := ⟨fun j hj => by rw [e]; exact h.1 j hj, h.2⟩
/-- those at positions behind i -/
noncomputable def PrC (N : Nat) (l : Nat → Nat) (i c : Nat) : Bool := @decide (∃ j, i < j ∧ j < N ∧ l j = c) (Classical.propDecidable _)
theorem PrC_t {N i c : Nat} {l : Nat → Nat} : PrC N l i c = true ↔ ∃ j, i < j ∧ j < N ∧ l j = c := by
  unfold PrC
  exact @decide_eq_true_iff _ (Classical.propDecidable _)
/-- dammed, by bits -/
noncomputable def dmC (D : Int32) (c : Nat) : Bool := !decide ((F_X10_has D (pI c)).toInt = 0)
theorem dmC_f {D : Int32} {c : Nat} : dmC D c = false ↔ (F_X10_has D (pI c)).toInt = 0 := by
  unfold dmC
  simp
/-- what dries at a place of which f flows -/
noncomputable def drC (q : Nat → Nat) (s : zS) (g : zGl) (c : Nat) (f : Int32) : Int32 := F_X10_held (vCl q s g 1 c f) 0 f
section RUNC
variable {q : Nat → Nat} {R : Nat → Nat → Option Nat} {s t τ : zS} {g : zGl} {N : Nat} {D : Int32} {u l : Nat → Nat}
theorem cDried (h : zQr q s.2.2) (hg : zL5 q s g) (f : zFr (zRw q) s t) {x : Int32} {p : Nat} (hp : x.toInt = p) : ∃ τ, F_X5_dried (q 0) x t = (drC q s g p (t.1 (q 6) p), τ) ∧ zFr (zTw q) t τ := by
  obtain ⟨⟨-, -, -, -, -, g6, -⟩, -⟩ := id h.1
  have rt : t.2.2 = s.2.2 := f.rf
  have nx : x.toNatClampNeg = p := by rw [ztn, hp]; rfl
  obtain ⟨τ, e1, e2⟩ := cTellsR (k := 1) (y := t.1 (q 6) p) (w := 1) h hg f (by decide) (by decide) hp
  have rτ : τ.2.2 = s.2.2 := e2.rf.trans rt
  have r6 : τ.1 (q 6) p = t.1 (q 6) p := e2.2 _ _ (by
    rintro (z | z)
    · exact h.n (by decide) (by decide) (by decide) z
    · exact h.n (by decide) (by decide) (by decide) z)
  refine ⟨τ, ?_, e2⟩
  unfold F_X5_dried
  simp only [↓zlt, ↓zlt2, rt, g6, nx, e1, rτ, r6]
  rfl
theorem cRunL (h : zQr q s.2.2) (hg : 0 < N → zL5 q s g) (hN : N ≤ 12) (hT : zTr N u) (hu : ∀ c, 1 ≤ c → c < N → (s.1 (q 19) c).toInt = u c) (E : zLnP N u (q 16) l s) {r : Nat → Int32} : ∀ (n : Nat) (x : Int32) (i : Nat) (τ : zS), x.toInt = i → i < N → i < n → zFr (zRw q) s τ → zFw N u (dmC D) (drC q s g) r (PrC N l i) (fun c => τ.1 (q 6) c) → zFb N (PrC N l i) (fun c => τ.1 (q 6) c) → zFr (zRw q) s (F_X5_run_25 (q 0) D n x τ) ∧ zFr (fun c _ => c = q 6 ∨ c = q 8 ∨ c = q 9) τ (F_X5_run_25 (q 0) D n x τ) ∧ zFw N u (dmC D) (drC q s g) r (PrC N l 0) (fun c => (F_X5_run_25 (q 0) D n x τ).1 (q 6) c) ∧ zFb N (PrC N l 0) (fun c => (F_X5_run_25 (q 0) D n x τ).1 (q 6) c) := by
  obtain ⟨⟨g1, -, -, g4, -, g6, -⟩, -, -, ⟨g16, -, -⟩, g19, -, -⟩ := id h.1
  have em : (-1 : Int32).toInt = -1 := by decide
  obtain ⟨E1, E4, E5, E6⟩ := E
  intro n
  induction n with
  | zero => intro x i τ _ _ h; exact absurd h (by omega)
  | succ n ih =>
    intro x i τ hx hi hn f hw hb
    have rt : τ.2.2 = s.2.2 := f.rf
    have nx : x.toNatClampNeg = i := by rw [ztn, hx]; rfl
    have t16 : τ.1 (q 16) i = s.1 (q 16) i := congrFun (zRw.r h f (by decide) (by omega)) i
    have hl := E1 i hi
    have hx1 : 1 ≤ i → (x + (-1 : Int32)).toInt = ((i - 1 : Nat) : Int) := fun h1 => by rw [zb_add (by rw [em]; omega) (by rw [em]; omega), em, hx]; omega
    rw [F_X5_run_25]
    simp only [↓zlt, ↓zlt2, rt, g1, g4, g6, g16, g19, nx, t16]
    by_cases c : 1 ≤ i
    · have cx : 0 < x.toInt := by omega
      rw [if_pos cx]
      obtain ⟨p, hp⟩ : ∃ p, p = l i := ⟨_, rfl⟩
      rw [← hp] at hl
      obtain ⟨v, hv⟩ : ∃ v, v = s.1 (q 16) i := ⟨_, rfl⟩
      rw [← hv] at hl ⊢
      have p1 : 1 ≤ p := by rw [hp]; exact (E5 i c hi).1
      have nv : v.toNatClampNeg = p := by rw [ztn, hl.1]; rfl
      have ev : v = pI p := pI_e hl.1
      have up := hT.u_lt p1 hl.2
      -- what has been gone through
      have Pc : PrC N l i p = false := by
        apply Classical.byContradiction
        intro z
        rw [Bool.not_eq_false, PrC_t] at z
        obtain ⟨j, j1, j2, j3⟩ := z
        have := E4 j i j2 hi (by rw [j3, hp])
        omega
      have Pk : ∀ e, 1 ≤ e → e < N → u e = p → PrC N l i e = true := fun e e1 e2 eu => by
        obtain ⟨j, j1, j2⟩ := E6 e e2
        have jp : 1 ≤ j := by
          apply Classical.byContradiction
          intro z
          have z0 : j = 0 := by omega
          obtain ⟨k, k1, k2⟩ := E6 0 (by omega)
          by_cases k0 : k = 0
          · rw [k0] at k2
            rw [z0, k2] at j2
            omega
          · have := (E5 k (by omega) k1).1
            omega
        obtain ⟨-, j', j3, j4⟩ := E5 j jp j1
        rw [j2, eu, hp] at j4
        have := E4 j' i (by omega) hi j4
        exact PrC_t.mpr ⟨j, by omega, j1, j2⟩
      have Ps : ∀ y, PrC N l (i - 1) y = (PrC N l i y || decide (y = p)) := fun y => by
        rw [Bool.eq_iff_iff]
        simp only [Bool.or_eq_true, decide_eq_true_eq]
        rw [PrC_t, PrC_t]
        constructor
        · rintro ⟨j, j1, j2, j3⟩
          by_cases e : j = i
          · exact Or.inr (by rw [← j3, e, hp])
          · exact Or.inl ⟨j, by omega, j2, j3⟩
        · rintro (⟨j, j1, j2, j3⟩ | e)
          · exact ⟨j, by omega, j2, j3⟩
          · exact ⟨i, by omega, hi, by rw [e, hp]⟩
      have Pu : PrC N l i (u p) = false := by
        apply Classical.byContradiction
        intro z
        rw [Bool.not_eq_false] at z
        by_cases u0 : 1 ≤ u p
        · have := hw.1 (u p) u0 up z p p1 hl.2 rfl
          rw [Pc] at this
          cases this
        · obtain ⟨j, j1, j2, j3⟩ := PrC_t.mp z
          have := (E5 j (by omega) j2).1
          omega
      have bd : 0 ≤ (drC q s g p (τ.1 (q 6) p)).toInt ∧ (drC q s g p (τ.1 (q 6) p)).toInt ≤ (τ.1 (q 6) p).toInt := by
        have b0 := (hb.1 p hl.2).1
        have z0 : (0 : Int32).toInt = 0 := by decide
        have r := held_r (v := vCl q s g 1 p (τ.1 (q 6) p)) (lo := 0) (hi := τ.1 (q 6) p) (by rw [z0]; exact b0)
        rw [z0] at r
        exact r
      by_cases d : (F_X10_has D v).toInt = 0
      · rw [if_pos d]
        obtain ⟨t, e1, e2⟩ := cDried h (hg (by omega)) f hl.1
        have up' : τ.1 (q 19) p = s.1 (q 19) p := congrFun (zRw.r h f (by decide) (by omega)) p
        have nu : (s.1 (q 19) p).toNatClampNeg = u p := by rw [ztn, hu p p1 hl.2]; rfl
        rw [nv, up', nu, e1]
        have f2 := f.tr (zTw.up e2)
        have f3 : zFr (fun c _ => c = q 6 ∨ c = q 8 ∨ c = q 9) τ (zu t.1 (q 6) (u p) (τ.1 (q 6) (u p) + (τ.1 (q 6) p - drC q s g p (τ.1 (q 6) p))), t.2.1, t.2.2) := (zFr.up e2 (fun c j z => Or.inr z)).w (Or.inl rfl)
        have dm : dmC D p = false := dmC_f.mpr (by rw [← ev]; exact d)
        have H : ∀ y, y < N → zu t.1 (q 6) (u p) (τ.1 (q 6) (u p) + (τ.1 (q 6) p - drC q s g p (τ.1 (q 6) p))) (q 6) y = if dmC D p = false ∧ y = u p then τ.1 (q 6) y + (τ.1 (q 6) p - drC q s g p (τ.1 (q 6) p)) else τ.1 (q 6) y := fun y hy => by
          have r6 : t.1 (q 6) y = τ.1 (q 6) y := e2.2 _ _ (by
            rintro (z | z)
            · exact h.n (by decide) (by decide) (by decide) z
            · exact h.n (by decide) (by decide) (by decide) z)
          by_cases e : y = u p
          · rw [if_pos ⟨dm, e⟩, e, zu_s]
          · rw [if_neg (fun z => e z.2), zu_j _ _ _ _ _ (fun z => e z.symm)]
            exact r6
        obtain ⟨a1, a2, a3, a4⟩ := ih _ (i - 1) (zu t.1 (q 6) (u p) (τ.1 (q 6) (u p) + (τ.1 (q 6) p - drC q s g p (τ.1 (q 6) p))), t.2.1, t.2.2) (hx1 c) (by omega) (by omega) (f2.w (Or.inr (Or.inl rfl))) (hw.step hT p1 hl.2 Pc Pk Ps H) (hb.step (dm := dmC D) (dr := drC q s g) hT p1 hl.2 Pc Pu bd Ps H)
        exact ⟨a1, f3.tr a2, a3, a4⟩
      · rw [if_neg d]
        have dm : ¬ dmC D p = false := fun z => d (by rw [ev]; exact dmC_f.mp z)
        have H : ∀ y, y < N → τ.1 (q 6) y = if dmC D p = false ∧ y = u p then τ.1 (q 6) y + (τ.1 (q 6) p - drC q s g p (τ.1 (q 6) p)) else τ.1 (q 6) y := fun y hy => by rw [if_neg (fun z => dm z.1)]
        exact ih _ (i - 1) τ (hx1 c) (by omega) (by omega) f (hw.step hT p1 hl.2 Pc Pk Ps H) (hb.step (dm := dmC D) (dr := drC q s g) hT p1 hl.2 Pc Pu bd Ps H)
    · have cx : ¬ 0 < x.toInt := by omega
      have i0 : i = 0 := by omega
      rw [if_neg cx]
      rw [i0] at hw hb
      exact ⟨f, zFr.id, hw, hb⟩
end RUNC
section RUNC2
variable {q : Nat → Nat} {R : Nat → Nat → Option Nat} {s t τ : zS} {g : zGl} {N : Nat} {D m : Int32} {u l : Nat → Nat}
theorem zcp_v {a b : Nat} (j : Nat) (hj : j < 12) : (zcpy t a b 12).1 b j = t.1 a j := zc12_b (f := t.1) (a := a) (b := b) hj
/-- what flows: behind the rain -/
theorem cRun (h : zQr q s.2.2) (hg : 0 < N → zL5 q s g) (h0 : (s.1 (q 1) 0).toInt = N) (hN : N ≤ 12) (hT : zTr N u) (hu : ∀ c, 1 ≤ c → c < N → (s.1 (q 19) c).toInt = u c) (E : zLnP N u (q 16) l s) (f : zFr (zRw q) s t) {r : Nat → Int32} (hr : ∀ p, p < N → t.1 (q 5) p = r p) (hr2 : ∀ p, p < N → 0 ≤ (r p).toInt ∧ (r p).toInt ≤ 1098) : zFr (zRw q) s (F_X5_run (q 0) D t) ∧ zFr (fun c _ => c = q 6 ∨ c = q 8 ∨ c = q 9) t (F_X5_run (q 0) D t) ∧ zFw N u (dmC D) (drC q s g) r (PrC N l 0) (fun c => (F_X5_run (q 0) D t).1 (q 6) c) ∧ ∀ p, p < N → 0 ≤ ((F_X5_run (q 0) D t).1 (q 6) p).toInt := by
  obtain ⟨⟨g1, -, -, -, g5, g6, -⟩, -⟩ := id h.1
  have rt : t.2.2 = s.2.2 := f.rf
  have e1 : (1 : Int32).toInt = 1 := by decide
  obtain ⟨w, hw⟩ : ∃ w : zS, w = zcpy t (q 5) (q 6) 12 := ⟨_, rfl⟩
  have fw : zFr (fun c _ => c = q 6 ∨ c = q 8 ∨ c = q 9) t w := by rw [hw]; exact zFr.id.cp (fun _ => Or.inl rfl)
  have fs : zFr (zRw q) s w := by rw [hw]; exact f.cp (fun _ => Or.inr (Or.inl rfl))
  have rw0 : (w.1 (q 1) 0).toInt = N := by rw [congrFun (zRw.r h fs (i := 1) (by decide) (by omega)) 0]; exact h0
  have rw2 : w.2.2 = s.2.2 := fs.rf
  have row : ∀ p, p < N → w.1 (q 6) p = r p := fun p hp => by rw [hw, zcp_v p (by omega)]; exact hr p hp
  have X : F_X5_run (q 0) D t = F_X5_run_25 (q 0) D 10000 (w.1 (q 1) 0 - (1 : Int32)) w := by
    unfold F_X5_run
    simp only [↓zlt, rt, g5, g6]
    rw [← hw]
    simp only [rw2, g1]
    rw [show w.1 (q 1) = (if q 1 = q 6 then va_cpy (t.1 (q 5)) (t.1 (q 6)) 0 0 12 else t.1 (q 1)) from by rw [hw]]
  rw [X]
  by_cases c : 1 ≤ N
  · have xN : (w.1 (q 1) 0 - (1 : Int32)).toInt = ((N - 1 : Nat) : Int) := by rw [zb_sub (by rw [e1]; omega) (by rw [e1]; omega), e1, rw0]; omega
    have st : zFw N u (dmC D) (drC q s g) r (PrC N l (N - 1)) (fun c => w.1 (q 6) c) := zFw.st (fun p hp => row p hp) (fun c _ _ => by
      apply Classical.byContradiction
      intro z
      rw [Bool.not_eq_false, PrC_t] at z
      obtain ⟨j, j1, j2, -⟩ := z
      omega)
    obtain ⟨a1, a2, a3, a4⟩ := cRunL h hg hN hT hu E 10000 _ (N - 1) w xN (by omega) (by omega) fs st (zFb.st hN (fun p hp => by rw [row p hp]; exact hr2 p hp))
    exact ⟨a1, fw.tr a2, a3, fun p hp => (a4.1 p hp).1⟩
  · have xN : ¬ 0 < (w.1 (q 1) 0 - (1 : Int32)).toInt := by rw [zb_sub (by rw [e1]; omega) (by rw [e1]; omega), e1, rw0]; omega
    have e : F_X5_run_25 (q 0) D 10000 (w.1 (q 1) 0 - (1 : Int32)) w = w := by
      rw [show (10000 : Nat) = 9999 + 1 from rfl, F_X5_run_25, if_neg xN]
    rw [e]
    exact ⟨fs, fw, ⟨fun c c1 c2 => absurd c2 (by omega), fun y hy => absurd hy (by omega)⟩, fun p hp => absurd hp (by omega)⟩
/-- all have been gone through -/
theorem PrC_all (E : zLnP N u (q 16) l s) : ∀ c, 1 ≤ c → c < N → PrC N l 0 c = true := fun c c1 c2 => by
  obtain ⟨-, E4, E5, E6⟩ := E
  obtain ⟨j, j1, j2⟩ := E6 c c2
  refine PrC_t.mpr ⟨j, ?_, j1, j2⟩
  apply Classical.byContradiction
  intro z
  have z0 : j = 0 := by omega
  obtain ⟨k, k1, k2⟩ := E6 0 (by omega)
  by_cases k0 : k = 0
  · rw [k0] at k2
    rw [z0, k2] at j2
    omega
  · have := (E5 k (by omega) k1).1
    omega
end RUNC2
