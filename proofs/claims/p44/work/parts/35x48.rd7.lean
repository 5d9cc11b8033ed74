/-! THE REFERENCE READS: where it begins, what is left -/
section MREADA
variable {a b : Nat} {τ t : zS} {Y : Nat → Nat}
/-- the side that is told is made plain -/
theorem aPm.pn (hY : zYz Y a τ.2.2) (h : zFi (aPm Y a b) τ t) {p : Int32} (hp : p.toInt = b) : zFi (aPm Y a b) τ (F_X11_plain a p t) ∧ (F_X11_plain a p t).1 (Y 21) b = 0 ∧ (F_X11_plain a p t).1 (Y 26) b = 0 ∧ (F_X11_plain a p t).1 (Y 27) b = 0 ∧ (F_X11_plain a p t).1 (Y 28) b = 1 ∧ (F_X11_plain a p t).1 (Y 29) b = 0 := by
  have e : ∀ j, zQs j → (t.2.2 a j).getD 0 = Y j := fun j hj => by rw [h.1]; exact (hY.1 j hj).1
  have en : p.toNatClampNeg = b := by rw [ztn, hp]; rfl
  have q : ∀ j, (j = 21 ∨ j = 26 ∨ j = 27 ∨ j = 28 ∨ j = 29 ∨ j = 30 ∨ j = 31) → zQs j := fun j hj => by unfold zQs; omega
  have d : ∀ i j, (i = 21 ∨ i = 26 ∨ i = 27 ∨ i = 28 ∨ i = 29 ∨ i = 30 ∨ i = 31) → (j = 21 ∨ j = 26 ∨ j = 27 ∨ j = 28 ∨ j = 29 ∨ j = 30 ∨ j = 31) → i ≠ j → Y i ≠ Y j := fun i j hi hj n => hY.2 i j (q i hi) (q j hj) n
  have E : F_X11_plain a p t = F_X11_plain_37 a p 10000 0 (zu (zu (zu (zu (zu t.1 ((t.2.2 a 21).getD 0) p.toNatClampNeg 0) ((t.2.2 a 26).getD 0) p.toNatClampNeg 0) ((t.2.2 a 27).getD 0) p.toNatClampNeg 0) ((t.2.2 a 28).getD 0) p.toNatClampNeg 1) ((t.2.2 a 29).getD 0) p.toNatClampNeg 0, t.2.1, t.2.2) := by
    unfold F_X11_plain
    simp only [zlt]
  rw [e 21 (q 21 (by omega)), e 26 (q 26 (by omega)), e 27 (q 27 (by omega)), e 28 (q 28 (by omega)), e 29 (q 29 (by omega)), en] at E
  obtain ⟨u, hu⟩ : ∃ u : zS, u = (zu (zu (zu (zu (zu t.1 (Y 21) b 0) (Y 26) b 0) (Y 27) b 0) (Y 28) b 1) (Y 29) b 0, t.2.1, t.2.2) := ⟨_, rfl⟩
  rw [← hu] at E
  have ru : u.2.2 = t.2.2 := by rw [hu]
  have hu2 : zFi (aPm Y a b) τ u := by
    rw [hu]
    exact ((((h.w (r := Y 21) (j := b) (v := (0 : Int32)) (Or.inr (Or.inr (Or.inl ⟨rfl, rfl⟩)))).w (r := Y 26) (j := b) (v := (0 : Int32)) (aPm.r (q 26 (by omega)) (by omega) b)).w (r := Y 27) (j := b) (v := (0 : Int32)) (aPm.r (q 27 (by omega)) (by omega) b)).w (r := Y 28) (j := b) (v := (1 : Int32)) (aPm.r (q 28 (by omega)) (by omega) b)).w (r := Y 29) (j := b) (v := (0 : Int32)) (aPm.r (q 29 (by omega)) (by omega) b)
  have f1 : zFi (fun c _ => c = Y 30 ∨ c = Y 31) u (F_X11_plain_37 a p 10000 0 u) := fi_X11_plain_37 (fun _ => Or.inl (by rw [ru]; exact e 30 (q 30 (by omega)))) (fun _ => Or.inr (by rw [ru]; exact e 31 (q 31 (by omega)))) _ _ _ zFi.id
  have f2 : zFi (aPm Y a b) τ (F_X11_plain_37 a p 10000 0 u) := hu2.tr (f1.up (fun c j z => by
    rcases z with z | z
    · rw [z]; exact aPm.r (q 30 (by omega)) (by omega) j
    · rw [z]; exact aPm.r (q 31 (by omega)) (by omega) j))
  have v : ∀ j, (j = 21 ∨ j = 26 ∨ j = 27 ∨ j = 28 ∨ j = 29) → (F_X11_plain_37 a p 10000 0 u).1 (Y j) b = u.1 (Y j) b := fun j hj => f1.2 _ _ (by
    rintro (z | z)
    · exact d j 30 (by omega) (by omega) (by omega) z
    · exact d j 31 (by omega) (by omega) (by omega) z)
  rw [E]
  refine ⟨f2, ?_, ?_, ?_, ?_, ?_⟩
  · rw [v 21 (by omega), hu]
    show zu _ (Y 29) b 0 (Y 21) b = 0
    rw [zu_n _ _ _ (d 21 29 (by omega) (by omega) (by decide)), zu_n _ _ _ (d 21 28 (by omega) (by omega) (by decide)), zu_n _ _ _ (d 21 27 (by omega) (by omega) (by decide)), zu_n _ _ _ (d 21 26 (by omega) (by omega) (by decide)), zu_s]
  · rw [v 26 (by omega), hu]
    show zu _ (Y 29) b 0 (Y 26) b = 0
    rw [zu_n _ _ _ (d 26 29 (by omega) (by omega) (by decide)), zu_n _ _ _ (d 26 28 (by omega) (by omega) (by decide)), zu_n _ _ _ (d 26 27 (by omega) (by omega) (by decide)), zu_s]
  · rw [v 27 (by omega), hu]
    show zu _ (Y 29) b 0 (Y 27) b = 0
    rw [zu_n _ _ _ (d 27 29 (by omega) (by omega) (by decide)), zu_n _ _ _ (d 27 28 (by omega) (by omega) (by decide)), zu_s]
  · rw [v 28 (by omega), hu]
    show zu _ (Y 29) b 0 (Y 28) b = 1
    rw [zu_n _ _ _ (d 28 29 (by omega) (by omega) (by decide)), zu_s]
  · rw [v 29 (by omega), hu]
    show zu _ (Y 29) b 0 (Y 29) b = 0
    rw [zu_s]
theorem zRi_e {a : Nat} {t : zS} : ∃ (p : Int32) (f : Nat → Nat → Int32) (x y : Int32), p = (1 : Int32) - t.1 a 18 ∧ f = zu (zu (zu (zu (zu t.1 a 11 0) a 12 0) a 13 0) a 15 0) a 19 p ∧ zRi a t = (zu (zu (zu (zu (F_X11_plain a p (f, t.2.1, t.2.2)).1 a 32 x) a 38 y) a 41 0) a 42 0, (F_X11_plain a p (f, t.2.1, t.2.2)).2.1, (F_X11_plain a p (f, t.2.1, t.2.2)).2.2) := by
  have e18 : zu (zu (zu (zu t.1 a 11 0) a 12 0) a 13 0) a 15 (0 : Int32) a 18 = t.1 a 18 := by rw [zu_j _ _ _ _ _ (by decide), zu_j _ _ _ _ _ (by decide), zu_j _ _ _ _ _ (by decide), zu_j _ _ _ _ _ (by decide)]
  obtain ⟨r, hr⟩ : ∃ r, r = zRi a t := ⟨_, rfl⟩
  rw [← hr]
  unfold zRi at hr
  simp only [zlt, e18, zu_s] at hr
  exact ⟨_, _, _, _, rfl, rfl, hr⟩
/-- the reference begins to read -/
theorem zRi_g (hY : zYz Y a t.2.2) (hb1 : b ≤ 1) (h18 : (t.1 a 18).toInt = 1 - (b : Int)) : ∃ t5 : zS, t5.2 = t.2 ∧ (t5.1 a 19).toInt = b ∧ (∀ c j, ¬ (c = a ∧ (j = 11 ∨ j = 12 ∨ j = 13 ∨ j = 15 ∨ j = 19)) → t5.1 c j = t.1 c j) ∧ zFi (aPm Y a b) t5 (zRi a t) ∧ (zRi a t).1 (Y 21) b = 0 ∧ (zRi a t).1 (Y 26) b = 0 ∧ (zRi a t).1 (Y 27) b = 0 ∧ (zRi a t).1 (Y 28) b = 1 ∧ (zRi a t).1 (Y 29) b = 0 := by
  have e1 : (1 : Int32).toInt = 1 := by decide
  obtain ⟨p, f, x, y, hp, hf, E⟩ := zRi_e (a := a) (t := t)
  have hpb : p.toInt = b := by rw [hp, zb_sub (by rw [e1, h18]; omega) (by rw [e1, h18]; omega), e1, h18]; omega
  obtain ⟨P, v21, v26, v27, v28, v29⟩ := aPm.pn (Y := Y) (a := a) (b := b) (τ := (f, t.2.1, t.2.2)) (t := (f, t.2.1, t.2.2)) hY zFi.id hpb
  obtain ⟨C, hC⟩ : ∃ C, C = F_X11_plain a p (f, t.2.1, t.2.2) := ⟨_, rfl⟩
  rw [← hC] at E P v21 v26 v27 v28 v29
  have n : ∀ j, (j = 21 ∨ j = 26 ∨ j = 27 ∨ j = 28 ∨ j = 29) → ∀ i, (zRi a t).1 (Y j) i = C.1 (Y j) i := fun j hj i => by
    have hn : ¬ Y j = a := (hY.1 j (by unfold zQs; omega)).2
    rw [E]
    show zu (zu (zu (zu C.1 a 32 x) a 38 y) a 41 0) a 42 0 (Y j) i = _
    rw [zu_n _ _ _ hn, zu_n _ _ _ hn, zu_n _ _ _ hn, zu_n _ _ _ hn]
  refine ⟨(f, t.2.1, t.2.2), rfl, ?_, fun c j hc => ?_, ?_, (n 21 (by omega) b).trans v21, (n 26 (by omega) b).trans v26, (n 27 (by omega) b).trans v27, (n 28 (by omega) b).trans v28, (n 29 (by omega) b).trans v29⟩
  · show (f a 19).toInt = b
    rw [hf, zu_s]; exact hpb
  · show f c j = t.1 c j
    rw [hf]
    by_cases e : c = a
    · subst e
      rw [zu_j _ _ _ _ _ (fun z => hc ⟨rfl, by omega⟩), zu_j _ _ _ _ _ (fun z => hc ⟨rfl, by omega⟩), zu_j _ _ _ _ _ (fun z => hc ⟨rfl, by omega⟩), zu_j _ _ _ _ _ (fun z => hc ⟨rfl, by omega⟩), zu_j _ _ _ _ _ (fun z => hc ⟨rfl, by omega⟩)]
    · rw [zu_n _ _ _ e, zu_n _ _ _ e, zu_n _ _ _ e, zu_n _ _ _ e, zu_n _ _ _ e]
  · rw [E]
    exact (((P.w (r := a) (j := 32) (v := x) (aPm.o (by decide))).w (r := a) (j := 38) (v := y) (aPm.o (by decide))).w (r := a) (j := 41) (v := (0 : Int32)) (aPm.o (by decide))).w (r := a) (j := 42) (v := (0 : Int32)) (aPm.o (by decide))
end MREADA
section MREADB
variable {κ : Int} {L2 : List Nat} {kd2 : Nat → Nat} {σ2 τ2 D0 : zS} {m0 k q v nm nO m x : Nat} {T : zTn}
theorem zYz.of (hJ : zJ κ L2 kd2 σ2) (hm : zT L2 kd2 m0 11) : zYz (mR σ2 m0) m0 σ2.2.2 := ⟨fun j hj => ⟨rfl, mR_m hJ hm (zQs_k hj).1 (by have := (zQs_k hj).2; omega)⟩, fun i j hi hj n => mR_ne hJ hm (zQs_k hi).1 (zQs_k hj).1 (by omega)⟩
/-- what the reference writes while it reads (b: the side told) -/
def zAm (Y : Nat → Nat) (a b x k q v : Nat) : Nat → Nat → Prop := fun c j => aPm Y a b c j ∨ (c = a ∧ j = 19) ∨ c = x ∨ c = k ∨ c = q ∨ c = v
/-- what beginning anew writes -/
def zBm (σ : zS) (a : Nat) : Nat → Nat → Prop := fun c j => (c = a ∧ (j = 17 ∨ j = 18 ∨ j = 50 ∨ j = 51 ∨ j = 57 ∨ j = 62)) ∨ c = mR σ a 48 ∨ c = mR σ a 49 ∨ c = mR σ a 67
set_option maxHeartbeats 1000000 in
theorem mRead (hJ : zJ κ L2 kd2 σ2) (hm : zT L2 kd2 m0 11) (hd : zWd m0 k q v nm nO) (hT : zTm T m) (hK : zTK T m) (w0 : zXo m0 k q v nm nO m T (zRi m0 D0) aZ) {y : Int32} {K : Int32 → zS → Int32 × zS} (e2 : F_X11_read m0 σ2 = F_X11_read_117 y m0 K 10000 (zRi m0 D0)) (dF : zFi (fun c j => (c = m0 ∧ (j = 2 ∨ j = 4 ∨ j = 10)) ∨ c = x ∨ c = k ∨ c = q ∨ c = v) σ2 D0) (tk : zT L2 kd2 x 103 ∧ zT L2 kd2 k 105 ∧ zT L2 kd2 q 106 ∧ zT L2 kd2 v 107) {v2 : Int32} (f2 : (v2, τ2) = F_X11_read m0 σ2) (g : zGa) :
    ∃ (b : Nat) (E : zS), b ≤ 1 ∧ (σ2.1 m0 18).toInt = 1 - (b : Int) ∧ E = xEnd m0 T 500 aZ (zRi m0 D0) ∧ E.2.2 = σ2.2.2 ∧ (E.1 m0 19).toInt = b ∧ (∀ c j, ¬ zAm (mR σ2 m0) m0 b x k q v c j → E.1 c j = σ2.1 c j) ∧ zXg (mR σ2 m0) b E (aRun T 500 aZ) (gRun T (aG T) 500 aZ g) ∧
      (aAns (aRun T 500 aZ) ≠ 0 → τ2.2.2 = σ2.2.2 ∧ ∀ c j, ¬ (c = m0 ∧ j = 17) → τ2.1 c j = E.1 c j) ∧
      (aAns (aRun T 500 aZ) = 0 → ((aRun T 500 aZ).1 = 0 ∧ (aRun T 500 aZ).2.2.2.1 = 0) ∧ ∃ N : Nat, N ≤ 12 ∧ (E.1 (mR σ2 m0 21) b).toInt = N ∧ v2 = 0 ∧ τ2.2.2 = σ2.2.2 ∧ (τ2.1 m0 18).toInt = b ∧ τ2.1 m0 57 = 0 ∧ τ2.1 m0 62 = 0 ∧ (∀ j, j < 3 → τ2.1 (mR σ2 m0 67) j = 0) ∧ (∀ j, j < 50 → τ2.1 (mR σ2 m0 48) j = if j < N then E.1 (mR σ2 m0 22) (12 * b + j) else 0) ∧ ∀ c j, ¬ zBm σ2 m0 c j → τ2.1 c j = E.1 c j) := by
  have hY := zYz.of hJ hm
  have r18 : 0 ≤ (σ2.1 m0 18).toInt ∧ (σ2.1 m0 18).toInt ≤ 1 := zj_get (j := 18) hJ hm (lo := 0) (hi := 1) (by rfl)
  obtain ⟨b, hb1, h18⟩ : ∃ b : Nat, b ≤ 1 ∧ (σ2.1 m0 18).toInt = 1 - (b : Int) := ⟨(1 - (σ2.1 m0 18).toInt).toNat, by omega, by omega⟩
  have nk : ∀ c kc : Nat, zT L2 kd2 c kc → kc ≠ 103 → kc ≠ 105 → kc ≠ 106 → kc ≠ 107 → c ≠ x ∧ c ≠ k ∧ c ≠ q ∧ c ≠ v := fun c kc hc n1 n2 n3 n4 => ⟨zNk hc tk.1 n1, zNk hc tk.2.1 n2, zNk hc tk.2.2.1 n3, zNk hc tk.2.2.2 n4⟩
  have m1 := nk m0 11 hm (by decide) (by decide) (by decide) (by decide)
  have d18 : D0.1 m0 18 = σ2.1 m0 18 := dF.2 _ _ (by
    rintro (⟨-, z⟩ | z | z | z | z)
    · omega
    · exact m1.1 z
    · exact m1.2.1 z
    · exact m1.2.2.1 z
    · exact m1.2.2.2 z)
  have rD : D0.2.2 = σ2.2.2 := dF.1
  have hYD : zYz (mR σ2 m0) m0 D0.2.2 := by rw [rD]; exact hY
  obtain ⟨t5, g1, g2, g3, g4, g5, -⟩ := zRi_g (t := D0) hYD hb1 (by rw [d18]; exact h18)
  have r5 : t5.2.2 = σ2.2.2 := (congrArg Prod.snd g1).trans rD
  have hY5 : zYz (mR σ2 m0) m0 t5.2.2 := by rw [r5]; exact hY
  have X0 : zXg (mR σ2 m0) b (zRi m0 D0) aZ g := fun _ _ => ⟨by rw [g5]; rfl, fun z => absurd rfl z, fun p h1 h2 => by have h2' : (p : Int) ≤ 0 := h2; omega⟩
  obtain ⟨E, hE⟩ : ∃ E, E = xEnd m0 T 500 aZ (zRi m0 D0) := ⟨_, rfl⟩
  obtain ⟨I0, I1, I2⟩ := xEndI hd hT hK (fun τ s g => zXg (mR σ2 m0) b τ s g ∧ zFi (aPm (mR σ2 m0) m0 b) t5 τ) (aG T) (fun τ s g h hs hi => ⟨xTellG hd hT hK h hs (by rw [hi.2.1, r5]; exact hY) (by rw [(aPm.sv hY5 hi.2).1]; exact g2) hb1 hi.1, xTellF hd hT hK h hs hY5 g2 hb1 hi.2⟩) 500 (zRi m0 D0) aZ g w0 ⟨X0, g4⟩
  rw [← hE] at I0 I1 I2
  have rE : E.2.2 = σ2.2.2 := I2.1.trans r5
  have E19 : (E.1 m0 19).toInt = b := by rw [(aPm.sv hY5 I2).1]; exact g2
  have EF : ∀ c j, ¬ zAm (mR σ2 m0) m0 b x k q v c j → E.1 c j = σ2.1 c j := fun c j n => by
    have n1 : ¬ aPm (mR σ2 m0) m0 b c j := fun z => n (Or.inl z)
    rw [I2.2 c j n1, g3 c j (fun z => by
      rcases z with ⟨z0, z⟩
      by_cases c19 : j = 19
      · exact n (Or.inr (Or.inl ⟨z0, c19⟩))
      · exact n1 (Or.inl ⟨z0, by omega⟩)), dF.2 c j (by
      rintro (⟨z0, z⟩ | z | z | z | z)
      · exact n1 (Or.inl ⟨z0, by omega⟩)
      · exact n (Or.inr (Or.inr (Or.inl z)))
      · exact n (Or.inr (Or.inr (Or.inr (Or.inl z))))
      · exact n (Or.inr (Or.inr (Or.inr (Or.inr (Or.inl z)))))
      · exact n (Or.inr (Or.inr (Or.inr (Or.inr (Or.inr z))))))]
  obtain ⟨A1, A2⟩ := xRunE hd hT hK (x7 := y) K 10000 (zRi m0 D0) aZ w0 (fun _ => by show 401 < 10000 + 0; omega) (by omega) 500 (fun _ => by show 401 < 500 + 0; omega) (by omega)
  rw [← hE] at A1 A2
  rw [← e2, ← f2] at A1 A2
  refine ⟨b, E, hb1, h18, hE, rE, E19, EF, I1, fun na => ?_, fun za => ?_⟩
  · obtain ⟨x', hx'⟩ := A1 na
    have hx2 : τ2 = (zu E.1 m0 17 x', E.2.1, E.2.2) := hx'
    refine ⟨by rw [hx2]; exact rE, fun c j n => ?_⟩
    rw [hx2]
    show zu E.1 m0 17 x' c j = _
    by_cases e : c = m0
    · rw [e, zu_j _ _ _ _ _ (fun z => n ⟨e, z.symm⟩)]
    · rw [zu_n _ _ _ e]
  · obtain ⟨⟨z1, z2⟩, K2, hK2⟩ := A2 za
    obtain ⟨s, hs⟩ : ∃ s : zS, s = (zu E.1 m0 17 (-1), E.2.1, E.2.2) := ⟨_, rfl⟩
    rw [← hs] at hK2
    have rs : s.2.2 = σ2.2.2 := by rw [hs]; exact rE
    have sn : ∀ c, c ≠ m0 → s.1 c = E.1 c := fun c hc => by rw [hs]; exact zu_n _ _ _ hc
    have s0 : ∀ j, j ≠ 17 → s.1 m0 j = E.1 m0 j := fun j hj => by rw [hs]; exact zu_j _ _ _ _ _ (fun z => hj z.symm)
    have n21 : mR σ2 m0 21 ≠ m0 := mR_m hJ hm (s := 21) (k := 121) (by rfl) (by decide)
    have n22 : mR σ2 m0 22 ≠ m0 := mR_m hJ hm (s := 22) (k := 122) (by rfl) (by decide)
    have n67 : mR σ2 m0 67 ≠ m0 := mR_m hJ hm (s := 67) (k := 167) (by rfl) (by decide)
    have n48 : mR σ2 m0 48 ≠ mR σ2 m0 67 := mR_ne hJ hm (s := 48) (s' := 67) (k := 148) (k' := 167) (by rfl) (by rfl) (by decide)
    have c11 := (I0.1.2.2.2.2 z1).2.2.2.2.2.2.2.1
    obtain ⟨N, hN, h12⟩ : ∃ N : Nat, (E.1 (mR σ2 m0 21) b).toInt = N ∧ N ≤ 12 := by
      have q := (I1 z1 z2).1
      by_cases cm : (aRun T 500 aZ).2.2.2.2.2.1 = 0
      · rw [if_pos cm] at q
        exact ⟨0, q, by omega⟩
      · rw [if_neg cm] at q
        exact ⟨(1 + (aRun T 500 aZ).2.2.2.2.2.2.1).toNat, by omega, by omega⟩
    -- the same world with the longs of now
    have hJ' : zJ κ L2 kd2 ((σ2.1, s.2.1, σ2.2.2) : zS) := hJ
    have sb : (s.1 m0 19).toInt = b := by rw [s0 19 (by decide)]; exact E19
    obtain ⟨B1, B2, B3, B4, B5, B6⟩ := mBg_e (σ := ((σ2.1, s.2.1, σ2.2.2) : zS)) (s := s) (N := N) (b := b) hJ' hm (Prod.ext rfl rs) sb hb1 (by show (s.1 (mR σ2 m0 21) b).toInt = N; rw [sn _ n21]; exact hN) h12
    have rb : (mBg m0 s).2.2 = σ2.2.2 := by rw [B1]
    have gh : ((mBg m0 s).2.2 m0 67).getD 0 = mR σ2 m0 67 := by rw [rb]
    obtain ⟨H1, H2, H3⟩ := mHeld (m0 := m0) (h := mR σ2 m0 67) (s := mBg m0 s) gh (kA := K) (kB := K2) 10000 0 0 (mBg m0 s) (by decide) (by omega) (by omega) zFr.id (fun j hj => absurd hj (by omega))
    rw [← hK2] at H1 H2 H3
    have H2' : zFr (fun c _ => c = mR σ2 m0 67) (mBg m0 s) τ2 := H2
    have H3' : ∀ j, j < 3 → τ2.1 (mR σ2 m0 67) j = 0 := H3
    have o : ∀ c j, c ≠ mR σ2 m0 67 → τ2.1 c j = (mBg m0 s).1 c j := fun c j hc => H2'.2 c j hc
    refine ⟨⟨z1, z2⟩, N, h12, hN, H1, H2'.rf.trans rb, ?_, ?_, ?_, H3', fun j hj => ?_, fun c j n => ?_⟩
    · rw [o m0 18 (fun z => n67 z.symm), B2]; exact sb
    · rw [o m0 57 (fun z => n67 z.symm)]; exact B3
    · rw [o m0 62 (fun z => n67 z.symm)]; exact B4
    · rw [o _ j n48]
      refine (B5 j hj).trans ?_
      show (if j < N then s.1 (mR σ2 m0 22) (12 * b + j) else 0) = _
      rw [sn _ n22]
    · have nn : ¬ zFm [18, 50, 51, 57, 62] [48, 49] m0 σ2.2.2 c j := by
        rintro (⟨w1, w2⟩ | ⟨w, w1, w2⟩)
        · simp only [List.mem_cons, List.not_mem_nil, or_false] at w2
          exact n (Or.inl ⟨w1, by omega⟩)
        · simp only [List.mem_cons, List.not_mem_nil, or_false] at w1
          rcases w1 with rfl | rfl
          · exact n (Or.inr (Or.inl w2))
          · exact n (Or.inr (Or.inr (Or.inl w2)))
      rw [o c j (fun z => n (Or.inr (Or.inr (Or.inr z)))), B6.2 c j nn]
      by_cases e : c = m0
      · rw [e]; exact s0 j (fun z => n (Or.inl ⟨e, Or.inl z⟩))
      · rw [sn _ e]
end MREADB
