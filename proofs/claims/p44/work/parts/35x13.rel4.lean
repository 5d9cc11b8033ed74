section ZREL4
variable {κ k : Int} {L1 : List Nat} {kd1 : Nat → Nat} {L2 : List Nat} {kd2 : Nat → Nat} {σ1 σ2 τ1 τ2 : zS} {Wk Wf Wa : List Nat} {m0 x0 : Nat} {Q : Nat → zCo → (Nat → Int32) → Prop} {V : zWh} {ps pc sl rv sh cd : Nat}
/-- what is told of dye alone has changed -/
theorem zRL.dye (h : zRL Q L1 kd1 x0 m0 V ps pc sl rv sh cd σ1 σ2) (hx : zT L1 kd1 x0 10) (hI : zI κ 0 L1 kd1 σ1) (hJ : zJ κ L2 kd2 σ2) (hm : zT L2 kd2 m0 11) (g1 : zSm Wk [] L1 kd1 σ1 τ1) (g2 : zSame m0 Wf Wa L2 kd2 σ2 τ2) (h1 : ([1, 4, 9, 10, 22, 23, 24].all (fun j => !(Wk.contains j))) = true) (h2 : ([18, 57].all (fun j => !(Wf.contains j))) = true) (h3 : ([121, 148, 158, 167, 168].all (fun j => !(Wa.contains j))) = true) (hd : (τ1.1 ((σ1.2.2 x0 5).getD 0) 4).toInt = (τ2.1 m0 62).toInt) : zRL Q L1 kd1 x0 m0 V ps pc sl rv sh cd τ1 τ2 := by
  obtain ⟨hL, hV, N, n, u, ⟨a1, a2, a3, a4, a5, a6, a7, a8, a9⟩, hq, hu, hh⟩ := h
  have nW : ∀ {k : Nat}, (k = 1 ∨ k = 4 ∨ k = 9 ∨ k = 10 ∨ k = 22 ∨ k = 23 ∨ k = 24) → k ∉ Wk := fun {k} hk q => by
    have z := List.all_eq_true.mp h1 k (by rcases hk with rfl | rfl | rfl | rfl | rfl | rfl | rfl <;> decide)
    simp [q] at z
  have rs : ∀ a ∈ L1, τ1.2.2 a = σ1.2.2 a := fun a ha => (g1 a ha).2 List.not_mem_nil
  have ci : ∀ {a k : Nat}, zT L1 kd1 a k → (k = 1 ∨ k = 4 ∨ k = 9 ∨ k = 10 ∨ k = 22 ∨ k = 23 ∨ k = 24) → τ1.1 a = σ1.1 a := fun ha hk => ((g1 _ ha.1).1 (nW (by rw [ha.2]; exact hk))).1
  have cc : ∀ k, k < 45 → zcc V τ1.1 k = zcc V σ1.1 k := fun k hk => by
    obtain ⟨⟨tA, tI, tW, tM⟩, -⟩ := hL.2.2.2.1 k hk
    exact zcc.st (ci tA (by omega)) (ci tI (by omega)) (ci tW (by omega)) (ci tM (by omega))
  have rx := rs x0 hx.1
  obtain ⟨td, d1, d2⟩ := zi_ref (j := 10) (k2 := 9) hI hx (by rfl)
  have gd : (σ1.2.2 x0 10).getD 0 = td := by rw [d1]; rfl
  have f : ∀ j, (j = 18 ∨ j = 57) → τ2.1 m0 j = σ2.1 m0 j := fun j hj => g2.2.1 j (fun q => by
    have z := List.all_eq_true.mp h2 j (by rcases hj with rfl | rfl <;> decide)
    simp [q] at z)
  have er : ∀ s, mR τ2 m0 s = mR σ2 m0 s := fun s => by rw [mR, g2.2.2]
  have r : ∀ s, (s = 21 ∨ s = 48 ∨ s = 58 ∨ s = 67 ∨ s = 68) → τ2.1 (mR σ2 m0 s) = σ2.1 (mR σ2 m0 s) := fun s hs => by
    have ht : zT L2 kd2 (mR σ2 m0 s) (100 + s) := by rcases hs with rfl | rfl | rfl | rfl | rfl <;> exact mR_t hJ hm (by rfl)
    refine (g2.1 _ ht.1 (by rw [ht.2]; omega) (fun q => ?_)).1
    rw [ht.2] at q
    have z := List.all_eq_true.mp h3 (100 + s) (by rcases hs with rfl | rfl | rfl | rfl | rfl <;> decide)
    simp [q] at z
  have tp : zT L1 kd1 ps 4 := hL.2.2.2.2.2.2.1
  have ip := ci tp (by omega)
  have ix := ci hx (by omega)
  refine ⟨hL.keep (fun a ha _ => rs a ha) (fun j _ => by rw [rx]), ?_, N, n, u, ⟨?_, ?_, a3, by rw [ip]; exact a4, a5, by rw [ip]; exact a6, a7, by rw [f 57 (by omega)]; exact a8, by rw [rx]; exact hd⟩, ?_, fun i hi => ?_, fun s hs => ?_⟩
  · obtain ⟨⟨b1, b2, b3, b4⟩, ⟨t0, t1, t2, t3⟩, b, c, d, e, f⟩ := hV
    have q1 := rs rv t1.1
    have q2 := rs sh t2.1
    have q3 := rs cd t3.1
    exact ⟨⟨by rw [rx]; exact b1, by rw [rx]; exact b2, by rw [q1]; exact b3, by rw [q1]; exact b4⟩, ⟨t0, t1, t2, t3⟩, fun j hj => by rw [q1]; exact b j hj, fun j hj => by rw [q3]; exact c j hj, fun j h1 h2 => by rw [q2]; exact d j h1 h2, by rw [rx]; exact e, by rw [rx]; exact f⟩
  · rw [rx, gd, ci d2 (by omega), ← gd]; exact a1
  · rw [← a2]
    unfold zM zp
    rw [f 18 (by omega)]
    show (τ2.1 (mR τ2 m0 21) _).toInt = (σ2.1 (mR σ2 m0 21) _).toInt
    rw [er, r 21 (by omega)]
  · rw [cc 0 (by decide), er, rC_e (g := σ2.1) (r' := mR σ2 m0 48) (o' := 0) (fun j _ => by rw [r 48 (by omega)])]; exact hq
  · rw [cc _ (by omega), er, rC_e (g := σ2.1) (r' := mR σ2 m0 58) (o' := 50 * (u - 1 - i)) (fun j _ => by rw [r 58 (by omega)])]; exact hu i hi
  · rw [ix, cc _ (by omega), er, er, r 67 (by omega), rC_e (g := σ2.1) (r' := mR σ2 m0 68) (o' := 50 * s) (fun j _ => by rw [r 68 (by omega)])]; exact hh s hs
theorem zRL.forget {v1 v2 : Int32} (h : zRL Q L1 kd1 x0 m0 V ps pc sl rv sh cd σ1 σ2) (hx : zT L1 kd1 x0 10) (hI : zI κ 0 L1 kd1 σ1) (hJ : zJ κ L2 kd2 σ2) (hm : zT L2 kd2 m0 11) (f1 : (v1, τ1) = F_X10_forget x0 σ1) (f2 : (v2, τ2) = F_X11_forget m0 σ2) (g1 : zSm Wk [] L1 kd1 σ1 τ1) (g2 : zSame m0 Wf Wa L2 kd2 σ2 τ2) (h1 : ([1, 4, 9, 10, 22, 23, 24].all (fun j => !(Wk.contains j))) = true) (h2 : ([18, 57].all (fun j => !(Wf.contains j))) = true) (h3 : ([121, 148, 158, 167, 168].all (fun j => !(Wa.contains j))) = true) : v1.toInt = v2.toInt ∧ zRL Q L1 kd1 x0 m0 V ps pc sl rv sh cd τ1 τ2 := by
  have a9 : (σ1.1 ((σ1.2.2 x0 5).getD 0) 4).toInt = (σ2.1 m0 62).toInt := by
    obtain ⟨-, -, N, n, u, hn, -⟩ := h
    exact hn.2.2.2.2.2.2.2.2
  have f1b := f1
  have f2b := f2
  unfold F_X10_forget at f1b
  unfold F_X11_forget at f2b
  simp only [zlt] at f1b f2b
  refine ⟨?_, h.dye hx hI hJ hm g1 g2 h1 h2 h3 ?_⟩
  · rw [show v1 = _ from congrArg Prod.fst f1b, show v2 = _ from congrArg Prod.fst f2b]; exact a9
  · rw [show τ1 = _ from congrArg Prod.snd f1b, show τ2 = _ from congrArg Prod.snd f2b]
    show (zu σ1.1 ((σ1.2.2 x0 5).getD 0) 4 0 ((σ1.2.2 x0 5).getD 0) 4).toInt = (zu σ2.1 m0 62 0 m0 62).toInt
    rw [zu_s, zu_s]
theorem zRL.tell {v1 v2 a b c e : Int32} (h : zRL Q L1 kd1 x0 m0 V ps pc sl rv sh cd σ1 σ2) (hx : zT L1 kd1 x0 10) (hI : zI κ 0 L1 kd1 σ1) (hJ : zJ κ L2 kd2 σ2) (hm : zT L2 kd2 m0 11) (f1 : (v1, τ1) = F_X10_tell x0 a b c e σ1) (f2 : (v2, τ2) = F_X11_tell m0 a b c e σ2) (g1 : zSm Wk [] L1 kd1 σ1 τ1) (g2 : zSame m0 Wf Wa L2 kd2 σ2 τ2) (h1 : ([1, 4, 9, 10, 22, 23, 24].all (fun j => !(Wk.contains j))) = true) (h2 : ([18, 57].all (fun j => !(Wf.contains j))) = true) (h3 : ([121, 148, 158, 167, 168].all (fun j => !(Wa.contains j))) = true) : v1.toInt = v2.toInt ∧ zRL Q L1 kd1 x0 m0 V ps pc sl rv sh cd τ1 τ2 := by
  have key : v1.toInt = v2.toInt ∧ (τ1.1 ((σ1.2.2 x0 5).getD 0) 4).toInt = (τ2.1 m0 62).toInt := by
    obtain ⟨-, -, N, n, u, ⟨a1, a2, a3, -, -, -, -, -, a9⟩, -⟩ := h
    obtain ⟨dy, y1, y2⟩ := zi_ref (j := 5) (k2 := 2) hI hx (by rfl)
    have rg := zi_get (j := 4) hI y2 (lo := 0) (hi := 20) (by rfl)
    have gy : (σ1.2.2 x0 5).getD 0 = dy := by rw [y1]; rfl
    have e0 : (0 : Int32).toInt = 0 := by decide
    have e1 : (1 : Int32).toInt = 1 := by decide
    have e20 : (20 : Int32).toInt = 20 := by decide
    have e9 : (9999 : Int32).toInt = 9999 := by decide
    have k1 := zN1 a1 a3
    have k2 := zN1 (x := F_X11_many m0 σ2) (mMany.trans a2) a3
    rw [gy] at a9 ⊢
    unfold F_X10_tell at f1
    unfold F_X11_tell at f2
    simp only [zlt, zlt2, cPlace, mPlc, cWithin, mIn, e0, e20, e9, k1, k2, gy] at f1 f2
    have no : ∀ w : Int32, (v1, τ1) = (w, σ1) → (v2, τ2) = (w, σ2) → v1.toInt = v2.toInt ∧ (τ1.1 dy 4).toInt = (τ2.1 m0 62).toInt := fun w f1 f2 => by
      cases f1
      cases f2
      exact ⟨rfl, a9⟩
    by_cases c1 : 0 ≤ a.toInt ∧ a.toInt ≤ (N : Int) - 1
    · rw [if_neg (fun z => z c1)] at f1
      by_cases c2 : 0 ≤ b.toInt ∧ b.toInt ≤ 9999
      · rw [if_neg (fun z => z c2)] at f1
        by_cases c3 : b.toInt ≤ c.toInt ∧ c.toInt ≤ 9999
        · rw [if_neg (fun z => z c3)] at f1
          unfold F_X2_add at f1
          simp only [zlt, e20] at f1
          by_cases c4 : (σ1.1 dy 4).toInt < 20
          · rw [if_pos c4] at f1
            rw [if_neg (by omega), if_neg (fun z => z c1), if_neg (fun z => z c2), if_neg (fun z => z c3)] at f2
            obtain ⟨r0, p0, p1⟩ := zi_ref (j := 0) (k2 := 25) hI y2 (by rfl)
            obtain ⟨r1, q0, q1⟩ := zi_ref (j := 1) (k2 := 26) hI y2 (by rfl)
            obtain ⟨r2, s0, s1⟩ := zi_ref (j := 2) (k2 := 27) hI y2 (by rfl)
            obtain ⟨r3, t0, t1⟩ := zi_ref (j := 3) (k2 := 28) hI y2 (by rfl)
            have w0 : (σ1.2.2 dy 0).getD 0 = r0 := by rw [p0]; rfl
            have w1 : (σ1.2.2 dy 1).getD 0 = r1 := by rw [q0]; rfl
            have w2 : (σ1.2.2 dy 2).getD 0 = r2 := by rw [s0]; rfl
            have w3 : (σ1.2.2 dy 3).getD 0 = r3 := by rw [t0]; rfl
            have n0 : ¬ dy = r0 := zNk y2 p1 (by decide)
            have n1 : ¬ dy = r1 := zNk y2 q1 (by decide)
            have n2 : ¬ dy = r2 := zNk y2 s1 (by decide)
            have n3 : ¬ dy = r3 := zNk y2 t1 (by decide)
            simp only [w0, w1, w2, w3, zu_n _ _ _ n0, zu_n _ _ _ n1, zu_n _ _ _ n2, zu_n _ _ _ n3, zu_s] at f1
            have m3 : ¬ m0 = (σ2.2.2 m0 63).getD 0 := fun z => mR_m hJ hm (s := 63) (k := 163) (by rfl) (by decide) z.symm
            have m4 : ¬ m0 = (σ2.2.2 m0 64).getD 0 := fun z => mR_m hJ hm (s := 64) (k := 164) (by rfl) (by decide) z.symm
            have m5 : ¬ m0 = (σ2.2.2 m0 65).getD 0 := fun z => mR_m hJ hm (s := 65) (k := 165) (by rfl) (by decide) z.symm
            have m6 : ¬ m0 = (σ2.2.2 m0 66).getD 0 := fun z => mR_m hJ hm (s := 66) (k := 166) (by rfl) (by decide) z.symm
            simp only [zu_n _ _ _ m3, zu_n _ _ _ m4, zu_n _ _ _ m5, zu_n _ _ _ m6, zu_s] at f2
            have b1 : (σ1.1 dy 4 + (1 : Int32)).toInt = (σ1.1 dy 4).toInt + 1 := by rw [zb_add (by rw [e1]; omega) (by rw [e1]; omega), e1]
            have b2 : (σ2.1 m0 62 + (1 : Int32)).toInt = (σ2.1 m0 62).toInt + 1 := by rw [zb_add (by rw [e1]; omega) (by rw [e1]; omega), e1]
            have u1 := congrArg Prod.fst f1
            have u2 := congrArg Prod.fst f2
            have s1' : τ1 = _ := congrArg Prod.snd f1
            have s2' : τ2 = _ := congrArg Prod.snd f2
            refine ⟨?_, ?_⟩
            · rw [show v1 = σ1.1 dy 4 + (1 : Int32) - (1 : Int32) from u1, show v2 = σ2.1 m0 62 + (1 : Int32) - (1 : Int32) from u2, zb_sub (by rw [b1, e1]; omega) (by rw [b1, e1]; omega), zb_sub (by rw [b2, e1]; omega) (by rw [b2, e1]; omega), b1, b2, a9]
            · rw [s1', s2']
              show (zu _ dy 4 (σ1.1 dy 4 + (1 : Int32)) dy 4 : Int32).toInt = (zu _ m0 62 (σ2.1 m0 62 + (1 : Int32)) m0 62 : Int32).toInt
              rw [zu_s, zu_s, b1, b2, a9]
          · rw [if_neg c4] at f1
            rw [if_pos (by omega)] at f2
            exact no _ f1 f2
        · rw [if_pos c3] at f1
          by_cases c5 : (σ2.1 m0 62).toInt = 20
          · rw [if_pos c5] at f2; exact no _ f1 f2
          · rw [if_neg c5, if_neg (fun z => z c1), if_neg (fun z => z c2), if_pos c3] at f2; exact no _ f1 f2
      · rw [if_pos c2] at f1
        by_cases c5 : (σ2.1 m0 62).toInt = 20
        · rw [if_pos c5] at f2; exact no _ f1 f2
        · rw [if_neg c5, if_neg (fun z => z c1), if_pos c2] at f2; exact no _ f1 f2
    · rw [if_pos c1] at f1
      by_cases c5 : (σ2.1 m0 62).toInt = 20
      · rw [if_pos c5] at f2; exact no _ f1 f2
      · rw [if_neg c5, if_pos c1] at f2; exact no _ f1 f2
  exact ⟨key.1, h.dye hx hI hJ hm g1 g2 h1 h2 h3 key.2⟩
end ZREL4
