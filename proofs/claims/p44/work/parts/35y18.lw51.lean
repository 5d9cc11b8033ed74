/-! VOTE: the reference's side, the answer -/
theorem rk_cg {W W' : Nat → Int32} {p : Nat} (hp : W' p = W p) : ∀ n, (∀ i, i < n → W' i = W i) → rk W' p n = rk W p n := by
  intro n
  induction n with
  | zero => intro _; rfl
  | succ n ih =>
    intro h
    rw [rk, rk, ih (fun i hi => h i (by omega)), h n (by omega), hp]
/-- the law most vote for, the first of them -/
def vb (c : Nat → Nat) : Nat := if c (if c 0 < c 1 then 1 else 0) < c 2 then 2 else if c 0 < c 1 then 1 else 0
section VOTEM
variable {q Y : Nat → Nat} {a b N : Nat} {s1 s2 s t t1 t2 τ : zS} {g : zGl} {u l : Nat → Nat} {w z : Nat}
/-- a row that is none of the reference's own, written -/
theorem zSd.fz2 (hz : ∀ j, zYj j → ¬ Y j = z) (ha : ¬ a = z) (S : zSd q Y a b N g u l s1 s2) (f : zFr (fun c _ => c = z) s2 t2) : zSd q Y a b N g u l s1 t2 := by
  obtain ⟨A, ⟨b1, b2, b3, b4, b5, b6, b7, b8⟩, c, d, e⟩ := S
  have r2 := f.rf
  have qj : ∀ j, zYj j → t2.1 (Y j) = s2.1 (Y j) := fun j hj => funext (fun i => f.2 (Y j) i (hz j hj))
  have e18 : t2.1 a 18 = s2.1 a 18 := f.2 a 18 ha
  have mM : F_X11_many a t2 = F_X11_many a s2 := by
    unfold F_X11_many
    simp only [zlt]
    rw [r2, (b1.1 21 (by unfold zYj; omega)).1, e18, qj 21 (by unfold zYj; omega)]
  refine ⟨A, ⟨by rw [r2]; exact b1, by rw [e18]; exact b2, b3, fun hN => (b4 hN).cg (fun j hj => qj j (by unfold zYj; omega)), by rw [mM]; exact b5, fun c c1 c2 => by rw [qj 49 (by unfold zYj; omega)]; exact b6 c c1 c2, fun c hc => by rw [qj 53 (by unfold zYj; omega)]; exact b7 c hc, fun x => ?_⟩, fun p hp => ?_, fun c c1 c2 => ?_, fun hN => ?_⟩
  · have e : F_X11_isSource a x t2 = F_X11_isSource a x s2 := by
      have g54 := (b1.1 54 (by unfold zYj; omega)).1
      have x54 : t2.1 (Y 54) = s2.1 (Y 54) := qj 54 (by unfold zYj; omega)
      unfold F_X11_isSource F_X11_isBeside
      simp only [zlt, r2, g54, x54, mM]
    rw [e]
    exact b8 x
  · rw [qj 24 (by unfold zYj; omega), qj 52 (by unfold zYj; omega), qj 25 (by unfold zYj; omega), qj 23 (by unfold zYj; omega), qj 54 (by unfold zYj; omega)]
    exact c p hp
  · have xd : dmM Y t2 c = dmM Y s2 c := by
      unfold dmM
      rw [qj 49 (by unfold zYj; omega)]
    rw [xd]
    exact d c c1 c2
  · rw [qj 28 (by unfold zYj; omega)]
    exact e hN
theorem zDn.fz2 (hz : ∀ j, zYj j → ¬ Y j = z) (Dn : zDn q Y N s1 s2) (f : zFr (fun c _ => c = z) s2 t2) : zDn q Y N s1 t2 := by
  unfold zDn
  rw [show t2.1 (Y 49) = s2.1 (Y 49) from funext (fun i => f.2 (Y 49) i (hz 49 (by unfold zYj; omega)))]
  exact Dn
/-- by which law a place stands best -/
theorem mBest (S : zSd q Y a b N g u l s1 s) {C : Nat → Nat → Int32} (hC : ∀ w, w < 3 → C w = fun p => clM Y b s g w p (s.1 (Y 55) p)) (hr : ∀ w p, w < 3 → p < N → 0 ≤ (C w p).toInt) {x p : Int32} {P : Nat} (hp : x.toInt = P) (sp : Src N u P) {r : Nat → Nat} (hR : ∀ w, w < 3 → rk (wg (sB N u) (C w)) P N = r w) {kA kB : Int32 → zS → Int32 × zS} : ∃ τ, zFr (zVw Y a) s τ ∧ τ.1 (Y 55) = s.1 (Y 55) ∧ F_X11_vote_71 x a p kA kB 10000 1 0 s = kB (x + (1 : Int32)) (zu τ.1 ((τ.2.2 a 59).getD 0) (bl r) (τ.1 ((τ.2.2 a 59).getD 0) (bl r) + (1 : Int32)), τ.2.1, τ.2.2) := by
  have z0 : (0 : Int32).toInt = (0 : Nat) := by decide
  have z1 : (1 : Int32).toInt = (1 : Nat) := by decide
  have z2 : (2 : Int32).toInt = (2 : Nat) := by decide
  have w0 : (0 : Int32).toNatClampNeg = 0 := by decide
  have w1 : (1 : Int32).toNatClampNeg = 1 := by decide
  have w2 : (2 : Int32).toNatClampNeg = 2 := by decide
  have p12 : (1 : Int32) + 1 = 2 := by decide
  have p23 : (2 : Int32) + 1 = 3 := by decide
  have R := fun (w : Nat) (k : Int32) (hk : k.toInt = w) (hw : w < 3) (τ : zS) (f : zFr (zVw Y a) s τ) (f55 : τ.1 (Y 55) = s.1 (Y 55)) => mRank S hk hw (hC w hw) (fun p hp => hr w p hw hp) hp sp f f55
  obtain ⟨x1, t1, a1, a2, a3, a4⟩ := R 1 1 z1 (by decide) s zFr.id rfl
  obtain ⟨x2, t2, b1, b2, b3, b4⟩ := R 0 0 z0 (by decide) t1 a3 a4
  rw [hR 1 (by decide)] at a2
  rw [hR 0 (by decide)] at b2
  obtain ⟨x3, t3, c1, c2, c3, c4⟩ := R 2 2 z2 (by decide) t2 b3 b4
  rw [hR 2 (by decide)] at c2
  rw [show (10000 : Nat) = 9997 + 1 + 1 + 1 from rfl, F_X11_vote_71]
  simp only [↓zlt, ↓zlt2, a1, b1, p12]
  rw [if_pos (show (1 : Int32).toInt < (3 : Int32).toInt by decide)]
  have fin : ∀ (y : Int32) (k : Nat) (τ : zS), y.toNatClampNeg = k → F_X11_vote_71 x a p kA kB (9997 + 1) 3 y τ = kB (x + (1 : Int32)) (zu τ.1 ((τ.2.2 a 59).getD 0) k (τ.1 ((τ.2.2 a 59).getD 0) k + (1 : Int32)), τ.2.1, τ.2.2) := fun y k τ hy => by
    rw [F_X11_vote_71]
    simp only [↓zlt, hy]
    rw [if_neg (show ¬ (3 : Int32).toInt < (3 : Int32).toInt by decide)]
  by_cases d1 : r 1 < r 0
  · obtain ⟨x4, t4, e1, e2, e3, e4⟩ := R 1 1 z1 (by decide) t3 c3 c4
    rw [hR 1 (by decide)] at e2
    rw [if_pos (show x1.toInt < x2.toInt by omega), F_X11_vote_71]
    simp only [↓zlt, ↓zlt2, c1, e1, p23]
    rw [if_pos (show (2 : Int32).toInt < (3 : Int32).toInt by decide)]
    by_cases d2 : r 2 < r 1
    · rw [if_pos (show x3.toInt < x4.toInt by omega)]
      refine ⟨t4, e3, e4, ?_⟩
      rw [fin 2 2 t4 w2]
      unfold bl
      rw [if_pos d1, if_pos d2]
    · rw [if_neg (show ¬ x3.toInt < x4.toInt by omega)]
      refine ⟨t4, e3, e4, ?_⟩
      rw [fin 1 1 t4 w1]
      unfold bl
      rw [if_pos d1, if_neg d2]
  · obtain ⟨x4, t4, e1, e2, e3, e4⟩ := R 0 0 z0 (by decide) t3 c3 c4
    rw [hR 0 (by decide)] at e2
    rw [if_neg (show ¬ x1.toInt < x2.toInt by omega), F_X11_vote_71]
    simp only [↓zlt, ↓zlt2, c1, e1, p23]
    rw [if_pos (show (2 : Int32).toInt < (3 : Int32).toInt by decide)]
    by_cases d2 : r 2 < r 0
    · rw [if_pos (show x3.toInt < x4.toInt by omega)]
      refine ⟨t4, e3, e4, ?_⟩
      rw [fin 2 2 t4 w2]
      unfold bl
      rw [if_neg d1, if_pos d2]
    · rw [if_neg (show ¬ x3.toInt < x4.toInt by omega)]
      refine ⟨t4, e3, e4, ?_⟩
      rw [fin 0 0 t4 w0]
      unfold bl
      rw [if_neg d1, if_neg d2]
/-- the votes counted, the law found -/
theorem mPick {p : Int32} {c : Nat → Nat} {kA kB : Int32 → zS → Int32 × zS} (g9 : (τ.2.2 a 59).getD 0 = z) (hc : ∀ k, k < 3 → (τ.1 z k).toInt = c k) : (F_X11_vote_122 a p kA kB 10000 1 0 τ).1.toInt = if p.toInt = 0 then (vb c : Int) else c (vb c) := by
  have w0 : (0 : Int32).toNatClampNeg = 0 := by decide
  have w1 : (1 : Int32).toNatClampNeg = 1 := by decide
  have w2 : (2 : Int32).toNatClampNeg = 2 := by decide
  have i0 : (0 : Int32).toInt = (0 : Nat) := by decide
  have i1 : (1 : Int32).toInt = (1 : Nat) := by decide
  have i2 : (2 : Int32).toInt = (2 : Nat) := by decide
  have p12 : (1 : Int32) + 1 = 2 := by decide
  have p23 : (2 : Int32) + 1 = 3 := by decide
  have c0 := hc 0 (by decide)
  have c1 := hc 1 (by decide)
  have c2 := hc 2 (by decide)
  have fin : ∀ (y : Int32) (k : Nat), y.toInt = k → y.toNatClampNeg = k → k < 3 → k = vb c → (F_X11_vote_122 a p kA kB (9997 + 1) 3 y τ).1.toInt = if p.toInt = 0 then (vb c : Int) else c (vb c) := fun y k hy hk h3 e => by
    rw [F_X11_vote_122]
    simp only [↓zlt, g9, hk]
    rw [if_neg (show ¬ (3 : Int32).toInt < (3 : Int32).toInt by decide), ← e]
    by_cases p0 : p.toInt = 0
    · rw [if_pos p0, if_pos p0]
      exact hy
    · rw [if_neg p0, if_neg p0]
      exact hc k h3
  rw [show (10000 : Nat) = 9997 + 1 + 1 + 1 from rfl, F_X11_vote_122]
  simp only [↓zlt, g9, w0, w1, p12]
  rw [if_pos (show (1 : Int32).toInt < (3 : Int32).toInt by decide)]
  by_cases d1 : c 0 < c 1
  · rw [if_pos (show (τ.1 z 0).toInt < (τ.1 z 1).toInt by omega), F_X11_vote_122]
    simp only [↓zlt, g9, w1, w2, p23]
    rw [if_pos (show (2 : Int32).toInt < (3 : Int32).toInt by decide)]
    by_cases d2 : c 1 < c 2
    · rw [if_pos (show (τ.1 z 1).toInt < (τ.1 z 2).toInt by omega)]
      exact fin 2 2 i2 w2 (by decide) (by unfold vb; rw [if_pos d1, if_pos d2])
    · rw [if_neg (show ¬ (τ.1 z 1).toInt < (τ.1 z 2).toInt by omega)]
      exact fin 1 1 i1 w1 (by decide) (by unfold vb; rw [if_pos d1, if_neg d2])
  · rw [if_neg (show ¬ (τ.1 z 0).toInt < (τ.1 z 1).toInt by omega), F_X11_vote_122]
    simp only [↓zlt, g9, w0, w2, p23]
    rw [if_pos (show (2 : Int32).toInt < (3 : Int32).toInt by decide)]
    by_cases d2 : c 0 < c 2
    · rw [if_pos (show (τ.1 z 0).toInt < (τ.1 z 2).toInt by omega)]
      exact fin 2 2 i2 w2 (by decide) (by unfold vb; rw [if_neg d1, if_pos d2])
    · rw [if_neg (show ¬ (τ.1 z 0).toInt < (τ.1 z 2).toInt by omega)]
      exact fin 0 0 i0 w0 (by decide) (by unfold vb; rw [if_neg d1, if_neg d2])
theorem mVoteL (S0 : zSd q Y a b N g u l s1 t) (D0 : zDn q Y N s1 t) (hz : ∀ j, zYj j → ¬ Y j = z) (ha : ¬ a = z) (g9 : (t.2.2 a 59).getD 0 = z) {C : Nat → Nat → Int32} (hC : ∀ w p, w < 3 → p < N → clM Y b t g w p (t.1 (Y 55) p) = C w p) (hr : ∀ w p, w < 3 → p < N → 0 ≤ (C w p).toInt) {f : Nat → Nat} (hf : ∀ P, Src N u P → f P = bl (fun w => rk (wg (sB N u) (C w)) P N)) {p : Int32} {kA : Int32 → zS → Int32 × zS} : ∀ (n : Nat) (x : Int32) (i : Nat) (τ : zS), x.toInt = i → 1 ≤ i → (i ≤ N ∨ i = 1) → 13 - i < n → zSd q Y a b N g u l s1 τ → zDn q Y N s1 τ → τ.2.2 = t.2.2 → τ.1 (Y 55) = t.1 (Y 55) → (∀ k, k < 3 → (τ.1 z k).toInt = vc (sB N u) f k i) → (F_X11_vote_47 a p kA n x τ).1.toInt = if p.toInt = 0 then (vb (fun k => vc (sB N u) f k N) : Int) else vc (sB N u) f (vb (fun k => vc (sB N u) f k N)) N := by
  have hN := S0.1.2.2.2.1
  have E0 := S0.eq D0
  intro n
  induction n with
  | zero => intro x i τ _ _ _ h; exact absurd h (by omega)
  | succ n ih =>
    intro x i τ hx hi hi2 hn S Dn rt r55 hc
    have E := S.eq Dn
    have b8 := S.2.1.2.2.2.2.2.2.2 x
    rw [show x.toInt.toNat = i by omega] at b8
    have M := S.2.1.2.2.2.2.1
    rw [F_X11_vote_47]
    simp only [↓zlt]
    by_cases c : i < N
    · rw [if_pos (by omega)]
      have x1 := zp1 hx (by omega)
      by_cases sx : Src N u i
      · rw [if_neg (fun k => b8.mp k ⟨by omega, sx⟩)]
        have cw : ∀ w p, w < 3 → p < N → clM Y b τ g w p (τ.1 (Y 55) p) = C w p := fun w p hw hp => by
          rw [r55, ← clEq E hp, clEq E0 hp]
          exact hC w p hw hp
        obtain ⟨τ', e1, e2, e3⟩ := mBest (p := p) (kA := kA) (kB := F_X11_vote_47 a p kA n) S (C := fun w p => clM Y b τ g w p (τ.1 (Y 55) p)) (fun w hw => rfl) (fun w p hw hp => by rw [cw w p hw hp]; exact hr w p hw hp) hx sx (r := fun w => rk (wg (sB N u) (C w)) i N) (fun w hw => by
          have k : ∀ j, j < N → wg (sB N u) (fun p => clM Y b τ g w p (τ.1 (Y 55) p)) j = wg (sB N u) (C w) j := fun j hj => by
            unfold wg
            show (if sB N u j = true then clM Y b τ g w j (τ.1 (Y 55) j) else -1) = _
            rw [cw w j hw hj]
          exact rk_cg (k i c) N k)
        rw [e3]
        have g9' : (τ'.2.2 a 59).getD 0 = z := by rw [e1.rf, rt]; exact g9
        rw [g9', ← hf i sx]
        have S' := S.fr zFr.id (zVw.up e1)
        have D' := Dn.up2 S.2.1.1 e1
        obtain ⟨y, hy⟩ : ∃ y : zS, y = (zu τ'.1 z (f i) (τ'.1 z (f i) + (1 : Int32)), τ'.2.1, τ'.2.2) := ⟨_, rfl⟩
        rw [← hy]
        have fy : zFr (fun c _ => c = z) τ' y := by rw [hy]; exact zFr.id.w rfl
        have fl : f i < 3 := by rw [hf i sx]; exact (bl_e (o := 0)).2
        have old : ∀ k, τ'.1 z k = τ.1 z k := fun k => e1.2 z k (by
          rintro (o | o | o | o)
          · exact hz 55 (by unfold zYj; omega) o.symm
          · exact hz 45 (by unfold zYj; omega) o.symm
          · exact hz 46 (by unfold zYj; omega) o.symm
          · exact ha o.1.symm)
        refine ih _ (i + 1) y x1 (by omega) (by omega) (by omega) (S'.fz2 hz ha fy) (D'.fz2 hz fy) (by rw [fy.rf, e1.rf]; exact rt) (by rw [show y.1 (Y 55) = τ'.1 (Y 55) from funext (fun j => fy.2 _ j (hz 55 (by unfold zYj; omega))), e2]; exact r55) (fun k hk => ?_)
        rw [hy]
        show (zu τ'.1 z (f i) (τ'.1 z (f i) + (1 : Int32)) z k).toInt = _
        have vbd := vc_le (S := sB N u) (g := f) (law := k) i
        by_cases e : k = f i
        · rw [← e, zu_s, old, vc, if_pos ⟨hi, sB_t.mpr sx, e.symm⟩]
          exact zp1 (hc k hk) (by omega)
        · rw [zu_j _ _ _ _ _ (fun o => e o.symm), old, vc, if_neg (fun o => e o.2.2.symm), Nat.add_zero]
          exact hc k hk
      · rw [if_pos (b8.mpr (fun k => sx k.2))]
        exact ih _ (i + 1) τ x1 (by omega) (by omega) (by omega) S Dn rt r55 (fun k hk => by rw [vc, if_neg (fun o => sx (sB_t.mp o.2.1)), Nat.add_zero]; exact hc k hk)
    · rw [if_neg (by omega)]
      have eN : (if 1 ≤ N then N else 1) = i := by
        split <;> omega
      exact mPick (z := z) (c := fun k => vc (sB N u) f k N) (by rw [rt]; exact g9) (fun k hk => by rw [hc k hk, ← eN, vc_N])
end VOTEM
section NOW4
variable {κ : Int} {L1 : List Nat} {kd1 : Nat → Nat} {L2 : List Nat} {kd2 : Nat → Nat} {σ1 σ2 τ1 τ2 s t : zS} {m0 x0 : Nat} {V : zWh} {ps pc sl rv sh cd : Nat} {v1 v2 p k : Int32}
/-- the sources, bit by bit alike -/
theorem zRL.srcE (h : zRL zQw L1 kd1 x0 m0 V ps pc sl rv sh cd σ1 σ2) (hl : zLen x0 m0 σ1 σ2) (hx : zT L1 kd1 x0 10) (hI : zI κ 0 L1 kd1 σ1) (hJ : zJ κ L2 kd2 σ2) (hm : zT L2 kd2 m0 11) (hg : gN m0 σ2) : F_X6_sources sh (F_X10_look x0 σ1) = (F_X11_sourceBits m0 (F_X11_copies m0 σ2), F_X10_look x0 σ1) := by
  obtain ⟨N, M, u, FR, SR, ℓ, l, A1, A2, A3, A4, A6, s, t, hs, ht, ⟨⟨n1, n2, n3, n4⟩, ⟨F0, S0, hF, hS, hℓ⟩, hb, -, hM⟩, ⟨g0, g1, g2, g3, g4, g6⟩, hP, hMN⟩ := h.lk2 zGd.q1 hl hx hI hJ hm hg
  obtain ⟨SB, e1, e2⟩ := cSources hP g4 n1
  have e3 := mSources hM hJ hm n2 n1
  have eS : F_X11_sourceBits m0 t = SB := b_ext (fun j hj => by
    have a := e2 j hj
    have b := e3 j hj
    cases h1 : bt (F_X11_sourceBits m0 t) j with
    | true => rw [h1] at b; exact (a.mpr (b.mp rfl)).symm
    | false =>
      cases h2 : bt SB j with
      | false => rfl
      | true =>
        rw [h1] at b
        have := b.mpr (a.mp h2)
        cases this)
  rw [← hs, ← ht, eS]
  exact e1
theorem zRL.vote (h : zRL zQw L1 kd1 x0 m0 V ps pc sl rv sh cd σ1 σ2) (hw : 0 < zM m0 σ2 → zLw x0 m0 σ1 σ2) (hl : zLen x0 m0 σ1 σ2) (hx : zT L1 kd1 x0 10) (hI : zI κ 0 L1 kd1 σ1) (hJ : zJ κ L2 kd2 σ2) (hm : zT L2 kd2 m0 11) (hg : gN m0 σ2) (f1 : (v1, τ1) = F_X10_vote x0 p σ1) (f2 : (v2, τ2) = F_X11_vote m0 p σ2) : v1.toInt = v2.toInt := by
  obtain ⟨td, B, N, gl, u, l, q, Y, d1, n2, eL, xr, ⟨hq, hY⟩, ⟨S, Dn, FL, RN⟩, -, -⟩ := h.now hw hl hx hI hJ hm hg
  have SE := h.srcE hl hx hI hJ hm hg
  have hV := h.2.1
  have hL := h.1
  have e0 : (0 : Int32).toInt = 0 := by decide
  have o1 : (1 : Int32).toInt = 1 := by decide
  have g3 : (σ1.2.2 x0 3).getD 0 = sh := by rw [hV.1.2.1]; rfl
  have g10 : (σ1.2.2 x0 10).getD 0 = td := by rw [d1]; rfl
  obtain ⟨td9, d9, t9⟩ := zi_ref (j := 10) (k2 := 9) hI hx (by rfl)
  obtain rfl : td9 = td := Option.some.inj (d9.symm.trans d1)
  obtain ⟨N', -, -, ⟨n3, n4, -⟩, -⟩ := h.2.2
  rw [g10] at n3
  have LE := h.lookE hl hx hI hJ hm hg td9 9 t9 (by omega)
  have T := qOf.t hL hV t9 (zTt_k hI t9) (k := 0) (by decide)
  have t53 : zT L1 kd1 ((σ1.2.2 x0 9).getD 0) 53 := hV.2.2.2.2.2.1
  have hzC : ∀ i, i < 22 → ¬ q i = (σ1.2.2 x0 9).getD 0 := fun i hi e => by
    have a := T i hi
    rw [← hq] at a
    rw [e] at a
    have b := a.2.symm.trans t53.2
    have c : ∀ i, i < 22 → qK i ≠ 53 := by decide
    exact c i hi b
  unfold F_X10_vote at f1
  unfold F_X11_vote at f2
  simp only [zlt, zlt2, cWithin, mIn, e0, o1, xr, g3, SE] at f1 f2
  by_cases c : 0 ≤ p.toInt ∧ p.toInt ≤ 1
  · rw [if_neg (fun z => z c)] at f1 f2
    by_cases d : (F_X11_sourceBits m0 (F_X11_copies m0 σ2)).toInt = 0
    · rw [if_pos d] at f1 f2
      rw [(zPr2 f1).1, (zPr2 f2).1]
    · rw [if_neg d] at f1 f2
      obtain ⟨s, hs⟩ : ∃ s, s = F_X10_look x0 σ1 := ⟨_, rfl⟩
      obtain ⟨t, ht⟩ : ∃ t, t = F_X11_copies m0 σ2 := ⟨_, rfl⟩
      rw [← hs] at S Dn FL f1 xr LE
      rw [← ht] at S Dn FL f2
      have E := S.eq Dn
      have hN := S.1.2.2.2.1
      obtain ⟨C, hC⟩ : ∃ C : Nat → Nat → Int32, C = fun w p => clM Y B t gl w p (t.1 (Y 55) p) := ⟨_, rfl⟩
      have cC : ∀ w p, w < 3 → p < N → clM Y B t gl w p (t.1 (Y 55) p) = C w p := fun w p _ _ => by rw [hC]
      have rC' : ∀ w p, w < 3 → p < N → 0 ≤ (C w p).toInt := fun w p hw hp => by rw [← cC w p hw hp, ← clEq E hp]; exact clC_r.1
      obtain ⟨r, hr⟩ : ∃ r : Nat → Nat → Nat, r = fun P w => rk (wg (sB N u) (C w)) P N := ⟨_, rfl⟩
      obtain ⟨f, hf⟩ : ∃ f : Nat → Nat, f = fun P => bl (r P) := ⟨_, rfl⟩
      -- the class
      have q0 : q 0 = rv := by rw [hq]; rfl
      have q1 : q 1 = sh := by rw [hq]; rfl
      have q3 : q 3 = td9 := by rw [hq]; rfl
      obtain ⟨z, hz⟩ : ∃ z, z = (σ1.2.2 x0 9).getD 0 := ⟨_, rfl⟩
      rw [← hz] at hzC
      have z0 : (0 : Int32).toInt = (0 : Nat) := by decide
      have z1 : ((0 : Int32) + 1).toInt = (1 : Nat) := by decide
      have z2 : ((0 : Int32) + 1 + 1).toInt = (2 : Nat) := by decide
      have rx : ∀ τ : zS, τ.2.2 = s.2.2 → (τ.2.2 x0 2).getD 0 = q 0 ∧ (τ.2.2 x0 10).getD 0 = td9 ∧ (τ.2.2 x0 9).getD 0 = z := fun τ e => by
        rw [e, xr, xr, xr, q0]
        exact ⟨xrv hV, g10, hz.symm⟩
      have n0 : (s.1 td9 0).toInt = N := by rw [LE]; omega
      obtain ⟨ta, a1, a2, a3, a4, a5, a6, a7⟩ := castStep S Dn (fun p hp => (FL p hp).1) hzC (rx s rfl) q3 n0 (o := fun p => (s.1 z p).toInt) (fun p _ _ => rfl) z0 (by decide) 9999
      obtain ⟨tb, b1, b2, b3, b4, b5, b6, b7⟩ := castStep a2 a3 a4 hzC (rx ta a5) q3 a6 a7 z1 (by decide) 9998
      obtain ⟨tc, c1, c2, c3, c4, c5, c6, c7⟩ := castStep b2 b3 b4 hzC (rx tb (b5.trans a5)) q3 b6 b7 z2 (by decide) 9997
      have cast : F_X10_castVotes x0 s = tc := by
        unfold F_X10_castVotes
        simp only [zlt]
        rw [show (10000 : Nat) = 9999 + 1 from rfl, a1, show (9999 : Nat) = 9998 + 1 from rfl, b1, show (9998 : Nat) = 9997 + 1 from rfl, c1, show (9997 : Nat) = 9996 + 1 from rfl, F_X10_castVotes_2]
        simp only [zlt]
        rw [if_neg (by decide)]
      have rc := c5.trans (b5.trans a5)
      have sc : ∀ p, 1 ≤ p → p < N → ∃ m : Nat, (tc.1 z p).toInt = m ∧ m < 64 ∧ m % 3 = f p := fun p p1 p2 => by
        have e := c7 p p1 p2
        have b := bl_e (r := r p) (o := (s.1 z p).toInt)
        have x0' : r p 0 = rk (wg (sB N u) (fun p => clM Y B t gl 0 p (t.1 (Y 55) p))) p N := by rw [hr, hC]
        have x1' : r p 1 = rk (wg (sB N u) (fun p => clM Y B t gl 1 p (t.1 (Y 55) p))) p N := by rw [hr, hC]
        have x2' : r p 2 = rk (wg (sB N u) (fun p => clM Y B t gl 2 p (t.1 (Y 55) p))) p N := by rw [hr, hC]
        rw [← x0', ← x1', ← x2', b.1] at e
        have rl : r p (bl (r p)) ≤ N := by rw [hr]; exact rk_le N
        refine ⟨3 * r p (bl (r p)) + bl (r p), by rw [e]; omega, by omega, ?_⟩
        rw [hf]
        show (3 * r p (bl (r p)) + bl (r p)) % 3 = bl (r p)
        omega
      have VF := fun (x : Int32) (law : Nat) (hx' : x.toInt = law) => cVotes (x0 := x0) (td := td9) (sh := sh) (z := z) c2 ⟨by rw [rc, xr, q1]; exact g3, (rx tc rc).2.1, (rx tc rc).2.2⟩ c6 sc hx'
      obtain ⟨y0, u0, v0⟩ := VF 0 0 z0
      obtain ⟨y1, u1, v1'⟩ := VF 1 1 (by decide)
      obtain ⟨y2, u2, v2'⟩ := VF 2 2 (by decide)
      rw [cast] at f1
      have p12 : (1 : Int32) + 1 = 2 := by decide
      have p23 : (2 : Int32) + 1 = 3 := by decide
      have F1 : v1.toInt = if p.toInt = 0 then (vb (fun k => vc (sB N u) f k N) : Int) else vc (sB N u) f (vb (fun k => vc (sB N u) f k N)) N := by
        have fin : ∀ (y : Int32) (k : Nat) (yk : Int32), y.toInt = k → F_X10_votesFor x0 y tc = (yk, tc) → yk.toInt = vc (sB N u) f k N → k = vb (fun k => vc (sB N u) f k N) → (F_X10_vote_36 x0 p (9997 + 1) 3 y tc).1.toInt = if p.toInt = 0 then (vb (fun k => vc (sB N u) f k N) : Int) else vc (sB N u) f (vb (fun k => vc (sB N u) f k N)) N := fun y k yk hy hk h3 e => by
          rw [F_X10_vote_36]
          simp only [↓zlt, ↓zlt2, hk]
          rw [if_neg (show ¬ (3 : Int32).toInt < (3 : Int32).toInt by decide), ← e]
          by_cases p0 : p.toInt = 0
          · rw [if_pos p0, if_pos p0]
            exact hy
          · rw [if_neg p0, if_neg p0]
            exact h3
        rw [show v1 = _ from congrArg Prod.fst f1, show (10000 : Nat) = 9997 + 1 + 1 + 1 from rfl, F_X10_vote_36]
        simp only [↓zlt, ↓zlt2, u0, u1, p12]
        rw [if_pos (show (1 : Int32).toInt < (3 : Int32).toInt by decide)]
        by_cases g1 : vc (sB N u) f 0 N < vc (sB N u) f 1 N
        · rw [if_pos (show y0.toInt < y1.toInt by omega), F_X10_vote_36]
          simp only [↓zlt, ↓zlt2, u1, u2, p23]
          rw [if_pos (show (2 : Int32).toInt < (3 : Int32).toInt by decide)]
          by_cases g2 : vc (sB N u) f 1 N < vc (sB N u) f 2 N
          · rw [if_pos (show y1.toInt < y2.toInt by omega)]
            exact fin 2 2 y2 (by decide) u2 v2' (by unfold vb; rw [if_pos g1, if_pos g2])
          · rw [if_neg (show ¬ y1.toInt < y2.toInt by omega)]
            exact fin 1 1 y1 (by decide) u1 v1' (by unfold vb; rw [if_pos g1, if_neg g2])
        · rw [if_neg (show ¬ y0.toInt < y1.toInt by omega), F_X10_vote_36]
          simp only [↓zlt, ↓zlt2, u0, u2, p23]
          rw [if_pos (show (2 : Int32).toInt < (3 : Int32).toInt by decide)]
          by_cases g2 : vc (sB N u) f 0 N < vc (sB N u) f 2 N
          · rw [if_pos (show y0.toInt < y2.toInt by omega)]
            exact fin 2 2 y2 (by decide) u2 v2' (by unfold vb; rw [if_neg g1, if_pos g2])
          · rw [if_neg (show ¬ y0.toInt < y2.toInt by omega)]
            exact fin 0 0 y0 (by decide) u0 v0 (by unfold vb; rw [if_neg g1, if_neg g2])
      -- the reference
      have tr : t.2.2 = σ2.2.2 := by
        have k := (zCopies2 hJ hm).1
        rw [ht, k]
      obtain ⟨z9, hz9⟩ : ∃ z9, z9 = mR σ2 m0 59 := ⟨_, rfl⟩
      have g9 : (t.2.2 m0 59).getD 0 = z9 := by rw [tr, hz9]
      have k59 : zf 0 11 59 = some (100 + 59) := rfl
      have zy : ∀ j, zYj j → ¬ Y j = z9 := fun j hj => by
        rw [hz9, hY]
        exact mR_ne hJ hm (zYj_k hj).1 k59 (by unfold zYj at hj; omega)
      have zm : ¬ m0 = z9 := fun e => mR_m hJ hm k59 (by decide) (by rw [← hz9]; exact e.symm)
      have w0 : (0 : Int32).toNatClampNeg = 0 := by decide
      have w1 : (1 : Int32).toNatClampNeg = 1 := by decide
      have w2 : (2 : Int32).toNatClampNeg = 2 := by decide
      have p01 : (0 : Int32) + 1 = 1 := by decide
      obtain ⟨x, hxx⟩ : ∃ x : zS, x = (zu (zu (zu t.1 z9 0 0) z9 1 0) z9 2 0, t.2.1, t.2.2) := ⟨_, rfl⟩
      have start : F_X11_vote_27 m0 p 10000 0 t = F_X11_vote_47 m0 p (F_X11_vote_27 m0 p 9996) 10000 1 x := by
        rw [hxx, show (10000 : Nat) = 9996 + 1 + 1 + 1 + 1 from rfl, F_X11_vote_27]
        simp only [↓zlt, g9, w0, p01]
        rw [if_pos (show (0 : Int32).toInt < (3 : Int32).toInt by decide), F_X11_vote_27]
        simp only [↓zlt, g9, w1, p12]
        rw [if_pos (show (1 : Int32).toInt < (3 : Int32).toInt by decide), F_X11_vote_27]
        simp only [↓zlt, g9, w2, p23]
        rw [if_pos (show (2 : Int32).toInt < (3 : Int32).toInt by decide), F_X11_vote_27]
        simp only [↓zlt]
        rw [if_neg (show ¬ (3 : Int32).toInt < (3 : Int32).toInt by decide)]
      have fx : zFr (fun c _ => c = z9) t x := by
        rw [hxx]
        exact ((zFr.id.w (r := z9) (j := 0) (v := (0 : Int32)) rfl).w (r := z9) (j := 1) (v := (0 : Int32)) rfl).w (r := z9) (j := 2) (v := (0 : Int32)) rfl
      have F2 := mVoteL (p := p) (kA := F_X11_vote_27 m0 p 9996) S Dn zy zm g9 cC rC' (f := f) (fun P sP => by rw [hf, hr]) 10000 1 1 x (by decide) (by omega) (Or.inr rfl) (by omega) (S.fz2 zy zm fx) (Dn.fz2 zy fx) fx.rf (funext (fun j => fx.2 _ j (zy 55 (by unfold zYj; omega)))) (fun k hk => by
        rw [vc_1, hxx]
        show (zu (zu (zu t.1 z9 0 0) z9 1 0) z9 2 0 z9 k).toInt = _
        rcases (show k = 0 ∨ k = 1 ∨ k = 2 by omega) with rfl | rfl | rfl
        · rw [zu_j _ _ _ _ _ (by decide), zu_j _ _ _ _ _ (by decide), zu_s]
          decide
        · rw [zu_j _ _ _ _ _ (by decide), zu_s]
          decide
        · rw [zu_s]
          decide)
      rw [start] at f2
      rw [F1, show v2 = _ from congrArg Prod.fst f2, F2]
  · rw [if_pos c] at f1 f2
    rw [(zPr2 f1).1, (zPr2 f2).1]
end NOW4
section RP4
variable {κ : Int} {L1 : List Nat} {kd1 : Nat → Nat} {L2 : List Nat} {kd2 : Nat → Nat} {σ1 σ2 τ1 τ2 : zS} {m0 x0 : Nat} {v1 v2 p q r : Int32}
theorem zRP.vote (h : zRP κ L1 kd1 L2 kd2 x0 m0 σ1 σ2) (hI : zI κ 0 L1 kd1 σ1) (hJ : zJ κ L2 kd2 σ2) (hx : zT L1 kd1 x0 10) (hm : zT L2 kd2 m0 11) (hg : gN m0 σ2) (f1 : (v1, τ1) = F_X10_vote x0 p σ1) (f2 : (v2, τ2) = F_X11_vote m0 p σ2) : v1.toInt = v2.toInt := by
  obtain ⟨V, ps, pc, sl, rv, sh, cd, hR⟩ := h.2.2
  exact hR.vote h.2.1 h.1.2 hx hI hJ hm hg f1 f2
end RP4
