/-! BOTH WORLDS ALIKE: the tape's bytes below κ, the words -/
def zSAM (κ : Int) (L1 : List Nat) (kd1 : Nat → Nat) (L2 : List Nat) (kd2 : Nat → Nat) (σ1 σ2 : zS) : Prop :=
  (∀ t b, zT L1 kd1 t 7 → zT L2 kd2 b 101 → ∃ y, σ1.2.2 t 0 = some y ∧ zT L1 kd1 y 39 ∧ ∀ j : Nat, (j : Int) < κ → σ1.1 y j = σ2.1 b j) ∧ (∀ a, zT L1 kd1 a 40 → ∀ j, j < 22 → σ1.2.1 a j = zw32 j) ∧ (∀ b, zT L2 kd2 b 109 → ∀ j, j < 22 → σ2.2.1 b j = zw27 j)
theorem zNe {L : List Nat} {kd : Nat → Nat} {a b ka kb : Nat} (ha : zT L kd a ka) (hb : zT L kd b kb) (h : ka ≠ kb) : a ≠ b := fun e => h (ha.2.symm.trans ((congrArg kd e).trans hb.2))
def zB4 (w : Int32) (n : Nat) (f : Nat → Int32) : Nat → Int32 := fun j => if j = n then zby w 24 else if j = n + 1 then zby w (24 + (-8) : Int32) else if j = n + 2 then zby w (24 + (-8) + (-8) : Int32) else if j = n + 3 then zby w (24 + (-8) + (-8) + (-8) : Int32) else f j
theorem zB4_s {w : Int32} {n : Nat} {f g : Nat → Int32} (h : ∀ j, j < n → f j = g j) : ∀ j, j < n + 4 → zB4 w n f j = zB4 w n g j := fun j hj => by
  unfold zB4
  by_cases c0 : j = n
  · rw [if_pos c0, if_pos c0]
  rw [if_neg c0, if_neg c0]
  by_cases c1 : j = n + 1
  · rw [if_pos c1, if_pos c1]
  rw [if_neg c1, if_neg c1]
  by_cases c2 : j = n + 2
  · rw [if_pos c2, if_pos c2]
  rw [if_neg c2, if_neg c2]
  by_cases c3 : j = n + 3
  · rw [if_pos c3, if_pos c3]
  rw [if_neg c3, if_neg c3]
  exact h j (by omega)
theorem zbp4 {t b fB fS n : Nat} {v0 v1 v2 v3 : Int32} {σ : zS} (h : zTp t b fB fS n σ) (h2 : n ≤ 1996) : zTp t b fB fS (n + 4) (zbp t fB fS v3 (zbp t fB fS v2 (zbp t fB fS v1 (zbp t fB fS v0 σ)))) ∧ (zbp t fB fS v3 (zbp t fB fS v2 (zbp t fB fS v1 (zbp t fB fS v0 σ)))).2 = σ.2 ∧ ∀ j, (zbp t fB fS v3 (zbp t fB fS v2 (zbp t fB fS v1 (zbp t fB fS v0 σ)))).1 b j = if j = n then v0 else if j = n + 1 then v1 else if j = n + 2 then v2 else if j = n + 3 then v3 else σ.1 b j := by
  obtain ⟨a1, b1, c1⟩ := zbp_s (v := v0) h (by omega)
  obtain ⟨a2, b2, c2⟩ := zbp_s (v := v1) a1 (by omega)
  obtain ⟨a3, b3, c3⟩ := zbp_s (v := v2) a2 (by omega)
  obtain ⟨a4, b4, c4⟩ := zbp_s (v := v3) a3 (by omega)
  refine ⟨a4, rfl, fun j => ?_⟩
  by_cases d0 : j = n
  · rw [if_pos d0, d0, c4 n (by omega), c3 n (by omega), c2 n (by omega), b1]
  rw [if_neg d0]
  by_cases d1 : j = n + 1
  · rw [if_pos d1, d1, c4 _ (by omega), c3 _ (by omega), b2]
  rw [if_neg d1]
  by_cases d2 : j = n + 2
  · rw [if_pos d2, d2, c4 _ (by omega)]
    exact b3
  rw [if_neg d2]
  by_cases d3 : j = n + 3
  · rw [if_pos d3, d3]
    exact b4
  rw [if_neg d3, c4 _ (by omega), c3 _ (by omega), c2 _ (by omega), c1 _ (by omega)]
theorem zap4 {t b n : Nat} (w : Int32) {σ : zS} (h : zTp t b 0 1 n σ) (h2 : n ≤ 1996) : ∃ σ' : zS, F_X7_append t w σ = σ' ∧ zTp t b 0 1 (n + 4) σ' ∧ σ'.2 = σ.2 ∧ ∀ j, σ'.1 b j = zB4 w n (σ.1 b) j := by
  obtain ⟨a1, a2, a3⟩ := zbp4 (v0 := zby w 24) (v1 := zby w (24 + (-8) : Int32)) (v2 := zby w (24 + (-8) + (-8) : Int32)) (v3 := zby w (24 + (-8) + (-8) + (-8) : Int32)) h h2
  exact ⟨_, zapp h h2, a1, a2, a3⟩
theorem zpt4 {t b n : Nat} (w : Int32) {σ : zS} (h : zTp t b 1 2 n σ) (h2 : n ≤ 1996) : ∃ σ' : zS, F_X11_put t w σ = σ' ∧ zTp t b 1 2 (n + 4) σ' ∧ σ'.2 = σ.2 ∧ ∀ j, σ'.1 b j = zB4 w n (σ.1 b) j := by
  obtain ⟨a1, a2, a3⟩ := zbp4 (v0 := zbz w 24) (v1 := zbz w (24 + (-8) : Int32)) (v2 := zbz w (24 + (-8) + (-8) : Int32)) (v3 := zbz w (24 + (-8) + (-8) + (-8) : Int32)) h h2
  obtain ⟨s1, s2, s3, s4⟩ := zsh w
  refine ⟨_, zput h h2, a1, a2, fun j => ?_⟩
  rw [a3]
  unfold zB4
  rw [s1, s2, s3, s4]
section ZSAM
variable {κ k : Int} {L1 : List Nat} {kd1 : Nat → Nat} {L2 : List Nat} {kd2 : Nat → Nat} {σ1 σ2 τ1 τ2 : zS} {Wk Wr Wf Wa : List Nat} {m0 x0 : Nat}
theorem zSAM.le (h0 : k ≤ κ) (h : zSAM κ L1 kd1 L2 kd2 σ1 σ2) : zSAM k L1 kd1 L2 kd2 σ1 σ2 := ⟨fun t b ht hb => by
  obtain ⟨y, h1, h2, h3⟩ := h.1 t b ht hb
  exact ⟨y, h1, h2, fun j hj => h3 j (Int.lt_of_lt_of_le hj h0)⟩, h.2⟩
theorem zSAM.c (h : zSAM κ L1 kd1 L2 kd2 σ1 σ2) (g : zSm Wk Wr L1 kd1 σ1 τ1) (h1 : Wk.contains 39 = false) (h2 : Wk.contains 40 = false) (h3 : Wr.contains 7 = false := by decide) : zSAM κ L1 kd1 L2 kd2 τ1 σ2 := by
  have n1 : 39 ∉ Wk := fun q => by simp [q] at h1
  have n2 : 40 ∉ Wk := fun q => by simp [q] at h2
  have n3 : 7 ∉ Wr := fun q => by simp [q] at h3
  refine ⟨fun t b ht hb => ?_, fun a ha j hj => ?_, h.2.2⟩
  · obtain ⟨y, u1, u2, u3⟩ := h.1 t b ht hb
    refine ⟨y, ?_, u2, fun j hj => ?_⟩
    · rw [(g t ht.1).2 (by rw [ht.2]; exact n3)]
      exact u1
    · rw [((g y u2.1).1 (by rw [u2.2]; exact n1)).1]
      exact u3 j hj
  · rw [((g a ha.1).1 (by rw [ha.2]; exact n2)).2]
    exact h.2.1 a ha j hj
theorem zSAM.m (h : zSAM κ L1 kd1 L2 kd2 σ1 σ2) (g : zSame m0 Wf Wa L2 kd2 σ2 τ2) (h1 : Wa.contains 101 = false) (h2 : Wa.contains 109 = false) : zSAM κ L1 kd1 L2 kd2 σ1 τ2 := by
  have n1 : 101 ∉ Wa := fun q => by simp [q] at h1
  have n2 : 109 ∉ Wa := fun q => by simp [q] at h2
  refine ⟨fun t b ht hb => ?_, h.2.1, fun b hb j hj => ?_⟩
  · obtain ⟨y, u1, u2, u3⟩ := h.1 t b ht hb
    refine ⟨y, u1, u2, fun j hj => ?_⟩
    rw [(g.1 b hb.1 (by rw [hb.2]; decide) (by rw [hb.2]; exact n1)).1]
    exact u3 j hj
  · rw [(g.1 b hb.1 (by rw [hb.2]; decide) (by rw [hb.2]; exact n2)).2]
    exact h.2.2 b hb j hj
theorem zSAM.feed {v1 v2 p1 p2 p3 p4 p5 : Int32} (h : zSAM κ L1 kd1 L2 kd2 σ1 σ2) (hI1 : zI κ 0 L1 kd1 σ1) (hI2 : zJ κ L2 kd2 σ2) (hx0 : zT L1 kd1 x0 10) (hm0 : zT L2 kd2 m0 11) (f1 : (v1, τ1) = F_X10_feed x0 p1 p2 p3 p4 p5 σ1) (f2 : (v2, τ2) = F_X11_feed m0 p1 p2 p3 p4 p5 σ2) (g1 : zSm [7, 39] [] L1 kd1 σ1 τ1) (g2 : zSame m0 [2] [101] L2 kd2 σ2 τ2) (hk : (k = κ ∧ 2000 < κ + 20) ∨ (k = κ + 20 ∧ κ + 20 ≤ 2000)) : zSAM k L1 kd1 L2 kd2 τ1 τ2 := by
  obtain ⟨t, t1, t2⟩ := zi_ref (j := 0) (k2 := 7) hI1 hx0 (by rfl)
  obtain ⟨bt, b1, b2⟩ := zj_ref (j := 1) (k2 := 101) hI2 hm0 (by rfl)
  obtain ⟨y, u1, u2, u3⟩ := h.1 t bt t2 b2
  have rt := zi_get (j := 1) hI1 t2 (lo := κ) (hi := κ) (by rfl)
  have rm := zj_get (j := 2) hI2 hm0 (lo := κ) (hi := κ) (by rfl)
  have hκ := hI1.2.2.1
  obtain ⟨n, hn⟩ : ∃ n : Nat, (n : Int) = κ := ⟨κ.toNat, by omega⟩
  have gt : (σ1.2.2 x0 0).getD 0 = t := by rw [t1]; rfl
  have e20 : (20 : Int32).toInt = 20 := by decide
  have e2000 : (2000 : Int32).toInt = 2000 := by decide
  have ec : (σ1.1 t 1 + (20 : Int32)).toInt = κ + 20 := by rw [zb_add (by rw [e20]; omega) (by rw [e20]; omega), e20]; omega
  have em : (σ2.1 m0 2 + (20 : Int32)).toInt = κ + 20 := by rw [zb_add (by rw [e20]; omega) (by rw [e20]; omega), e20]; omega
  refine ⟨fun t' b' ht' hb' => ?_, fun a ha j hj => ?_, fun b hb j hj => ?_⟩
  · have et : t' = t := hI1.2.2.2.1 t' ht'.1 t t2.1 (ht'.2.trans t2.2.symm) (Or.inr (Or.inr ht'.2))
    have eb : b' = bt := hI2.2.2.2.1 b' hb'.1 bt b2.1 (hb'.2.trans b2.2.symm)
    subst et eb
    unfold F_X10_feed at f1
    unfold F_X11_feed at f2
    simp only [zlt, gt, ec, e2000] at f1
    simp only [zlt, em, e2000] at f2
    rcases hk with ⟨k1, k2⟩ | ⟨k1, k2⟩
    · rw [if_pos k2] at f1 f2
      have q1 : τ1 = σ1 := congrArg Prod.snd f1
      have q2 : τ2 = σ2 := congrArg Prod.snd f2
      rw [q1, q2, k1]
      exact ⟨y, u1, u2, u3⟩
    · rw [if_neg (by omega)] at f1 f2
      have T0 : zTp t' y 0 1 n σ1 := ⟨u1, zNe u2 ht' (by decide), by omega⟩
      have M0 : zTp m0 b' 1 2 n σ2 := ⟨b1, zNe hb' hm0 (by decide), by omega⟩
      obtain ⟨c1, d1, T1, r1, w1⟩ := zap4 p1 T0 (by omega)
      have h1 : (c1.2.2 x0 0).getD 0 = t' := by rw [congrArg Prod.snd r1]; exact gt
      obtain ⟨c2, d2, T2, r2, w2⟩ := zap4 p2 T1 (by omega)
      have h2 : (c2.2.2 x0 0).getD 0 = t' := by rw [congrArg Prod.snd r2]; exact h1
      obtain ⟨c3, d3, T3, r3, w3⟩ := zap4 p3 T2 (by omega)
      have h3 : (c3.2.2 x0 0).getD 0 = t' := by rw [congrArg Prod.snd r3]; exact h2
      obtain ⟨c4, d4, T4, r4, w4⟩ := zap4 p4 T3 (by omega)
      have h4 : (c4.2.2 x0 0).getD 0 = t' := by rw [congrArg Prod.snd r4]; exact h3
      obtain ⟨c5, d5, T5, r5, w5⟩ := zap4 p5 T4 (by omega)
      simp only [d1, h1, d2, h2, d3, h3, d4, h4, d5] at f1
      have q1 : τ1 = c5 := congrArg Prod.snd f1
      obtain ⟨m1, o1, M1, -, x1⟩ := zpt4 p1 M0 (by omega)
      obtain ⟨m2, o2, M2, -, x2⟩ := zpt4 p2 M1 (by omega)
      obtain ⟨m3, o3, M3, -, x3⟩ := zpt4 p3 M2 (by omega)
      obtain ⟨m4, o4, M4, -, x4⟩ := zpt4 p4 M3 (by omega)
      obtain ⟨m5, o5, M5, -, x5⟩ := zpt4 p5 M4 (by omega)
      simp only [o1, o2, o3, o4, o5] at f2
      have q2 : τ2 = m5 := congrArg Prod.snd f2
      have z0 : ∀ j, j < n → σ1.1 y j = σ2.1 b' j := fun j hj => u3 j (by omega)
      have z1 : ∀ j, j < n + 4 → c1.1 y j = m1.1 b' j := fun j hj => by rw [w1, x1]; exact zB4_s z0 j hj
      have z2 : ∀ j, j < n + 4 + 4 → c2.1 y j = m2.1 b' j := fun j hj => by rw [w2, x2]; exact zB4_s z1 j hj
      have z3 : ∀ j, j < n + 4 + 4 + 4 → c3.1 y j = m3.1 b' j := fun j hj => by rw [w3, x3]; exact zB4_s z2 j hj
      have z4 : ∀ j, j < n + 4 + 4 + 4 + 4 → c4.1 y j = m4.1 b' j := fun j hj => by rw [w4, x4]; exact zB4_s z3 j hj
      have z5 : ∀ j, j < n + 4 + 4 + 4 + 4 + 4 → c5.1 y j = m5.1 b' j := fun j hj => by rw [w5, x5]; exact zB4_s z4 j hj
      rw [q1, q2]
      exact ⟨y, T5.1, u2, fun j hj => z5 j (by omega)⟩
  · rw [((g1 a ha.1).1 (by rw [ha.2]; decide)).2]
    exact h.2.1 a ha j hj
  · rw [(g2.1 b hb.1 (by rw [hb.2]; decide) (by rw [hb.2]; decide)).2]
    exact h.2.2 b hb j hj
/-- the parse that read begins -/
noncomputable def zPs (x0 : Nat) (σ : zS) : Int32 × zS := F_X3_parse ((σ.2.2 x0 1).getD 0) ((σ.2.2 ((σ.2.2 x0 0).getD 0) 0).getD 0) (σ.1 ((σ.2.2 x0 0).getD 0) 1) ((σ.2.2 x0 11).getD 0) σ
theorem zR10 (a : Nat) (σ : zS) : (F_X10_read a σ).1 = (F_X3_parse ((σ.2.2 a 1).getD 0) ((σ.2.2 ((σ.2.2 a 0).getD 0) 0).getD 0) (σ.1 ((σ.2.2 a 0).getD 0) 1) ((σ.2.2 a 11).getD 0) σ).1 := by
  unfold F_X10_read
  simp only [zlt, zlt2]
  split <;> rfl
theorem zQs_k {j : Nat} (h : zQs j) : zf 0 11 j = some (100 + j) ∧ 21 ≤ j := by
  unfold zQs at h
  rcases h with h | h | h | h | h | h | h | h | h | h | h | h | h | h | h | h | h | h | h | h | h | h <;> subst h <;> exact ⟨by rfl, by decide⟩
theorem zSAM.read {v1 v2 : Int32} (h : zSAM κ L1 kd1 L2 kd2 σ1 σ2) (hI1 : zI κ 0 L1 kd1 σ1) (hI2 : zJ κ L2 kd2 σ2) (hx0 : zT L1 kd1 x0 10) (hm0 : zT L2 kd2 m0 11) (f1 : (v1, τ1) = F_X10_read x0 σ1) (f2 : (v2, τ2) = F_X11_read m0 σ2) (g1 : zSm Wk Wr L1 kd1 σ1 τ1) (g2 : zSame m0 Wf Wa L2 kd2 σ2 τ2) (h1 : Wk.contains 39 = false := by decide) (h2 : Wk.contains 40 = false := by decide) (h3 : Wr.contains 7 = false := by decide) (h4 : Wa.contains 101 = false := by decide) (h5 : Wa.contains 109 = false := by decide) : (v1.toInt = v2.toInt ∧ ((zPs x0 σ1).2.1 ((σ1.2.2 x0 1).getD 0) 9).toInt = (τ2.1 m0 17).toInt) ∧ zSAM 0 L1 kd1 L2 kd2 τ1 τ2 := by
  refine ⟨?_, zSAM.le hI1.2.2.1.1 ((h.c g1 h1 h2 h3).m g2 h4 h5)⟩
  have q1 : v1 = (F_X10_read x0 σ1).1 := congrArg Prod.fst f1
  have q2 : v2 = (F_X11_read m0 σ2).1 := congrArg Prod.fst f2
  have q3 : τ2 = (F_X11_read m0 σ2).2 := congrArg Prod.snd f2
  rw [q1, q2, q3, zR10]
  unfold zPs
  obtain ⟨t, t1, t2⟩ := zi_ref (j := 0) (k2 := 7) hI1 hx0 (by rfl)
  obtain ⟨P, P1, P2⟩ := zi_ref (j := 1) (k2 := 3) hI1 hx0 (by rfl)
  obtain ⟨tt, s1, s2⟩ := zi_ref (j := 11) (k2 := 9) hI1 hx0 (by rfl)
  obtain ⟨bt, b1, b2⟩ := zj_ref (j := 1) (k2 := 101) hI2 hm0 (by rfl)
  obtain ⟨p1, u1, u2, u3⟩ := h.1 t bt t2 b2
  obtain ⟨tk, l0, k2⟩ := zi_ref (j := 0) (k2 := 8) hI1 P2 (by rfl)
  obtain ⟨w, w1, w2⟩ := zi_ref (j := 0) (k2 := 40) hI1 k2 (by rfl)
  obtain ⟨kA, ka1, ka2⟩ := zi_ref (j := 1) (k2 := 41) hI1 k2 (by rfl)
  obtain ⟨vA, va1, va2⟩ := zi_ref (j := 2) (k2 := 42) hI1 k2 (by rfl)
  obtain ⟨qA, qa1, qa2⟩ := zi_ref (j := 3) (k2 := 43) hI1 k2 (by rfl)
  obtain ⟨N, n1, n2⟩ := zi_ref (j := 1) (k2 := 44) hI1 s2 (by rfl)
  have rt := zi_get (j := 1) hI1 t2 (lo := κ) (hi := κ) (by rfl)
  have rm := zj_get (j := 2) hI2 hm0 (lo := κ) (hi := κ) (by rfl)
  have hκ := hI1.2.2.1
  obtain ⟨n, hn⟩ : ∃ n : Nat, (n : Int) = κ := ⟨κ.toNat, by omega⟩
  obtain ⟨x, x1, x2⟩ := zj_ref (j := 3) (k2 := 103) hI2 hm0 (by rfl)
  obtain ⟨k, ck1, ck2⟩ := zj_ref (j := 5) (k2 := 105) hI2 hm0 (by rfl)
  obtain ⟨q, cq1, cq2⟩ := zj_ref (j := 6) (k2 := 106) hI2 hm0 (by rfl)
  obtain ⟨v, cv1, cv2⟩ := zj_ref (j := 7) (k2 := 107) hI2 hm0 (by rfl)
  obtain ⟨nm, cn1, cn2⟩ := zj_ref (j := 8) (k2 := 108) hI2 hm0 (by rfl)
  obtain ⟨ky, cy1, cy2⟩ := zj_ref (j := 9) (k2 := 109) hI2 hm0 (by rfl)
  obtain ⟨nO, co1, co2⟩ := zj_ref (j := 20) (k2 := 120) hI2 hm0 (by rfl)
  have gt : (σ1.2.2 x0 0).getD 0 = t := by rw [t1]; rfl
  have gP : (σ1.2.2 x0 1).getD 0 = P := by rw [P1]; rfl
  have gs : (σ1.2.2 x0 11).getD 0 = tt := by rw [s1]; rfl
  have gp : (σ1.2.2 t 0).getD 0 = p1 := by rw [u1]; rfl
  rw [gt, gP, gs, gp]
  have arr : ∀ j, (j = 2 ∨ j = 3 ∨ j = 4 ∨ j = 5 ∨ j = 6 ∨ j = 7 ∨ j = 9) → ∃ k2, 45 ≤ k2 ∧ zT L1 kd1 ((σ1.2.2 tt j).getD 0) k2 := fun j hj => by
    rcases hj with z | z | z | z | z | z | z <;> subst z
    · obtain ⟨y, y1, y2⟩ := zi_ref (j := 2) hI1 s2 (by rfl)
      exact ⟨45, by decide, by rw [y1]; exact y2⟩
    · obtain ⟨y, y1, y2⟩ := zi_ref (j := 3) hI1 s2 (by rfl)
      exact ⟨46, by decide, by rw [y1]; exact y2⟩
    · obtain ⟨y, y1, y2⟩ := zi_ref (j := 4) hI1 s2 (by rfl)
      exact ⟨47, by decide, by rw [y1]; exact y2⟩
    · obtain ⟨y, y1, y2⟩ := zi_ref (j := 5) hI1 s2 (by rfl)
      exact ⟨48, by decide, by rw [y1]; exact y2⟩
    · obtain ⟨y, y1, y2⟩ := zi_ref (j := 6) hI1 s2 (by rfl)
      exact ⟨49, by decide, by rw [y1]; exact y2⟩
    · obtain ⟨y, y1, y2⟩ := zi_ref (j := 7) hI1 s2 (by rfl)
      exact ⟨50, by decide, by rw [y1]; exact y2⟩
    · obtain ⟨y, y1, y2⟩ := zi_ref (j := 9) hI1 s2 (by rfl)
      exact ⟨51, by decide, by rw [y1]; exact y2⟩
  refine zReadEq (n := n) (w := w) (x := x) (bt := bt) (ky := ky) (k := k) (q := q) (v := v) (nm := nm) (nO := nO) ⟨zNe k2 P2 (by decide), zNe ka2 P2 (by decide), zNe qa2 P2 (by decide), zNe va2 P2 (by decide), zNe n2 P2 (by decide), zNe n2 va2 (by decide)⟩ (zNe ka2 k2 (by decide)) (zNe qa2 k2 (by decide)) (zNe ka2 qa2 (by decide)) ⟨zNe u2 k2 (by decide), zNe u2 ka2 (by decide), zNe u2 qa2 (by decide)⟩ (zNe w2 va2 (by decide)) (by omega) (by omega) ⟨w1, ka1, va1, qa1⟩ l0 n1 ⟨⟨zNe s2 P2 (by decide), zNe s2 k2 (by decide), zNe s2 ka2 (by decide), zNe s2 qa2 (by decide)⟩, fun j hj => ?_⟩ (fun j => zi_get (lo := -128) (hi := 127) hI1 u2 (by rfl)) ⟨zNe ck2 hm0 (by decide), zNe cq2 hm0 (by decide), zNe cv2 hm0 (by decide), zNe ck2 cq2 (by decide), zNe ck2 cv2 (by decide), zNe cq2 cv2 (by decide)⟩ ⟨zNe x2 hm0 (by decide), zNe x2 ck2 (by decide), zNe x2 cq2 (by decide), zNe x2 cv2 (by decide)⟩ (zNe b2 x2 (by decide)) (zNe b2 hm0 (by decide)) (zNe cy2 cn2 (by decide)) (zNe cn2 co2 (by decide)) ⟨ck1, cq1, cv1, cn1, cy1⟩ x1 b1 co1 (by omega) (fun j => zj_get (lo := -128) (hi := 127) hI2 x2 (by rfl)) (fun j => zj_get (lo := -128) (hi := 127) hI2 b2 (by rfl)) (fun j hj => ?_) (fun i hi => h.2.1 w w2 i hi) (fun i hi => h.2.2 ky cy2 i hi) (fun j hj => u3 j (by omega))
  · obtain ⟨k3, y1, y2⟩ := arr j hj
    exact ⟨zNe y2 P2 (by omega), zNe y2 k2 (by omega), zNe y2 ka2 (by omega), zNe y2 qa2 (by omega)⟩
  · obtain ⟨f, f21⟩ := zQs_k hj
    obtain ⟨y, y1, y2⟩ := zj_ref (j := j) hI2 hm0 f
    rw [y1]
    exact ⟨zNe y2 hm0 (by omega), zNe y2 ck2 (by omega), zNe y2 cq2 (by omega), zNe y2 cv2 (by omega)⟩
end ZSAM
