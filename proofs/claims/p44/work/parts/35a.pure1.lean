/-! WHAT IS ALIKE ON BOTH SIDES: the tape's bytes, the tables of words -/
def zSIM (κ : Int) (L1 : List Nat) (kd1 : Nat → Nat) (L2 : List Nat) (kd2 : Nat → Nat) (σ1 σ2 : zS) : Prop :=
  (∀ a b, zT L1 kd1 a 39 → zT L2 kd2 b 101 → ∀ j : Nat, (j : Int) < κ → σ1.1 a j = σ2.1 b j) ∧ (∀ a, zT L1 kd1 a 40 → ∀ j, j < 22 → σ1.2.1 a j = zw32 j) ∧ (∀ b, zT L2 kd2 b 109 → ∀ j, j < 22 → σ2.2.1 b j = zw27 j)
section ZSIM
variable {κ k : Int} {L1 : List Nat} {kd1 : Nat → Nat} {L2 : List Nat} {kd2 : Nat → Nat} {σ1 σ2 τ1 τ2 : zS} {Wk Wr Wf Wa : List Nat} {m0 x0 : Nat}
theorem zSIM.le (h0 : k ≤ κ) (h : zSIM κ L1 kd1 L2 kd2 σ1 σ2) : zSIM k L1 kd1 L2 kd2 σ1 σ2 := ⟨fun a b ha hb j hj => h.1 a b ha hb j (Int.lt_of_lt_of_le hj h0), h.2⟩
theorem zSIM.c (h : zSIM κ L1 kd1 L2 kd2 σ1 σ2) (g : zSm Wk Wr L1 kd1 σ1 τ1) (h1 : Wk.contains 39 = false) (h2 : Wk.contains 40 = false) : zSIM κ L1 kd1 L2 kd2 τ1 σ2 := by
  have n1 : 39 ∉ Wk := fun q => by simp [q] at h1
  have n2 : 40 ∉ Wk := fun q => by simp [q] at h2
  refine ⟨fun a b ha hb j hj => ?_, fun a ha j hj => ?_, h.2.2⟩
  · rw [((g a ha.1).1 (by rw [ha.2]; exact n1)).1]
    exact h.1 a b ha hb j hj
  · rw [((g a ha.1).1 (by rw [ha.2]; exact n2)).2]
    exact h.2.1 a ha j hj
theorem zSIM.m (h : zSIM κ L1 kd1 L2 kd2 σ1 σ2) (g : zSame m0 Wf Wa L2 kd2 σ2 τ2) (h1 : Wa.contains 101 = false) (h2 : Wa.contains 109 = false) : zSIM κ L1 kd1 L2 kd2 σ1 τ2 := by
  have n1 : 101 ∉ Wa := fun q => by simp [q] at h1
  have n2 : 109 ∉ Wa := fun q => by simp [q] at h2
  refine ⟨fun a b ha hb j hj => ?_, h.2.1, fun b hb j hj => ?_⟩
  · rw [(g.1 b hb.1 (by rw [hb.2]; decide) (by rw [hb.2]; exact n1)).1]
    exact h.1 a b ha hb j hj
  · rw [(g.1 b hb.1 (by rw [hb.2]; decide) (by rw [hb.2]; exact n2)).2]
    exact h.2.2 b hb j hj
end ZSIM
/-! simplifying what the functions say -/
theorem zu_e {α : Type} (f : Nat → Nat → α) (a b j : Nat) (v : α) (k : Nat) (h : ¬ b = a) : zu f a j v b k = f b k := by simp [zu, h]
/-- one byte put behind the tape -/
def zbp (t fB fS : Nat) (v : Int32) (σ : zS) : zS := (zu (zu σ.1 ((σ.2.2 t fB).getD 0) (σ.1 t fS).toNatClampNeg v) t fS (zu σ.1 ((σ.2.2 t fB).getD 0) (σ.1 t fS).toNatClampNeg v t fS + 1), σ.2.1, σ.2.2)
def zTp (t b fB fS n : Nat) (σ : zS) : Prop := σ.2.2 t fB = some b ∧ b ≠ t ∧ (σ.1 t fS).toInt = n
theorem zbp_s {t b fB fS n : Nat} {v : Int32} {σ : zS} (h : zTp t b fB fS n σ) (h2 : n < 2000) : zTp t b fB fS (n + 1) (zbp t fB fS v σ) ∧ (zbp t fB fS v σ).1 b n = v ∧ ∀ j, j ≠ n → (zbp t fB fS v σ).1 b j = σ.1 b j := by
  obtain ⟨h0, hbt, hn⟩ := h
  have e0 : (σ.2.2 t fB).getD 0 = b := by rw [h0]; rfl
  have e1 : (σ.1 t fS).toNatClampNeg = n := by
    show (σ.1 t fS).toInt.toNat = n
    omega
  have e2 : (1 : Int32).toInt = 1 := by decide
  unfold zbp
  rw [e0, e1, zu_n σ.1 n v (show ¬ t = b from fun z => hbt z.symm)]
  refine ⟨⟨h0, hbt, ?_⟩, ?_, fun j hj => ?_⟩
  · show (zu (zu σ.1 b n v) t fS (σ.1 t fS + 1) t fS).toInt = _
    rw [zu_s, zb_add (by rw [hn, e2]; omega) (by rw [hn, e2]; omega), hn, e2]
    rfl
  · show zu (zu σ.1 b n v) t fS (σ.1 t fS + 1) b n = v
    rw [zu_n _ _ _ hbt, zu_s]
  · show zu (zu σ.1 b n v) t fS (σ.1 t fS + 1) b j = _
    rw [zu_n _ _ _ hbt, zu_j _ _ _ _ _ (fun q => hj q.symm)]
def zby (w : Int32) (s : Int32) : Int32 := vp_nar .byte ((w.toUInt32 >>> (s.toUInt32 &&& Int32.toUInt32 31)).toInt32).toInt8.toInt32
def zbz (w : Int32) (s : Int32) : Int32 := vp_nar .byte (w >>> (s &&& 31)).toInt8.toInt32
theorem zapp {t b n : Nat} {w : Int32} {σ : zS} (h : zTp t b 0 1 n σ) (h2 : n ≤ 1996) : F_X7_append t w σ = (zbp t 0 1 (zby w (24 + (-8) + (-8) + (-8) : Int32)) (zbp t 0 1 (zby w (24 + (-8) + (-8) : Int32)) (zbp t 0 1 (zby w (24 + (-8) : Int32)) (zbp t 0 1 (zby w (24 : Int32)) σ)))) := by
  obtain ⟨R, hR⟩ : ∃ R, R = F_X7_append t w σ := ⟨_, rfl⟩
  have E := hR
  have h0 : (σ.1 t 1).toInt < (2000 : Int32).toInt := by rw [h.2.2]; show ((n + 0 : Nat) : Int) < 2000; omega
  have s1 := zbp_s (v := zby w (24 : Int32)) h (by omega)
  have h1 : ((zbp t 0 1 (zby w (24 : Int32)) σ).1 t 1).toInt < (2000 : Int32).toInt := by rw [s1.1.2.2]; show ((n + 1 : Nat) : Int) < 2000; omega
  have s2 := zbp_s (v := zby w (24 + (-8) : Int32)) s1.1 (by omega)
  have h2 : ((zbp t 0 1 (zby w (24 + (-8) : Int32)) (zbp t 0 1 (zby w (24 : Int32)) σ)).1 t 1).toInt < (2000 : Int32).toInt := by rw [s2.1.2.2]; show ((n + 2 : Nat) : Int) < 2000; omega
  have s3 := zbp_s (v := zby w (24 + (-8) + (-8) : Int32)) s2.1 (by omega)
  have h3 : ((zbp t 0 1 (zby w (24 + (-8) + (-8) : Int32)) (zbp t 0 1 (zby w (24 + (-8) : Int32)) (zbp t 0 1 (zby w (24 : Int32)) σ))).1 t 1).toInt < (2000 : Int32).toInt := by rw [s3.1.2.2]; show ((n + 3 : Nat) : Int) < 2000; omega
  have s4 := zbp_s (v := zby w (24 + (-8) + (-8) + (-8) : Int32)) s3.1 (by omega)
  unfold F_X7_append at E
  replace E := zLet_s rfl E
  replace E := zIf_f (by decide) E
  replace E := zLet_s rfl E
  replace E := zLet_s rfl E
  replace E := zLet_s rfl E
  replace E := zIf_t (h0) E
  replace E := zLet_s rfl E
  replace E := zLet_s rfl E
  replace E := zLet_s rfl E
  replace E := zLet_s rfl E
  replace E := zLet_s rfl E
  replace E := zLet_s rfl E
  replace E := zLet_s rfl E
  replace E := zLet_s rfl E
  replace E := zLet_s (v := (zbp t 0 1 (zby w (24 : Int32)) σ)) rfl E
  replace E := zLet_s rfl E
  replace E := zIf_f (by decide) E
  replace E := zLet_s rfl E
  replace E := zLet_s rfl E
  replace E := zLet_s rfl E
  replace E := zIf_t (h1) E
  replace E := zLet_s rfl E
  replace E := zLet_s rfl E
  replace E := zLet_s rfl E
  replace E := zLet_s rfl E
  replace E := zLet_s rfl E
  replace E := zLet_s rfl E
  replace E := zLet_s rfl E
  replace E := zLet_s rfl E
  replace E := zLet_s (v := (zbp t 0 1 (zby w (24 + (-8) : Int32)) (zbp t 0 1 (zby w (24 : Int32)) σ))) rfl E
  replace E := zLet_s rfl E
  replace E := zIf_f (by decide) E
  replace E := zLet_s rfl E
  replace E := zLet_s rfl E
  replace E := zLet_s rfl E
  replace E := zIf_t (h2) E
  replace E := zLet_s rfl E
  replace E := zLet_s rfl E
  replace E := zLet_s rfl E
  replace E := zLet_s rfl E
  replace E := zLet_s rfl E
  replace E := zLet_s rfl E
  replace E := zLet_s rfl E
  replace E := zLet_s rfl E
  replace E := zLet_s (v := (zbp t 0 1 (zby w (24 + (-8) + (-8) : Int32)) (zbp t 0 1 (zby w (24 + (-8) : Int32)) (zbp t 0 1 (zby w (24 : Int32)) σ)))) rfl E
  replace E := zLet_s rfl E
  replace E := zIf_f (by decide) E
  replace E := zLet_s rfl E
  replace E := zLet_s rfl E
  replace E := zLet_s rfl E
  replace E := zIf_t (h3) E
  replace E := zLet_s rfl E
  replace E := zLet_s rfl E
  replace E := zLet_s rfl E
  replace E := zLet_s rfl E
  replace E := zLet_s rfl E
  replace E := zLet_s rfl E
  replace E := zLet_s rfl E
  replace E := zLet_s rfl E
  replace E := zLet_s (v := (zbp t 0 1 (zby w (24 + (-8) + (-8) + (-8) : Int32)) (zbp t 0 1 (zby w (24 + (-8) + (-8) : Int32)) (zbp t 0 1 (zby w (24 + (-8) : Int32)) (zbp t 0 1 (zby w (24 : Int32)) σ))))) rfl E
  replace E := zLet_s rfl E
  replace E := zIf_t (by decide) E
  exact hR.symm.trans E
theorem zput {t b n : Nat} {w : Int32} {σ : zS} (h : zTp t b 1 2 n σ) (h2 : n ≤ 1996) : F_X11_put t w σ = (zbp t 1 2 (zbz w (24 + (-8) + (-8) + (-8) : Int32)) (zbp t 1 2 (zbz w (24 + (-8) + (-8) : Int32)) (zbp t 1 2 (zbz w (24 + (-8) : Int32)) (zbp t 1 2 (zbz w (24 : Int32)) σ)))) := by
  obtain ⟨R, hR⟩ : ∃ R, R = F_X11_put t w σ := ⟨_, rfl⟩
  have E := hR
  unfold F_X11_put at E
  replace E := zLet_s rfl E
  replace E := zIf_f (by decide) E
  replace E := zLet_s rfl E
  replace E := zLet_s rfl E
  replace E := zLet_s rfl E
  replace E := zLet_s rfl E
  replace E := zLet_s rfl E
  replace E := zLet_s rfl E
  replace E := zLet_s rfl E
  replace E := zLet_s rfl E
  replace E := zLet_s (v := (zbp t 1 2 (zbz w (24 : Int32)) σ)) rfl E
  replace E := zLet_s rfl E
  replace E := zIf_f (by decide) E
  replace E := zLet_s rfl E
  replace E := zLet_s rfl E
  replace E := zLet_s rfl E
  replace E := zLet_s rfl E
  replace E := zLet_s rfl E
  replace E := zLet_s rfl E
  replace E := zLet_s rfl E
  replace E := zLet_s rfl E
  replace E := zLet_s (v := (zbp t 1 2 (zbz w (24 + (-8) : Int32)) (zbp t 1 2 (zbz w (24 : Int32)) σ))) rfl E
  replace E := zLet_s rfl E
  replace E := zIf_f (by decide) E
  replace E := zLet_s rfl E
  replace E := zLet_s rfl E
  replace E := zLet_s rfl E
  replace E := zLet_s rfl E
  replace E := zLet_s rfl E
  replace E := zLet_s rfl E
  replace E := zLet_s rfl E
  replace E := zLet_s rfl E
  replace E := zLet_s (v := (zbp t 1 2 (zbz w (24 + (-8) + (-8) : Int32)) (zbp t 1 2 (zbz w (24 + (-8) : Int32)) (zbp t 1 2 (zbz w (24 : Int32)) σ)))) rfl E
  replace E := zLet_s rfl E
  replace E := zIf_f (by decide) E
  replace E := zLet_s rfl E
  replace E := zLet_s rfl E
  replace E := zLet_s rfl E
  replace E := zLet_s rfl E
  replace E := zLet_s rfl E
  replace E := zLet_s rfl E
  replace E := zLet_s rfl E
  replace E := zLet_s rfl E
  replace E := zLet_s (v := (zbp t 1 2 (zbz w (24 + (-8) + (-8) + (-8) : Int32)) (zbp t 1 2 (zbz w (24 + (-8) + (-8) : Int32)) (zbp t 1 2 (zbz w (24 + (-8) : Int32)) (zbp t 1 2 (zbz w (24 : Int32)) σ))))) rfl E
  replace E := zLet_s rfl E
  replace E := zIf_t (by decide) E
  exact hR.symm.trans E
/-- four bytes more on both sides -/
theorem zsh (w : Int32) : zby w (24 : Int32) = zbz w (24 : Int32) ∧ zby w (24 + (-8) : Int32) = zbz w (24 + (-8) : Int32) ∧ zby w (24 + (-8) + (-8) : Int32) = zbz w (24 + (-8) + (-8) : Int32) ∧ zby w (24 + (-8) + (-8) + (-8) : Int32) = zbz w (24 + (-8) + (-8) + (-8) : Int32) := by
  have k1 : (24 : Int32) + (-8 : Int32) = 16 := by decide
  have k2 : (16 : Int32) + (-8 : Int32) = 8 := by decide
  have k3 : (8 : Int32) + (-8 : Int32) = 0 := by decide
  rw [k1, k2, k3]
  unfold zby zbz
  refine ⟨?_, ?_, ?_, ?_⟩
  all_goals congr 2
  all_goals apply Int8.toBitVec_inj.mp
  all_goals simp
  all_goals
    apply BitVec.eq_of_getLsbD_eq
    intro i hi
    have h1 : i < 32 := by omega
    have h2 : 24 + i < 32 := by omega
    have h3 : 16 + i < 32 := by omega
    have h4 : 8 + i < 32 := by omega
    have h5 : ¬ 32 ≤ i := by omega
    simp only [BitVec.getLsbD_signExtend, BitVec.getLsbD_ushiftRight, BitVec.getLsbD_sshiftRight, hi, h1, h2, h3, h4, h5, decide_true, decide_false, Bool.not_false, Bool.true_and, if_true]
