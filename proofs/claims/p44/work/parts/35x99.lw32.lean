/-! BOTH RIVERS FLOW ALIKE -/
/-- what stands alike: facts and dams -/
def zEq (q Y : Nat → Nat) (b N : Nat) (D : Int32) (s1 s2 : zS) : Prop := (∀ p f, p < N → fCt q s1 (pI p) f = fMt Y b s2 (pI p) f) ∧ ∀ c, 1 ≤ c → c < N → dmC D c = dmM Y s2 c
section BOTHF
variable {q Y : Nat → Nat} {a b N : Nat} {R : Nat → Nat → Option Nat} {s1 s2 t1 t2 τ : zS} {g : zGl} {D m : Int32} {u l sp : Nat → Nat}
theorem vEq (E : zEq q Y b N D s1 s2) {k p : Nat} {f : Int32} (hp : p < N) : vCl q s1 g k p f = vMl Y b s2 g k p f := by
  unfold vCl vMl
  rw [E.1 p f hp]
theorem rEq (E : zEq q Y b N D s1 s2) {p : Nat} (hp : p < N) : rCl q s1 g m p = rMl Y b s2 g m p := by
  unfold rCl rMl
  rw [vEq E hp, held_e (by decide)]
theorem drEq (E : zEq q Y b N D s1 s2) {p : Nat} {f : Int32} (hp : p < N) (hf : 0 ≤ f.toInt) : drC q s1 g p f = drM Y b s2 g p f := by
  have z0 : (0 : Int32).toInt = 0 := by decide
  unfold drC drM
  rw [vEq E hp, held_e (by rw [z0]; exact hf)]
theorem rCl_b {s : zS} {p : Nat} (hm : 0 ≤ m.toInt ∧ m.toInt ≤ 99) : 0 ≤ (rCl q s g m p).toInt ∧ (rCl q s g m p).toInt ≤ 1098 := by
  have z0 : (0 : Int32).toInt = 0 := by decide
  have z9 : (999 : Int32).toInt = 999 := by decide
  have r := held_r (v := vCl q s g 0 p 0) (lo := 0) (hi := 999) (by decide)
  rw [z0, z9] at r
  unfold rCl
  rw [zb_add (by omega) (by omega)]
  omega
/-- the same water everywhere -/
theorem flowEq (h : zQr q s1.2.2) (hg1 : 0 < N → zL5 q s1 g) (h0 : (s1.1 (q 1) 0).toInt = N) (hN : N ≤ 12) (hT : zTr N u) (hu1 : ∀ c, 1 ≤ c → c < N → (s1.1 (q 19) c).toInt = u c) (E : zLnP N u (q 16) l s1) (hy : zYm Y a s2.2.2) (h18 : (s2.1 a 18).toInt = b) (hb : b ≤ 1) (hg2 : 0 < N → zW5 Y b s2 g) (hM : (F_X11_many a s2).toInt = N) (hu2 : ∀ c, 1 ≤ c → c < N → (s2.1 (Y 49) c).toInt = u c) (hS : ∀ c, c < N → (s2.1 (Y 53) c).toInt = sp c) (hsp : ∀ c, 1 ≤ c → c < N → sp c = sp (u c) + 1) (h11 : ∀ c, c < N → sp c ≤ 11) (hE : zEq q Y b N D s1 s2) (hm : 0 ≤ m.toInt ∧ m.toInt ≤ 99) (f1 : zFr (zRw q) s1 t1) (hr : ∀ p, p < N → t1.1 (q 5) p = rCl q s1 g m p) (f2 : zFr (zVw Y a) s2 t2) : ∀ p, p < N → (F_X5_run (q 0) D t1).1 (q 6) p = (F_X11_fillsFlows a m t2).1 (Y 55) p := by
  obtain ⟨-, -, a3, a4⟩ := cRun (D := D) h hg1 h0 hN hT hu1 E f1 hr (fun p _ => rCl_b hm)
  obtain ⟨-, b2⟩ := mFlow (m := m) hy h18 hb hg2 hM hN hT hu2 hS hsp h11 f2
  have dmE : zFw N u (dmC D) (drM Y b s2 g) (rMl Y b s2 g m) (fun c => decide (1 ≤ c)) (fun c => (F_X11_fillsFlows a m t2).1 (Y 55) c) := by
    refine ⟨b2.1, fun p hp => ?_⟩
    rw [b2.2 p hp]
    congr 1
    refine (sm_cg N (fun i hi => ?_)).symm
    by_cases z : 1 ≤ i
    · unfold inF
      rw [hE.2 i z hi]
    · rw [inF_0 (fun w => z w.1), inF_0 (fun w => z w.1)]
  exact a3.uniq hT dmE (PrC_all E) (fun c c1 _ => decide_eq_true c1) (fun p hp => rEq hE hp) (fun c f hc hf => drEq hE hc hf) a4
end BOTHF
