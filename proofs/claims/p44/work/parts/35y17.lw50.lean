/-! ANSWERS OF NOW: vote -/
/-- what a law makes of a score so far -/
def vv (w : Nat) (o : Int) (r : Nat) : Int := if w = 0 then 3 * (r : Int) else if o ≤ 3 * (r : Int) + w then o else 3 * (r : Int) + w
/-- the law by which a place stands best, the first of them -/
def bl (r : Nat → Nat) : Nat := if r 2 < r (if r 1 < r 0 then 1 else 0) then 2 else if r 1 < r 0 then 1 else 0
theorem bl_e {r : Nat → Nat} {o : Int} : vv 2 (vv 1 (vv 0 o (r 0)) (r 1)) (r 2) = 3 * (r (bl r) : Int) + bl r ∧ bl r < 3 := by
  have e0 : vv 0 o (r 0) = 3 * (r 0 : Int) := if_pos rfl
  have e1 : ∀ y, vv 1 y (r 1) = if y ≤ 3 * (r 1 : Int) + 1 then y else 3 * (r 1 : Int) + 1 := fun y => if_neg (by decide)
  have e2 : ∀ y, vv 2 y (r 2) = if y ≤ 3 * (r 2 : Int) + 2 then y else 3 * (r 2 : Int) + 2 := fun y => if_neg (by decide)
  rw [e0, e1, e2]
  unfold bl
  by_cases c1 : r 1 < r 0
  · rw [if_pos c1, if_neg (show ¬ 3 * (r 0 : Int) ≤ 3 * (r 1 : Int) + 1 by omega)]
    by_cases c2 : r 2 < r 1
    · rw [if_pos c2, if_neg (show ¬ 3 * (r 1 : Int) + 1 ≤ 3 * (r 2 : Int) + 2 by omega)]
      exact ⟨rfl, by decide⟩
    · rw [if_neg c2, if_pos (show 3 * (r 1 : Int) + 1 ≤ 3 * (r 2 : Int) + 2 by omega)]
      exact ⟨rfl, by decide⟩
  · rw [if_neg c1, if_pos (show 3 * (r 0 : Int) ≤ 3 * (r 1 : Int) + 1 by omega)]
    by_cases c2 : r 2 < r 0
    · rw [if_pos c2, if_neg (show ¬ 3 * (r 0 : Int) ≤ 3 * (r 2 : Int) + 2 by omega)]
      exact ⟨rfl, by decide⟩
    · rw [if_neg c2, if_pos (show 3 * (r 0 : Int) ≤ 3 * (r 2 : Int) + 2 by omega)]
      exact ⟨by omega, by decide⟩
/-- how many vote so -/
def vc (S : Nat → Bool) (g : Nat → Nat) (law : Nat) : Nat → Nat
  | 0 => 0
  | i + 1 => vc S g law i + (if 1 ≤ i ∧ S i = true ∧ g i = law then 1 else 0)
theorem vc_1 {S : Nat → Bool} {g : Nat → Nat} {law : Nat} : vc S g law 1 = 0 := by
  rw [vc, if_neg (by omega)]
  rfl
theorem vc_le {S : Nat → Bool} {g : Nat → Nat} {law : Nat} : ∀ i, vc S g law i ≤ i := by
  intro i
  induction i with
  | zero => exact Nat.le_refl _
  | succ i ih =>
    rw [vc]
    split <;> omega
theorem vc_N {S : Nat → Bool} {g : Nat → Nat} {law N : Nat} : vc S g law (if 1 ≤ N then N else 1) = vc S g law N := by
  split
  · rfl
  · rw [show N = 0 by omega, vc_1]
    rfl
theorem m3 : ∀ n : Nat, n < 64 → (Int32.ofInt n - Int32.ofInt n / 3 * 3).toInt = (n % 3 : Nat) := by decide
theorem m3' {x : Int32} {n : Nat} (h : x.toInt = n) (hn : n < 64) : (x - x / 3 * 3).toInt = (n % 3 : Nat) := by
  rw [ofI h]
  exact m3 n hn
section VOTEC
variable {q Y : Nat → Nat} {a b N : Nat} {s1 s2 s t t1 : zS} {g : zGl} {u l : Nat → Nat} {w z : Nat}
/-- a row that is none of the river's, written -/
theorem zSd.fz (hz : ∀ i, i < 22 → ¬ q i = z) (S : zSd q Y a b N g u l s1 s2) (f : zFr (fun c _ => c = z) s1 t1) : zSd q Y a b N g u l t1 s2 := by
  obtain ⟨⟨a1, a2, a3, a4, a5, a6, a7, a8⟩, B, c, d, e⟩ := S
  have r1 := f.rf
  have r : ∀ i, i < 22 → t1.1 (q i) = s1.1 (q i) := fun i hi => funext (fun j => f.2 (q i) j (hz i hi))
  refine ⟨⟨by rw [r1]; exact a1, fun hN => (a2 hN).cg (congrFun (r 3 (by decide)) 8) (fun i hi => r i (by omega)), by rw [r 1 (by decide)]; exact a3, a4, a5, fun c c1 c2 => by rw [r 19 (by decide)]; exact a6 c c1 c2, a7.cg (r 16 (by decide)), fun x => ?_⟩, B, fun p hp => ?_, fun c c1 c2 => ?_, fun hN => ?_⟩
  · have g18 : (s1.2.2 (q 1) 4).getD 0 = q 18 := a1.1.2.2.2.1.2.2
    have e : (F_X6_isSource (q 1) x t1).1 = (F_X6_isSource (q 1) x s1).1 := by
      unfold F_X6_isSource
      simp only [zlt, r1, g18, r 1 (by decide), r 18 (by decide)]
      (repeat' split) <;> rfl
    rw [e]
    exact a8 x
  · rw [r 11 (by decide), r 17 (by decide), r 12 (by decide), r 10 (by decide), r 18 (by decide)]
    exact c p hp
  · rw [r 4 (by decide)]
    exact d c c1 c2
  · rw [r 3 (by decide)]
    exact e hN
theorem zDn.fz (hz : ∀ i, i < 22 → ¬ q i = z) (Dn : zDn q Y N s1 s2) (f : zFr (fun c _ => c = z) s1 t1) : zDn q Y N t1 s2 := by
  have r : ∀ i, i < 22 → t1.1 (q i) = s1.1 (q i) := fun i hi => funext (fun j => f.2 (q i) j (hz i hi))
  unfold zDn
  rw [r 20 (by decide), r 21 (by decide), r 4 (by decide)]
  exact Dn
/-- the votes of one law cast, behind the weights -/
theorem castL {x0 td : Nat} (S : zSd q Y a b N g u l s t) (hz : ∀ i, i < 22 → ¬ q i = z) (rx : (s.2.2 x0 2).getD 0 = q 0 ∧ (s.2.2 x0 10).getD 0 = td ∧ (s.2.2 x0 9).getD 0 = z) (q3 : q 3 = td) (n0 : (s.1 td 0).toInt = N) {W : Nat → Int32} (hW : ∀ p, 1 ≤ p → p < N → s.1 (q 7) p = W p) {o : Nat → Int} (ho : ∀ p, 1 ≤ p → p < N → (s.1 z p).toInt = o p) {x2 : Int32} (hx2 : x2.toInt = w) (hw : w < 3) {kA : Int32 → zS → zS} : ∀ (n : Nat) (x : Int32) (i : Nat) (τ : zS), x.toInt = i → 1 ≤ i → 13 - i < n → zFr (fun c _ => c = z) s τ → (∀ p, 1 ≤ p → p < N → (τ.1 z p).toInt = if p < i then vv w (o p) (rk W p N) else o p) → ∃ τ', F_X10_castVotes_17 x2 x0 kA n x τ = kA (x2 + (1 : Int32)) τ' ∧ zFr (fun c _ => c = z) s τ' ∧ ∀ p, 1 ≤ p → p < N → (τ'.1 z p).toInt = vv w (o p) (rk W p N) := by
  have hN := S.1.2.2.2.1
  have o3 : (3 : Int32).toInt = 3 := by decide
  intro n
  induction n with
  | zero => intro x i τ _ _ h; exact absurd h (by omega)
  | succ n ih =>
    intro x i τ hx hi hn f hv
    have Sτ := S.fz hz f
    have rt := f.rf
    have nx : x.toNatClampNeg = i := by rw [ztn, hx]; rfl
    have n0' : (τ.1 td 0).toInt = N := by rw [f.2 td 0 (fun e => hz 3 (by decide) (q3.trans e))]; exact n0
    rw [F_X10_castVotes_17]
    simp only [↓zlt, ↓zlt2, rt, rx.1, rx.2.1, rx.2.2]
    by_cases c : i < N
    · rw [if_pos (by omega)]
      have hW' : ∀ p, 1 ≤ p → p < N → τ.1 (q 7) p = W p := fun p p1 p2 => by rw [f.2 (q 7) p (hz 7 (by decide))]; exact hW p p1 p2
      obtain ⟨v, e1, e2⟩ := cRank Sτ.1.1 Sτ.1.2.2.1 hN zFr.id hW' hx ⟨hi, c⟩
      have rb := rk_le (W := W) (p := i) N
      have v1 : ((3 : Int32) * v).toInt = 3 * (rk W i N : Int) := by rw [zb_mul (by rw [o3]; omega) (by rw [o3]; omega), o3, e2]
      have v2 : ((3 : Int32) * v + x2).toInt = 3 * (rk W i N : Int) + w := by rw [zb_add (by omega) (by omega), v1, hx2]
      rw [e1]
      simp only [rt, rx.2.2, nx]
      have step : ∀ (y : Int32), y.toInt = vv w (o i) (rk W i N) → ∃ τ', F_X10_castVotes_17 x2 x0 kA n (x + (1 : Int32)) (zu τ.1 z i y, τ.2.1, s.2.2) = kA (x2 + (1 : Int32)) τ' ∧ zFr (fun c _ => c = z) s τ' ∧ ∀ p, 1 ≤ p → p < N → (τ'.1 z p).toInt = vv w (o p) (rk W p N) := fun y hy => by
        have f' : zFr (fun c _ => c = z) s (zu τ.1 z i y, τ.2.1, s.2.2) := by
          have k := f.w (r := z) (j := i) (v := y) rfl
          rw [rt] at k
          exact k
        refine ih _ (i + 1) _ (zp1 hx (by omega)) (by omega) (by omega) f' (fun p p1 p2 => ?_)
        show (zu τ.1 z i y z p).toInt = _
        by_cases e : p = i
        · rw [e, zu_s, if_pos (by omega)]
          exact hy
        · rw [zu_j _ _ _ _ _ (fun k => e k.symm), hv p p1 p2]
          by_cases l : p < i
          · rw [if_pos l, if_pos (by omega)]
          · rw [if_neg l, if_neg (by omega)]
      have old := hv i hi c
      rw [if_neg (Nat.lt_irrefl i)] at old
      by_cases w0 : w = 0
      · rw [if_pos (by omega)]
        exact step _ (by
          rw [v2]
          unfold vv
          rw [if_pos w0]
          omega)
      · rw [if_neg (by omega)]
        exact step _ (by
          unfold vv
          rw [if_neg w0]
          by_cases d : o i ≤ 3 * (rk W i N : Int) + w
          · rw [if_pos (show (τ.1 z i).toInt ≤ ((3 : Int32) * v + x2).toInt by omega), if_pos d]
            exact old
          · rw [if_neg (show ¬ (τ.1 z i).toInt ≤ ((3 : Int32) * v + x2).toInt by omega), if_neg d]
            exact v2)
    · rw [if_neg (by omega)]
      exact ⟨τ, rfl, f, fun p p1 p2 => by rw [hv p p1 p2, if_pos (by omega)]⟩
/-- the votes of one law -/
theorem castStep {x0 td : Nat} (S : zSd q Y a b N g u l s t) (Dn : zDn q Y N s t) (FL : ∀ p, p < N → s.1 (q 6) p = t.1 (Y 55) p) (hz : ∀ i, i < 22 → ¬ q i = z) (rx : (s.2.2 x0 2).getD 0 = q 0 ∧ (s.2.2 x0 10).getD 0 = td ∧ (s.2.2 x0 9).getD 0 = z) (q3 : q 3 = td) (n0 : (s.1 td 0).toInt = N) {o : Nat → Int} (ho : ∀ p, 1 ≤ p → p < N → (s.1 z p).toInt = o p) {x2 : Int32} (hx2 : x2.toInt = w) (hw : w < 3) (n : Nat) : ∃ τ, F_X10_castVotes_2 x0 (n + 1) x2 s = F_X10_castVotes_2 x0 n (x2 + (1 : Int32)) τ ∧ zSd q Y a b N g u l τ t ∧ zDn q Y N τ t ∧ (∀ p, p < N → τ.1 (q 6) p = t.1 (Y 55) p) ∧ τ.2.2 = s.2.2 ∧ (τ.1 td 0).toInt = N ∧ ∀ p, 1 ≤ p → p < N → (τ.1 z p).toInt = vv w (o p) (rk (wg (sB N u) (fun p => clM Y b t g w p (t.1 (Y 55) p))) p N) := by
  have E := S.eq Dn
  have hN := S.1.2.2.2.1
  have o3 : (3 : Int32).toInt = 3 := by decide
  obtain ⟨c1, c2, c3⟩ := cWeighA S.1.1 S.1.2.1 S.1.2.2.1 hN S.1.2.2.2.2.2.2.2 hx2 hw (F := fun p => s.1 (q 6) p) zFr.id (fun p _ => rfl)
  obtain ⟨x, hx⟩ : ∃ x, x = F_X5_weigh (q 0) x2 s := ⟨_, rfl⟩
  rw [← hx] at c1 c2 c3
  have c3' : ∀ p, 1 ≤ p → p < N → x.1 (q 7) p = wg (sB N u) (fun p => clM Y b t g w p (t.1 (Y 55) p)) p := fun p p1 p2 => by
    rw [c3 p p1 p2]
    unfold wg
    show (if sB N u p = true then clC q s g w p (s.1 (q 6) p) else -1) = if sB N u p = true then clM Y b t g w p (t.1 (Y 55) p) else -1
    rw [clEq E p2, FL p p2]
  have Sx := S.fr (zRw.up c1) zFr.id
  have Dx := Dn.up1 S.1.1 c1
  have nz : ∀ i, i = 7 ∨ i = 8 ∨ i = 9 → ¬ z = q i := fun i hi e => hz i (by omega) e.symm
  obtain ⟨τ, e1, e2, e3⟩ := castL (kA := F_X10_castVotes_2 x0 n) (x0 := x0) (td := td) Sx hz ⟨by rw [c1.rf]; exact rx.1, by rw [c1.rf]; exact rx.2.1, by rw [c1.rf]; exact rx.2.2⟩ q3 (by rw [← q3, zRw.r (i := 3) S.1.1 c1 (by decide) (by omega), q3]; exact n0) c3' (o := o) (fun p p1 p2 => by
    rw [c2.2 z p (by
      rintro (k | k | k)
      · exact nz 7 (by omega) k
      · exact nz 8 (by omega) k
      · exact nz 9 (by omega) k)]
    exact ho p p1 p2) hx2 hw 10000 1 1 x (by decide) (by omega) (by omega) zFr.id (fun p p1 p2 => by
    rw [if_neg (by omega), c2.2 z p (by
      rintro (k | k | k)
      · exact nz 7 (by omega) k
      · exact nz 8 (by omega) k
      · exact nz 9 (by omega) k)]
    exact ho p p1 p2)
  refine ⟨τ, ?_, Sx.fz hz e2, Dx.fz hz e2, fun p hp => ?_, e2.rf.trans c1.rf, ?_, e3⟩
  · rw [F_X10_castVotes_2]
    simp only [↓zlt, rx.1]
    rw [if_pos (by omega), ← hx]
    exact e1
  · rw [e2.2 (q 6) p (hz 6 (by decide)), c2.2 (q 6) p (by
      rintro (k | k | k)
      · exact S.1.1.n (by decide) (by decide) (by decide) k
      · exact S.1.1.n (by decide) (by decide) (by decide) k
      · exact S.1.1.n (by decide) (by decide) (by decide) k)]
    exact FL p hp
  · rw [e2.2 td 0 (fun e => hz 3 (by decide) (q3.trans e)), ← q3, zRw.r (i := 3) S.1.1 c1 (by decide) (by omega), q3]
    exact n0
/-- who votes so, counted by the class -/
theorem cVotes {x0 td sh : Nat} (S : zSd q Y a b N g u l s t) (rx : (s.2.2 x0 3).getD 0 = q 1 ∧ (s.2.2 x0 10).getD 0 = td ∧ (s.2.2 x0 9).getD 0 = z) (n0 : (s.1 td 0).toInt = N) {f : Nat → Nat} (hf : ∀ p, 1 ≤ p → p < N → ∃ m : Nat, (s.1 z p).toInt = m ∧ m < 64 ∧ m % 3 = f p) {x : Int32} {law : Nat} (hx : x.toInt = law) : ∃ v, F_X10_votesFor x0 x s = (v, s) ∧ v.toInt = vc (sB N u) f law N := by
  have hN := S.1.2.2.2.1
  have lp : ∀ (n : Nat) (y c : Int32) (i : Nat), y.toInt = i → 1 ≤ i → (i ≤ N ∨ i = 1) → 13 - i < n → c.toInt = vc (sB N u) f law i → ∃ v, F_X10_votesFor_4 x0 x n y c s = (v, s) ∧ v.toInt = vc (sB N u) f law (if 1 ≤ N then N else 1) := by
    intro n
    induction n with
    | zero => intro y c i _ _ _ h; exact absurd h (by omega)
    | succ n ih =>
      intro y c i hy hi hi2 hn hc
      have ny : y.toNatClampNeg = i := by rw [ztn, hy]; rfl
      have a8 := S.1.2.2.2.2.2.2.2 y
      rw [show y.toInt.toNat = i by omega] at a8
      have a9 := cIsR (x := y) S.1.1 (zFr.id (σ := s))
      have vb := vc_le (S := sB N u) (g := f) (law := law) i
      rw [F_X10_votesFor_4]
      simp only [↓zlt, ↓zlt2, rx.1, rx.2.1]
      by_cases d : i < N
      · rw [if_pos (by omega)]
        have y1 := zp1 hy (by omega)
        have c1 := zp1 hc (by omega)
        rw [a9]
        simp only [rx.2.2, ny]
        by_cases sx : Src N u i
        · rw [if_neg (fun k => a8.mp k ⟨by omega, sx⟩)]
          obtain ⟨m, m1, m2, m3⟩ := hf i hi d
          have mm := m3' m1 m2
          by_cases e : f i = law
          · rw [if_pos (by rw [mm, hx]; omega)]
            exact ih _ _ (i + 1) y1 (by omega) (by omega) (by omega) (by rw [vc, if_pos ⟨hi, sB_t.mpr sx, e⟩]; exact c1)
          · rw [if_neg (by rw [mm, hx]; omega)]
            exact ih _ _ (i + 1) y1 (by omega) (by omega) (by omega) (by rw [vc, if_neg (fun k => e k.2.2), Nat.add_zero]; exact hc)
        · rw [if_pos (a8.mpr (fun k => sx k.2))]
          exact ih _ _ (i + 1) y1 (by omega) (by omega) (by omega) (by rw [vc, if_neg (fun k => sx (sB_t.mp k.2.1)), Nat.add_zero]; exact hc)
      · rw [if_neg (by omega)]
        refine ⟨c, rfl, ?_⟩
        rw [hc]
        congr 2
        split <;> omega
  unfold F_X10_votesFor
  simp only [zlt]
  obtain ⟨v, e1, e2⟩ := lp 10000 1 0 1 (by decide) (by omega) (Or.inr rfl) (by omega) (by rw [vc_1]; decide)
  exact ⟨v, e1, by rw [e2, vc_N]⟩
end VOTEC
