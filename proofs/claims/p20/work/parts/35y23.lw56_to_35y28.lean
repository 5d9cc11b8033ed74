-- 35y23.lw56
section
/-! MONTHS AHEAD, STILL, counted: reign -/
section STILL3
variable {q Y : Nat → Nat} {a b N z z' : Nat} {s1 s2 t1 t2 z1 z2 : zS} {g : zGl} {u l : Nat → Nat}
theorem zMh.self (M : zMh q Y a b N g u l s1 s2 t1 t2) : zMh q Y a b N g u l t1 t2 t1 t2 := ⟨M.1, M.2.1, M.2.2.1, zFr.id, zFr.id, M.2.2.2.2.2⟩
/-- rows that are none of theirs, written on both sides -/
theorem zMh.fz (hz : ∀ i, i < 22 → ¬ q i = z) (hz' : ∀ j, zYj j → ¬ Y j = z') (ha : ¬ a = z') (M : zMh q Y a b N g u l s1 s2 t1 t2) (f1 : zFr (fun c _ => c = z) t1 z1) (f2 : zFr (fun c _ => c = z') t2 z2) : zMh q Y a b N g u l z1 z2 z1 z2 := by
  obtain ⟨S, Dn, h51, g1, g2, hF⟩ := M
  have L := S.fall Dn (m := 0) (by decide) zFr.id zFr.id
  have S2 := S.fz2 hz' ha f2
  have D2 := Dn.fz2 hz' f2
  have L2 := S2.fall D2 (m := 0) (by decide) zFr.id zFr.id
  refine ⟨S2.fz hz f1, D2.fz hz f1, by rw [f2.2 a 51 ha]; exact h51, zFr.id, zFr.id, fun p hp => ?_⟩
  rw [f1.2 (q 6) p (hz 6 (by decide)), f2.2 (Y 55) p (hz' 55 (by unfold zYj; omega))]
  exact ⟨(hF p hp).1, by rw [(hF p hp).2, ← L.2.2.1 p hp, L2.2.2.1 p hp]⟩
end STILL3
section REIGN
variable {κ : Int} {L1 : List Nat} {kd1 : Nat → Nat} {L2 : List Nat} {kd2 : Nat → Nat} {σ1 σ2 τ1 τ2 s t : zS} {m0 x0 : Nat} {V : zWh} {ps pc sl rv sh cd : Nat} {v1 v2 p r k : Int32} {q Y : Nat → Nat} {B N T Z td : Nat} {gl : zGl} {u l : Nat → Nat} {kA kB : Int32 → zS → Int32 × zS}
theorem reignT {t1 t2 : zS} (rx : (t1.2.2 x0 10).getD 0 = td ∧ (t1.2.2 x0 9).getD 0 = T) (n0 : (t1.1 td 0).toInt = N) (hM : (F_X11_many m0 t2).toInt = N) (hN : N ≤ 12) (rz : (t2.2.2 m0 61).getD 0 = Z) (hE : ∀ j, j < 12 → t1.1 T j = t2.1 Z j ∧ 0 ≤ (t1.1 T j).toInt) (r0 : r.toInt = 0) : ∀ (n : Nat) (x b c : Int32) (i : Nat), x.toInt = i → 1 ≤ i → 13 - i < n → (F_X11_reign_105 m0 k p r kA kB n x b c t2).1 = (F_X10_tallied_4 x0 n x c t1).1 := by
  intro n
  induction n with
  | zero => intro x b c i _ _ h; exact absurd h (by omega)
  | succ n ih =>
    intro x b c i hx hi hn
    have nx : x.toNatClampNeg = i := by rw [ztn, hx]; rfl
    rw [F_X11_reign_105, F_X10_tallied_4]
    simp only [↓zlt, rx.1, rx.2, rz, nx]
    by_cases d : i < N
    · rw [if_pos (show x.toInt < (F_X11_many m0 t2).toInt by omega), if_pos (show x.toInt < (t1.1 td 0).toInt by omega)]
      obtain ⟨e, e0⟩ := hE i (by omega)
      have e' : (t1.1 T i).toInt = (t2.1 Z i).toInt := congrArg Int32.toInt e
      have y1 := zp1 hx (by omega)
      by_cases w : (t2.1 Z i).toInt = 0
      · rw [if_pos w, if_neg (show ¬ 0 < (t1.1 T i).toInt by omega)]
        exact ih _ b c (i + 1) y1 (by omega) (by omega)
      · rw [if_neg w, if_pos (show 0 < (t1.1 T i).toInt by omega)]
        by_cases bb : b.toInt < 0
        · rw [if_pos bb]
          exact ih _ x _ (i + 1) y1 (by omega) (by omega)
        · rw [if_neg bb]
          by_cases w2 : (t2.1 Z b.toNatClampNeg).toInt < (t2.1 Z i).toInt
          · rw [if_pos w2]
            exact ih _ x _ (i + 1) y1 (by omega) (by omega)
          · rw [if_neg w2]
            exact ih _ b _ (i + 1) y1 (by omega) (by omega)
    · rw [if_neg (show ¬ x.toInt < (F_X11_many m0 t2).toInt by omega), if_neg (show ¬ x.toInt < (t1.1 td 0).toInt by omega), if_pos r0]
theorem reignB {t1 t2 : zS} (rx : (t1.2.2 x0 10).getD 0 = td ∧ (t1.2.2 x0 9).getD 0 = T) (n0 : (t1.1 td 0).toInt = N) (hM : (F_X11_many m0 t2).toInt = N) (hN : N ≤ 12) (rz : (t2.2.2 m0 61).getD 0 = Z) (hE : ∀ j, j < 12 → t1.1 T j = t2.1 Z j ∧ 0 ≤ (t1.1 T j).toInt) (r0 : ¬ r.toInt = 0) : ∀ (n : Nat) (x b c : Int32) (i : Nat), x.toInt = i → 1 ≤ i → 13 - i < n → (b.toInt < 0 ∨ ∃ j : Nat, b.toInt = j ∧ j < 12) → (F_X11_reign_105 m0 k p r kA kB n x b c t2).1 = (F_X10_mostTallied_5 x0 n x b t1).1 := by
  have z0 : (0 : Int32).toInt = 0 := by decide
  intro n
  induction n with
  | zero => intro x b c i _ _ h; exact absurd h (by omega)
  | succ n ih =>
    intro x b c i hx hi hn hb
    have nx : x.toNatClampNeg = i := by rw [ztn, hx]; rfl
    rw [F_X11_reign_105, F_X10_mostTallied_5]
    simp only [↓zlt, rx.1, rx.2, rz, nx, z0]
    by_cases d : i < N
    · rw [if_pos (show x.toInt < (F_X11_many m0 t2).toInt by omega), if_pos (show x.toInt < (t1.1 td 0).toInt by omega)]
      obtain ⟨e, e0⟩ := hE i (by omega)
      have e' : (t1.1 T i).toInt = (t2.1 Z i).toInt := congrArg Int32.toInt e
      have y1 := zp1 hx (by omega)
      have bx : x.toInt < 0 ∨ ∃ j : Nat, x.toInt = j ∧ j < 12 := Or.inr ⟨i, hx, by omega⟩
      by_cases w : (t2.1 Z i).toInt = 0
      · rw [if_pos w]
        by_cases bb : b.toInt < 0
        · rw [if_pos bb, if_neg (show ¬ 0 < (t1.1 T i).toInt by omega)]
          exact ih _ b c (i + 1) y1 (by omega) (by omega) hb
        · obtain ⟨j, hj, hj2⟩ := hb.resolve_left bb
          have nb : b.toNatClampNeg = j := by rw [ztn, hj]; rfl
          have ej := (hE j hj2).2
          rw [if_neg bb, nb, if_neg (show ¬ (t1.1 T j).toInt < (t1.1 T i).toInt by omega)]
          exact ih _ b c (i + 1) y1 (by omega) (by omega) hb
      · rw [if_neg w]
        by_cases bb : b.toInt < 0
        · rw [if_pos bb, if_pos bb, if_pos (show 0 < (t1.1 T i).toInt by omega)]
          exact ih _ x _ (i + 1) y1 (by omega) (by omega) bx
        · obtain ⟨j, hj, hj2⟩ := hb.resolve_left bb
          have nb : b.toNatClampNeg = j := by rw [ztn, hj]; rfl
          have ej : (t1.1 T j).toInt = (t2.1 Z j).toInt := congrArg Int32.toInt (hE j hj2).1
          rw [if_neg bb, if_neg bb, nb]
          by_cases w2 : (t2.1 Z j).toInt < (t2.1 Z i).toInt
          · rw [if_pos w2, if_pos (show (t1.1 T j).toInt < (t1.1 T i).toInt by omega)]
            exact ih _ x _ (i + 1) y1 (by omega) (by omega) bx
          · rw [if_neg w2, if_neg (show ¬ (t1.1 T j).toInt < (t1.1 T i).toInt by omega)]
            exact ih _ b _ (i + 1) y1 (by omega) (by omega) hb
    · rw [if_neg (show ¬ x.toInt < (F_X11_many m0 t2).toInt by omega), if_neg (show ¬ x.toInt < (t1.1 td 0).toInt by omega), if_neg r0]
/-- the months gone through, both tallies alike -/
theorem reignL (hz : ∀ i, i < 22 → ¬ q i = T) (hz' : ∀ j, zYj j → ¬ Y j = Z) (ha : ¬ m0 = Z) (rx : (s.2.2 x0 2).getD 0 = q 0 ∧ (s.2.2 x0 10).getD 0 = td ∧ (s.2.2 x0 9).getD 0 = T) (rz : (t.2.2 m0 61).getD 0 = Z) (q3 : q 3 = td) {w : Nat} (hk : k.toInt = w) (hw : w < 3) {D : Nat} (hp : p.toInt = D) (hD : D < 4000) : ∀ (d n n' : Nat) (x : Int32) (i : Nat) (t1 t2 : zS), x.toInt = i → i + d = D → d < n → d < n' → zMh q Y m0 B N gl u l t1 t2 t1 t2 → t1.2.2 = s.2.2 → t2.2.2 = t.2.2 → (t1.1 td 0).toInt = N → (∀ j, j < 12 → t1.1 T j = t2.1 Z j ∧ 0 ≤ (t1.1 T j).toInt ∧ (t1.1 T j).toInt ≤ i) → (F_X10_reign_44 x0 k p r n x t1).1.toInt = (F_X11_reign_56 m0 k p r kA n' x t2).1.toInt := by
  intro d
  induction d with
  | zero =>
    intro n n' x i t1 t2 hx' hi hn hn' M r1 r2 n0 hE
    obtain ⟨n, rfl⟩ : ∃ k, n = k + 1 := ⟨n - 1, by omega⟩
    obtain ⟨n', rfl⟩ : ∃ k, n' = k + 1 := ⟨n' - 1, by omega⟩
    have hN := M.1.1.2.2.2.1
    have hM : (F_X11_many m0 t2).toInt = N := M.1.2.1.2.2.2.2.1
    have hE' : ∀ j, j < 12 → t1.1 T j = t2.1 Z j ∧ 0 ≤ (t1.1 T j).toInt := fun j hj => ⟨(hE j hj).1, (hE j hj).2.1⟩
    have rr : (t1.2.2 x0 10).getD 0 = td ∧ (t1.2.2 x0 9).getD 0 = T := by rw [r1]; exact rx.2
    have rz' : (t2.2.2 m0 61).getD 0 = Z := by rw [r2]; exact rz
    have nlt : ¬ x.toInt < p.toInt := by omega
    rw [F_X10_reign_44, F_X11_reign_56, if_neg nlt, if_neg nlt]
    simp only [↓zlt]
    by_cases r0 : r.toInt = 0
    · rw [if_pos r0, reignT rr n0 hM hN rz' hE' r0 10000 1 (-2) 0 1 (by decide) (by omega) (by omega)]
      unfold F_X10_tallied
      simp only [zlt]
      rfl
    · rw [if_neg r0, reignB rr n0 hM hN rz' hE' r0 10000 1 (-2) 0 1 (by decide) (by omega) (by omega) (Or.inl (by decide))]
      unfold F_X10_mostTallied
      simp only [zlt]
      rfl
  | succ d ih =>
    intro n n' x i t1 t2 hx' hi hn hn' M r1 r2 n0 hE
    obtain ⟨n, rfl⟩ : ∃ k, n = k + 1 := ⟨n - 1, by omega⟩
    obtain ⟨n', rfl⟩ : ∃ k, n' = k + 1 := ⟨n' - 1, by omega⟩
    have nx := zp1 hx' (by omega)
    have keep1 : ∀ {y1 y2 : zS}, zFr (zGw q) y1 y2 → ∀ j, y2.1 T j = y1.1 T j := fun f j => f.2 T j (by
      rintro ((e | e | e | e | e) | e | e | e)
      · exact hz 5 (by decide) e.symm
      · exact hz 6 (by decide) e.symm
      · exact hz 7 (by decide) e.symm
      · exact hz 8 (by decide) e.symm
      · exact hz 9 (by decide) e.symm
      · exact hz 20 (by decide) e.symm
      · exact hz 21 (by decide) e.symm
      · exact hz 4 (by decide) e.1.symm)
    have keep2 : ∀ {y1 y2 : zS}, zFr (zHw Y m0) y1 y2 → ∀ j, y2.1 Z j = y1.1 Z j := fun f j => f.2 Z j (by
      rintro ((e | e | e | e) | e | e)
      · exact hz' 55 (by unfold zYj; omega) e.symm
      · exact hz' 45 (by unfold zYj; omega) e.symm
      · exact hz' 46 (by unfold zYj; omega) e.symm
      · exact ha e.1.symm
      · exact ha e.1.symm
      · exact hz' 49 (by unfold zYj; omega) e.1.symm)
    have go : ∀ (y1 y2 : zS), zMh q Y m0 B N gl u l y1 y2 y1 y2 → y1.2.2 = s.2.2 → y2.2.2 = t.2.2 → (y1.1 td 0).toInt = N → (∀ j, j < 12 → y1.1 T j = y2.1 Z j ∧ 0 ≤ (y1.1 T j).toInt ∧ (y1.1 T j).toInt ≤ (i + 1 : Nat)) → (F_X10_reign_44 x0 k p r n (x + (1 : Int32)) (F_X5_goOn (q 0) y1)).1.toInt = (F_X11_reign_56 m0 k p r kA n' (x + (1 : Int32)) (F_X11_monthGoes m0 y2)).1.toInt := fun y1 y2 My e1 e2 e3 e4 => by
      have Ms := My.step.1
      have f1 := Ms.2.2.2.1
      have f2 := Ms.2.2.2.2.1
      refine ih n n' _ (i + 1) _ _ nx (by omega) (by omega) (by omega) Ms.self (f1.rf.trans e1) (f2.rf.trans e2) ?_ (fun j hj => ?_)
      · rw [← q3, zGw.r My.1.1.1 f1 (i := 3) (by decide) (by omega), q3]
        exact e3
      · rw [keep1 f1, keep2 f2]
        exact e4 j hj
    obtain ⟨x1, y1, ta, ua, a1, a2, a3, a4, M1⟩ := M.win hk hw
    have f1 := M1.2.2.2.1
    have f2 := M1.2.2.2.2.1
    have ra : ta.2.2 = s.2.2 := f1.rf.trans r1
    have ru : ua.2.2 = t.2.2 := f2.rf.trans r2
    have n1 : (ta.1 td 0).toInt = N := by
      rw [← q3, zGw.r M.1.1.1 f1 (i := 3) (by decide) (by omega), q3]
      exact n0
    have hE1 : ∀ j, j < 12 → ta.1 T j = ua.1 Z j ∧ 0 ≤ (ta.1 T j).toInt ∧ (ta.1 T j).toInt ≤ i := fun j hj => by
      rw [keep1 f1, keep2 f2]
      exact hE j hj
    have xlt : x.toInt < p.toInt := by omega
    rw [F_X10_reign_44, F_X11_reign_56, if_pos xlt, if_pos xlt]
    simp only [↓zlt, ↓zlt2, r1, rx.1, a1, a2, ra, rx.2.2, ru, rz]
    by_cases e1 : 0 < x1.toInt
    · rw [if_pos e1, if_neg (show ¬ y1.toInt < 0 by omega)]
      obtain ⟨j0, hj0⟩ : ∃ j0 : Nat, x1.toInt = j0 := ⟨x1.toInt.toNat, by omega⟩
      have c1 : x1.toNatClampNeg = j0 := by rw [ztn, hj0]; rfl
      have c2 : y1.toNatClampNeg = j0 := by rw [ztn, ← a3, hj0]; rfl
      rw [c1, c2]
      have g1 : zFr (fun c _ => c = T) ta (zu ta.1 T j0 (ta.1 T j0 + (1 : Int32)), ta.2.1, s.2.2) := by
        have k := (zFr.id (A := fun c _ => c = T) (σ := ta)).w (r := T) (j := j0) (v := ta.1 T j0 + (1 : Int32)) rfl
        rw [ra] at k
        exact k
      have g2 : zFr (fun c _ => c = Z) ua (zu ua.1 Z j0 (ua.1 Z j0 + (1 : Int32)), ua.2.1, t.2.2) := by
        have k := (zFr.id (A := fun c _ => c = Z) (σ := ua)).w (r := Z) (j := j0) (v := ua.1 Z j0 + (1 : Int32)) rfl
        rw [ru] at k
        exact k
      refine go _ _ (M1.fz hz hz' ha g1 g2) rfl rfl ?_ (fun j hj => ?_)
      · show (zu ta.1 T j0 (ta.1 T j0 + (1 : Int32)) td 0).toInt = N
        rw [zu_n _ _ _ (fun e => hz 3 (by decide) (q3.trans e))]
        exact n1
      · show zu ta.1 T j0 (ta.1 T j0 + (1 : Int32)) T j = zu ua.1 Z j0 (ua.1 Z j0 + (1 : Int32)) Z j ∧ 0 ≤ (zu ta.1 T j0 (ta.1 T j0 + (1 : Int32)) T j).toInt ∧ (zu ta.1 T j0 (ta.1 T j0 + (1 : Int32)) T j).toInt ≤ (i + 1 : Nat)
        obtain ⟨h1, h2, h3⟩ := hE1 j hj
        by_cases e : j0 = j
        · rw [e, zu_s, zu_s, h1]
          have o1 : (1 : Int32).toInt = 1 := by decide
          have h1' : (ta.1 T j).toInt = (ua.1 Z j).toInt := congrArg Int32.toInt h1
          have h4 : (ua.1 Z j + (1 : Int32)).toInt = (ua.1 Z j).toInt + 1 := by rw [zb_add (by rw [o1]; omega) (by rw [o1]; omega), o1]
          refine ⟨rfl, by omega, by omega⟩
        · rw [zu_j _ _ _ _ _ e, zu_j _ _ _ _ _ e]
          exact ⟨h1, h2, by omega⟩
    · rw [if_neg e1, if_pos (show y1.toInt < 0 by omega)]
      exact go _ _ M1.self ra ru n1 (fun j hj => by
        obtain ⟨h1, h2, h3⟩ := hE1 j hj
        exact ⟨h1, h2, by omega⟩)
/-- a row of a kind that the river doesn't write -/
theorem formT {kT : Nat} (h : zRv L1 kd1 x0 rv sh cd s.2.2) (hT : zT L1 kd1 T kT) (hk : kT = 9 ∨ (46 ≤ kT ∧ kT ≤ 51) ∨ kT = 53) (t a : Nat) : (F_X5_form rv t a s).1 T = s.1 T := by
  obtain ⟨⟨a1, a2, a3, a4⟩, ⟨t0, t1, t2, t3⟩, b, c, d, e, f⟩ := h
  obtain ⟨y, hy⟩ : ∃ y : zS, y = (s.1, s.2.1, zu (zu s.2.2 rv 5 (some t)) rv 6 (some a)) := ⟨_, rfl⟩
  have ns : ¬ sh = rv := zNk t2 t1 (by decide)
  have g0 : (y.2.2 rv 0).getD 0 = sh := by
    rw [hy]
    show (zu (zu s.2.2 rv 5 _) rv 6 _ rv 0).getD 0 = sh
    rw [zu_j _ _ _ _ _ (by decide), zu_j _ _ _ _ _ (by decide), a3]
    rfl
  have E : F_X5_form rv t a s = F_X6_form sh t a y := by
    rw [← g0, hy]
    unfold F_X5_form
    simp only [zlt]
  have sj : ∀ j, (y.2.2 sh j) = s.2.2 sh j := fun j => by
    rw [hy]
    show zu (zu s.2.2 rv 5 _) rv 6 _ sh j = _
    rw [zu_n _ _ _ ns, zu_n _ _ _ ns]
  have n : ∀ {c k : Nat}, zT L1 kd1 c k → k ≠ kT → ¬ c = T := fun hc hk => zNk hc hT hk
  have P : zFr (fun c _ => ¬ c = T) y (F_X6_form sh t a y) := fr_X6_form zFr.id (n t2 (by omega)) (fun _ => by rw [sj]; exact n (d 1 (by omega) (by omega)) (by omega)) (fun _ => by rw [sj]; exact n (d 2 (by omega) (by omega)) (by omega)) (fun _ => by rw [sj]; exact n (d 3 (by omega) (by omega)) (by omega)) (fun _ => by rw [sj]; exact n (d 6 (by omega) (by omega)) (by omega)) (fun _ => by rw [sj]; exact n (d 4 (by omega) (by omega)) (by omega))
  rw [E]
  refine (funext (fun j => P.2 T j (fun z => z rfl))).trans ?_
  rw [hy]
/-- the tried course, looked at, still; from a state that is now but for rows beside -/
theorem zRL.stillS (h : zRL zQw L1 kd1 x0 m0 V ps pc sl rv sh cd σ1 σ2) (hw : 0 < zM m0 σ2 → zLw x0 m0 σ1 σ2) (hl : zLen x0 m0 σ1 σ2) (hx : zT L1 kd1 x0 10) (hI : zI κ 0 L1 kd1 σ1) (hJ : zJ κ L2 kd2 σ2) (hm : zT L2 kd2 m0 11) (hg : gN m0 σ2) (gs : zPv L1 kd1 V rv σ1 s) (hes : ∀ c kc, zT L1 kd1 c kc → (kc = 9 ∨ (46 ≤ kc ∧ kc ≤ 51)) → s.1 c = σ1.1 c) : ∃ (td B N : Nat) (gl : zGl) (u l : Nat → Nat) (q Y : Nat → Nat), σ1.2.2 x0 10 = some td ∧ zM m0 σ2 = N ∧ (q = qOf σ1.2.2 rv sh cd td V 1 ∧ Y = mR σ2 m0) ∧ (∀ j, (F_X10_tryFromNow x0 s).2.2 x0 j = σ1.2.2 x0 j) ∧ ((F_X10_tryFromNow x0 s).1 td 0).toInt = N ∧ (∀ T, zT L1 kd1 T 53 → (F_X10_tryFromNow x0 s).1 T = s.1 T) ∧ zMh q Y m0 B N gl u l (F_X10_tryFromNow x0 s) (F_X11_copiesStill m0 σ2) (F_X10_tryFromNow x0 s) (F_X11_copiesStill m0 σ2) := by
  have hL := h.1
  have hV := h.2.1
  obtain ⟨T1, T2, T3, td, B, N, gl, u, l, d1, n2, eF, M⟩ := h.tried hw hl hx hI hJ hm hg (s := s) gs hes
  have g10 : (σ1.2.2 x0 10).getD 0 = td := by rw [d1]; rfl
  obtain ⟨td9, d9, t9⟩ := zi_ref (j := 10) (k2 := 9) hI hx (by rfl)
  obtain rfl : td9 = td := Option.some.inj (d9.symm.trans d1)
  have g7 : (σ1.2.2 x0 7).getD 0 = V.1 1 := by rw [hL.1.2.1]; rfl
  have g6 : (σ1.2.2 x0 6).getD 0 = V.1 0 := by rw [hL.1.1]; rfl
  have nr : ∀ j, ¬ (x0 = rv ∧ (j = 5 ∨ j = 6)) := fun j z => zNk hx hV.2.1.2.1 (by decide) z.1
  have sx : ∀ j, s.2.2 x0 j = σ1.2.2 x0 j := fun j => gs.1 x0 j (nr j)
  have cx : ∀ j, (F_X1_copy (V.1 1) (V.1 0) s).2.2 x0 j = σ1.2.2 x0 j := fun j => T1 x0 j (nr j)
  have eT : F_X10_tryFromNow x0 s = F_X5_fall rv 0 (F_X5_form rv td9 (V.1 1) (F_X1_copy (V.1 1) (V.1 0) s)) := by
    unfold F_X10_tryFromNow F_X5_look
    simp only [zlt, sx, g7, g6, cx, xrv hV, g10]
  have eS : F_X11_copiesStill m0 σ2 = (zu (F_X11_copies m0 σ2).1 m0 51 1, (F_X11_copies m0 σ2).2) := by
    unfold F_X11_copiesStill
    simp only [zlt]
  have St := M.still
  have hVc : zRv L1 kd1 x0 rv sh cd (F_X1_copy (V.1 1) (V.1 0) s).2.2 := zRv.keep (V := V) (s := (σ1.1, (F_X1_copy (V.1 1) (V.1 0) s).2)) hV ⟨T1, fun _ _ => rfl⟩
  have LF := (M.1.fall M.2.1 (m := 0) (by decide) zFr.id zFr.id).1
  refine ⟨td9, B, N, gl, u, l, _, _, d1, n2, ⟨rfl, rfl⟩, fun j => ?_, ?_, fun T hT => ?_, by rw [eT, eS]; exact St⟩
  · rw [eT]
    have e1 : (F_X5_fall rv 0 (F_X5_form rv td9 (V.1 1) (F_X1_copy (V.1 1) (V.1 0) s))).2.2 = (F_X5_form rv td9 (V.1 1) (F_X1_copy (V.1 1) (V.1 0) s)).2.2 := LF.rf
    rw [e1, (zForm (V := V) hVc td9 (V.1 1)).1.1 x0 j (nr j)]
    exact cx j
  · obtain ⟨N', -, -, ⟨n3, n4, -⟩, -⟩ := h.2.2
    rw [g10] at n3
    have e1 : (F_X5_fall rv 0 (F_X5_form rv td9 (V.1 1) (F_X1_copy (V.1 1) (V.1 0) s))).1 td9 = (F_X5_form rv td9 (V.1 1) (F_X1_copy (V.1 1) (V.1 0) s)).1 td9 := zRw.r (i := 3) M.1.1.1 LF (by decide) (by omega)
    rw [eT, e1, eF]
    omega
  · have hLs := hL.pv hV.2.1.2.1 gs
    obtain ⟨-, -, -, c4⟩ := zCopy hLs (k := 1) (q := 0) (by decide) (by decide)
    obtain ⟨⟨tA, tI, tW, tM⟩, -⟩ := hL.2.2.2.1 1 (by decide)
    have e1 : (F_X5_fall rv 0 (F_X5_form rv td9 (V.1 1) (F_X1_copy (V.1 1) (V.1 0) s))).1 T = (F_X5_form rv td9 (V.1 1) (F_X1_copy (V.1 1) (V.1 0) s)).1 T := funext (fun j => LF.2 T j (by
      have TT := qOf.t hL hV t9 (zTt_k hI t9) (k := 1) (by decide)
      rintro (e | e | e | e | e)
      · exact zNk hT (TT 5 (by decide)) (by decide) e
      · exact zNk hT (TT 6 (by decide)) (by decide) e
      · exact zNk hT (TT 7 (by decide)) (by decide) e
      · exact zNk hT (TT 8 (by decide)) (by decide) e
      · exact zNk hT (TT 9 (by decide)) (by decide) e))
    rw [eT, e1, formT hVc hT (by omega)]
    refine c4 T ?_
    rintro (e | e | e | e)
    · exact zNk hT tA (by decide) e
    · exact zNk hT tI (by decide) e
    · exact zNk hT tW (by decide) e
    · exact zNk hT tM (by decide) e
/-- the reference's tally made empty -/
theorem mTallyL (h61 : (t.2.2 m0 61).getD 0 = Z) : ∀ (d n : Nat) (x : Int32) (i : Nat) (τ : zS), x.toInt = i → i + d = 12 → d < n → zFr (fun c _ => c = Z) t τ → (∀ j, j < i → τ.1 Z j = 0) → ∃ (τ' : zS) (kA : Int32 → zS → Int32 × zS), F_X11_reign_32 m0 k p r n x τ = F_X11_reign_56 m0 k p r kA 4294967299 0 τ' ∧ zFr (fun c _ => c = Z) t τ' ∧ ∀ j, j < 12 → τ'.1 Z j = 0 := by
  have e12 : (12 : Int32).toInt = 12 := by decide
  intro d
  induction d with
  | zero =>
    intro n x i τ hx hi hn f hv
    obtain ⟨n, rfl⟩ : ∃ k, n = k + 1 := ⟨n - 1, by omega⟩
    rw [F_X11_reign_32]
    simp only [↓zlt, e12]
    rw [if_neg (by omega)]
    exact ⟨τ, _, rfl, f, fun j hj => hv j (by omega)⟩
  | succ d ih =>
    intro n x i τ hx hi hn f hv
    obtain ⟨n, rfl⟩ : ∃ k, n = k + 1 := ⟨n - 1, by omega⟩
    have nx : x.toNatClampNeg = i := by rw [ztn, hx]; rfl
    rw [F_X11_reign_32]
    simp only [↓zlt, e12, f.rf, h61, nx]
    rw [if_pos (by omega)]
    have f' : zFr (fun c _ => c = Z) t (zu τ.1 Z i 0, τ.2.1, t.2.2) := by
      have k := f.w (r := Z) (j := i) (v := (0 : Int32)) rfl
      rw [f.rf] at k
      exact k
    refine ih n _ (i + 1) _ (zp1 hx (by omega)) (by omega) (by omega) f' (fun j hj => ?_)
    show zu τ.1 Z i 0 Z j = 0
    by_cases e : i = j
    · rw [e, zu_s]
    · rw [zu_j _ _ _ _ _ e]
      exact hv j (by omega)
theorem zRL.reign (h : zRL zQw L1 kd1 x0 m0 V ps pc sl rv sh cd σ1 σ2) (hw : 0 < zM m0 σ2 → zLw x0 m0 σ1 σ2) (hl : zLen x0 m0 σ1 σ2) (hx : zT L1 kd1 x0 10) (hI : zI κ 0 L1 kd1 σ1) (hJ : zJ κ L2 kd2 σ2) (hm : zT L2 kd2 m0 11) (hg : gN m0 σ2) (f1 : (v1, τ1) = F_X10_reign x0 k p r σ1) (f2 : (v2, τ2) = F_X11_reign m0 k p r σ2) : v1.toInt = v2.toInt := by
  have hL := h.1
  have hV := h.2.1
  have e0 : (0 : Int32).toInt = 0 := by decide
  have o1 : (1 : Int32).toInt = 1 := by decide
  have o2 : (2 : Int32).toInt = 2 := by decide
  have o24 : (24 : Int32).toInt = 24 := by decide
  obtain ⟨T, hT⟩ : ∃ T, (σ1.2.2 x0 9).getD 0 = T := ⟨_, rfl⟩
  have tT : zT L1 kd1 T 53 := by rw [← hT]; exact hV.2.2.2.2.2.1
  obtain ⟨y, hy⟩ : ∃ y, y = zfil σ1 T 0 12 := ⟨_, rfl⟩
  have yT : ∀ c, c ≠ T → y.1 c = σ1.1 c := fun c hc => by
    rw [hy]
    exact if_neg hc
  have yZ : ∀ j, j < 12 → y.1 T j = 0 := fun j hj => by
    rw [hy]
    show (if T = T then (fun j => if j < 12 then (0 : Int32) else σ1.1 T j) else σ1.1 T) j = 0
    rw [if_pos rfl, if_pos hj]
  have gs : zPv L1 kd1 V rv σ1 y := ⟨fun _ _ _ => by rw [hy]; rfl, fun c hc => yT c (fun e => by
    rw [e] at hc
    exact nPc tT (by decide) hc)⟩
  obtain ⟨td, B, N, gl, u, l, q, Y, d1, n2, ⟨hq, hY⟩, xr, n0, kT, M⟩ := h.stillS hw hl hx hI hJ hm hg gs (fun c kc hc hk => yT c (zNk hc tT (by omega)))
  obtain ⟨td9, d9, t9⟩ := zi_ref (j := 10) (k2 := 9) hI hx (by rfl)
  obtain rfl : td9 = td := Option.some.inj (d9.symm.trans d1)
  unfold F_X10_reign at f1
  unfold F_X11_reign at f2
  simp only [zlt, zlt2, cLaw, mLaw, cWithin, mSome, mIn, e0, o1, o2, o24, hT, ← hy] at f1 f2
  by_cases A : 0 ≤ k.toInt ∧ k.toInt ≤ 2
  · rw [if_neg (fun z => z A)] at f1 f2
    by_cases C : 1 ≤ p.toInt ∧ p.toInt ≤ 24
    · rw [if_neg (fun z => z C)] at f1 f2
      by_cases E : 0 ≤ r.toInt ∧ r.toInt ≤ 1
      · rw [if_neg (fun z => z E)] at f1 f2
        obtain ⟨D, hD⟩ : ∃ D : Nat, p.toInt = D := ⟨p.toInt.toNat, by omega⟩
        obtain ⟨w, hk⟩ : ∃ w : Nat, k.toInt = w := ⟨k.toInt.toNat, by omega⟩
        obtain ⟨s, hs⟩ : ∃ s, s = F_X10_tryFromNow x0 y := ⟨_, rfl⟩
        obtain ⟨t, ht⟩ : ∃ t, t = F_X11_copiesStill m0 σ2 := ⟨_, rfl⟩
        rw [← hs] at f1 M xr n0 kT
        rw [← ht] at f2 M
        have q0 : q 0 = rv := by rw [hq]; rfl
        have q3 : q 3 = td9 := by rw [hq]; rfl
        have TT : ∀ i, i < 22 → zT L1 kd1 (q i) (qK i) := by
          rw [hq]
          exact qOf.t hL hV t9 (zTt_k hI t9) (k := 1) (by decide)
        have hz : ∀ i, i < 22 → ¬ q i = T := fun i hi => zNk (TT i hi) tT (by
          have : ∀ i, i < 22 → qK i ≠ 53 := by decide
          exact this i hi)
        have tr : t.2.2 = σ2.2.2 := by
          rw [ht]
          have cp := (zCopies2 hJ hm).1
          unfold F_X11_copiesStill
          simp only [zlt]
          rw [cp]
        obtain ⟨Z, hZ⟩ : ∃ Z, mR σ2 m0 61 = Z := ⟨_, rfl⟩
        have z61 : (t.2.2 m0 61).getD 0 = Z := by rw [tr, ← hZ]
        have tZ : zT L2 kd2 Z 161 := by
          rw [← hZ]
          exact mR_t hJ hm (by rfl)
        have hz' : ∀ j, zYj j → ¬ Y j = Z := fun j hj => by
          rw [hY, ← hZ]
          refine mR_ne hJ hm (s := j) (s' := 61) (k := 100 + j) (k' := 161) (zYj_k hj).1 (by rfl) ?_
          unfold zYj at hj
          omega
        have ha : ¬ m0 = Z := fun e => mR_m hJ hm (s := 61) (k := 161) (by rfl) (by decide) (hZ.trans e.symm)
        obtain ⟨t', kA, b1, b2, b3⟩ := mTallyL (m0 := m0) (k := k) (p := p) (r := r) z61 12 10000 0 0 t (by decide) (by omega) (by omega) zFr.id (fun j hj => absurd hj (by omega))
        rw [b1] at f2
        have g10 : (σ1.2.2 x0 10).getD 0 = td9 := by rw [d1]; rfl
        have Mz := M.fz hz hz' ha zFr.id b2
        have R := reignL (x0 := x0) (kA := kA) (s := s) (t := t') (r := r) hz hz' ha (td := td9) ⟨by rw [xr, q0]; exact xrv hV, by rw [xr]; exact g10, by rw [xr]; exact hT⟩ (by rw [b2.rf]; exact z61) q3 hk (by omega) hD (by omega) D 4294967299 4294967299 0 0 s t' (by decide) (by omega) (by omega) (by omega) Mz rfl rfl n0 (fun j hj => by
          rw [kT T tT, yZ j hj, b3 j hj]
          exact ⟨rfl, by decide, by decide⟩)
        rw [show v1 = _ from congrArg Prod.fst f1, show v2 = _ from congrArg Prod.fst f2]
        exact R
      · rw [if_pos E] at f1 f2
        rw [(zPr2 f1).1, (zPr2 f2).1]
    · rw [if_pos C] at f1 f2
      rw [(zPr2 f1).1, (zPr2 f2).1]
  · rw [if_pos A] at f1 f2
    rw [(zPr2 f1).1, (zPr2 f2).1]
theorem zRP.reign (h : zRP κ L1 kd1 L2 kd2 x0 m0 σ1 σ2) (hI : zI κ 0 L1 kd1 σ1) (hJ : zJ κ L2 kd2 σ2) (hx : zT L1 kd1 x0 10) (hm : zT L2 kd2 m0 11) (hg : gN m0 σ2) (f1 : (v1, τ1) = F_X10_reign x0 k p r σ1) (f2 : (v2, τ2) = F_X11_reign m0 k p r σ2) : v1.toInt = v2.toInt := by
  obtain ⟨V, ps, pc, sl, rv, sh, cd, hR⟩ := h.2.2
  exact hR.reign h.2.1 h.1.2 hx hI hJ hm hg f1 f2
end REIGN
end
-- 35y24.lw57
section
/-! DAMS TRIED, who wins then: damFor -/
section DAMT
variable {q Y : Nat → Nat} {a b N : Nat} {s1 s t τ : zS} {g : zGl} {u l : Nat → Nat} {mask D : Int32}
theorem damEq (S : zSd q Y a b N g u l s1 s) (Dn : zDn q Y N s1 s) (f : zFr (zD4 Y) s τ) (hv : ∀ c, 1 ≤ c → c < N → τ.1 (Y 49) (12 + c) = if bt mask c = true then 1 else s.1 (Y 49) (12 + c)) (hD : ∀ c, 1 ≤ c → c < N → bt D c = (bt (s1.1 (q 4) 3) c || bt mask c)) : zEq q Y b N D s1 τ := by
  have E := S.eq Dn
  have b1 := S.2.1.1
  have hN := S.1.2.2.2.1
  refine ⟨fun p f' hp => ?_, fun c c1 c2 => ?_⟩
  · rw [E.1 p f' hp, fMt.d4 b1 f (by omega)]
  · have k := E.2 c c1 c2
    rw [dmC_b (by omega)] at k
    rw [dmC_b (by omega), hD c c1 c2, k]
    unfold dmM
    rw [hv c c1 c2]
    by_cases m : bt mask c = true
    · rw [m, if_pos rfl, Bool.or_true]
      decide
    · rw [if_neg m, show bt mask c = false by simpa using m, Bool.or_false]
theorem zD4.is (h : zYm Y a s.2.2) (f : zFr (zD4 Y) s t) {x : Int32} : F_X11_isSource a x t = F_X11_isSource a x s := by
  have g54 := (h.1 54 (by unfold zYj; omega)).1
  have x54 : t.1 (Y 54) = s.1 (Y 54) := zD4.r h f (by unfold zYj; omega) (by decide)
  unfold F_X11_isSource F_X11_isBeside
  simp only [zlt, f.rf, g54, x54, zD4.m h f]
end DAMT
section DAMFOR
variable {κ : Int} {L1 : List Nat} {kd1 : Nat → Nat} {L2 : List Nat} {kd2 : Nat → Nat} {σ1 σ2 τ1 τ2 s t x ρ : zS} {m0 x0 : Nat} {V : zWh} {ps pc sl rv sh cd td N : Nat} {v1 v2 p r k mask D : Int32} {q Y : Nat → Nat}
/-- what the river writes when dams are tried -/
def zQ6 (q : Nat → Nat) : Nat → Nat → Prop := fun c _ => c = q 6 ∨ c = q 7 ∨ c = q 8 ∨ c = q 9
theorem zQ6.up (f : zFr (zQ6 q) s t) : zFr (zRw q) s t := zFr.up f (fun _ _ z => Or.inr z)
/-- the flows and the winners with dams tried, alike -/
theorem zRL.damS (h : zRL zQw L1 kd1 x0 m0 V ps pc sl rv sh cd σ1 σ2) (hw : 0 < zM m0 σ2 → zLw x0 m0 σ1 σ2) (hl : zLen x0 m0 σ1 σ2) (hx : zT L1 kd1 x0 10) (hI : zI κ 0 L1 kd1 σ1) (hJ : zJ κ L2 kd2 σ2) (hm : zT L2 kd2 m0 11) (hg : gN m0 σ2) (d1 : σ1.2.2 x0 10 = some td) (n2 : zM m0 σ2 = N) (hq : q = qOf σ1.2.2 rv sh cd td V 0) (hY : Y = mR σ2 m0) (eL : F_X5_look rv td (V.1 0) σ1 = F_X10_look x0 σ1) (fx : zFr (zQ6 q) (F_X10_look x0 σ1) x) (r1 : ρ.2 = σ2.2) (r2 : zFr (zFm [50, 51, 47] [49, 54, 52, 53, 45, 46, 55] m0 σ2.2.2) σ2 ρ) (hD : ∀ c, 1 ≤ c → c < N → bt D c = (bt ((F_X10_look x0 σ1).1 (V.1 0) 3) c || bt mask c)) {w : Nat} (hk : k.toInt = w) (hw3 : w < 3) : (∀ p, p < N → (F_X5_run rv D x).1 (q 6) p = (F_X11_damsAll m0 mask ρ).1 (Y 55) p) ∧ zFr (zQ6 q) (F_X10_look x0 σ1) (F_X5_run rv D x) ∧ ((F_X11_damsAll m0 mask ρ).2 = σ2.2 ∧ zFr (zFm [50, 51, 47] [49, 54, 52, 53, 45, 46, 55] m0 σ2.2.2) σ2 (F_X11_damsAll m0 mask ρ)) ∧ ∃ xw yw za zb, F_X5_winnerBy rv k (F_X5_run rv D x) = (xw, za) ∧ F_X11_winnerBy m0 k (F_X11_damsAll m0 mask ρ) = (yw, zb) ∧ xw.toInt = yw.toInt ∧ zFr (zQ6 q) (F_X10_look x0 σ1) za ∧ zb.2 = σ2.2 ∧ zFr (zFm [50, 51, 47] [49, 54, 52, 53, 45, 46, 55] m0 σ2.2.2) σ2 zb := by
  have q0 : q 0 = rv := by rw [hq]; rfl
  have q4 : q 4 = V.1 0 := by rw [hq]; rfl
  have lookF : F_X10_look x0 σ1 = F_X5_fall rv 0 (F_X5_form rv td (V.1 0) σ1) := by
    rw [← eL]
    unfold F_X5_look
    simp only [zlt]
  obtain ⟨td2, B, N2, gl, u, l, d2, n2', -, M⟩ := zSd.ofM zGd.q1 (fun _ _ _ h => h) h hw hl hx hI hJ hm hg r1 r2 (s0 := σ1) (fun _ _ _ => rfl) (fun _ _ _ _ => rfl) (k := 0) (by decide) rfl
  obtain rfl : td2 = td := Option.some.inj (d2.symm.trans d1)
  obtain rfl : N2 = N := by omega
  have LK0 := M.look
  have LK : zNw q Y m0 B N2 gl u l (F_X10_look x0 σ1) (F_X11_copies m0 ρ) := by
    rw [lookF, hq, hY]
    exact LK0
  clear LK0 M
  obtain ⟨S2, D2, F2, R2⟩ := LK
  obtain ⟨s, hs⟩ : ∃ s, s = F_X10_look x0 σ1 := ⟨_, rfl⟩
  rw [← hs] at S2 D2 F2 R2 fx hD ⊢
  obtain ⟨t1, ht1⟩ : ∃ t1, t1 = F_X11_copies m0 ρ := ⟨_, rfl⟩
  rw [← ht1] at S2 D2 F2
  have hN12 := S2.1.2.2.2.1
  have hQ := S2.1.1
  have fx' := zQ6.up fx
  have n6 : ∀ {i j : Nat}, i < 22 → i < 6 ∨ 9 < i → ¬ zQ6 q (q i) j := fun hi hn => by
    rintro (z | z | z | z)
    · exact hQ.n hi (by decide) (by omega) z
    · exact hQ.n hi (by decide) (by omega) z
    · exact hQ.n hi (by decide) (by omega) z
    · exact hQ.n hi (by decide) (by omega) z
  have Sx := S2.fr (zRw.up fx') zFr.id
  have Dx := D2.up1 hQ fx'
  have Rx : ∀ p, p < N2 → x.1 (q 5) p = rCl q x gl 0 p := fun p hp => by
    rw [fx.2 (q 5) p (n6 (by decide) (by omega)), R2 p hp]
    unfold rCl vCl
    rw [show fCt q x (pI p) 0 = fCt q s (pI p) 0 from fCt.cg (fun i hi => zRw.r hQ fx' (by omega) (by omega))]
  obtain ⟨τ, e1, e2, e3⟩ := mDams (mask := mask) Sx 10000 1 1 t1 (by decide) (by omega) (by omega) zFr.id (fun c c1 c2 => by rw [if_neg (by omega)])
  have eA : F_X11_damsAll m0 mask ρ = F_X11_fillsFlows m0 0 τ := by
    unfold F_X11_damsAll
    simp only [zlt]
    rw [← ht1]
    exact e1
  have hD' : ∀ c, 1 ≤ c → c < N2 → bt D c = (bt (x.1 (q 4) 3) c || bt mask c) := fun c c1 c2 => by rw [hD c c1 c2, fx.2 (q 4) 3 (n6 (by decide) (by omega)), q4]
  have DF := damFlow Sx Dx Rx (D := D) e2 e3 hD'
  have E' := damEq Sx Dx e2 e3 hD'
  obtain ⟨y, hy⟩ : ∃ y, y = F_X5_run rv D x := ⟨_, rfl⟩
  obtain ⟨t, ht⟩ : ∃ t, t = F_X11_fillsFlows m0 0 τ := ⟨_, rfl⟩
  obtain ⟨y1, y2, -, -⟩ := cRun (D := D) Sx.1.1 Sx.1.2.1 Sx.1.2.2.1 hN12 Sx.1.2.2.2.2.1 Sx.1.2.2.2.2.2.1 Sx.1.2.2.2.2.2.2.1 zFr.id Rx (fun p _ => rCl_b (by decide))
  rw [q0, ← hy] at y1 y2
  rw [q0, ← hy, ← ht] at DF
  rw [eA, ← hy, ← ht]
  have fy : zFr (zQ6 q) s y := fx.tr (zFr.up y2 (fun c j z => by
    rcases z with z | z | z
    · exact Or.inl z
    · exact Or.inr (Or.inr (Or.inl z))
    · exact Or.inr (Or.inr (Or.inr z))))
  -- the reference
  have hYτ : zYm Y m0 τ.2.2 := by rw [e2.rf]; exact Sx.2.1.1
  have ge := fun j (hj : zYj j) => (hYτ.1 j hj).1
  have ft : zFr (zVw Y m0) τ t := by
    rw [ht]
    exact fr_X11_fillsFlows zFr.id (fun _ => Or.inr (Or.inl (ge 45 (by unfold zYj; omega)))) (Or.inr (Or.inr (Or.inr ⟨rfl, rfl⟩))) (fun _ => Or.inr (Or.inr (Or.inl (ge 46 (by unfold zYj; omega))))) (fun _ => Or.inl (ge 55 (by unfold zYj; omega)))
  have fA : zFr (zFm [50, 51, 47] [49, 54, 52, 53, 45, 46, 55] m0 ρ.2.2) ρ (F_X11_damsAll m0 mask ρ) := fr_X11_damsAll zFr.id (zFm.s rfl) (zFm.f rfl) (zFm.f rfl) (zFm.s rfl) (zFm.s rfl) (zFm.s rfl) (zFm.s rfl) (zFm.f rfl) (zFm.s rfl) (zFm.s rfl)
  have ρr : ρ.2.2 = σ2.2.2 := by rw [r1]
  rw [eA, ← ht, ρr] at fA
  have t2 : t.2 = σ2.2 := fA.1.trans r1
  have fT := r2.tr fA
  refine ⟨DF, fy, ⟨t2, fT⟩, ?_⟩
  obtain ⟨xw, za, x1, x2, -, x4, -⟩ := cWin Sx.1.1 Sx.1.2.1 Sx.1.2.2.1 hN12 Sx.1.2.2.2.2.2.2.2 hk hw3 (F := fun p => y.1 (q 6) p) y1 (fun p _ => rfl)
  obtain ⟨yw, zb, w1, w2, -, w4⟩ := mWin hYτ (by rw [zD4.fl Sx.2.1.1 e2]; exact Sx.2.1.2.1) Sx.2.1.2.2.1 (fun hN => (Sx.2.1.2.2.2.1 hN).cg (fun j hj => zD4.r Sx.2.1.1 e2 (by unfold zYj; omega) (by omega))) (by rw [zD4.m Sx.2.1.1 e2]; exact Sx.2.1.2.2.2.2.1) hN12 (fun z => by rw [zD4.is Sx.2.1.1 e2]; exact Sx.2.1.2.2.2.2.2.2.2 z) hk hw3 (F := fun p => t.1 (Y 55) p) ft (fun p _ => rfl)
  refine ⟨xw, yw, za, zb, by rw [← q0]; exact x1, w1, ?_, fy.tr (zFr.up x4 (fun c j z => by
    rcases z with z | z | z
    · exact Or.inr (Or.inl z)
    · exact Or.inr (Or.inr (Or.inl z))
    · exact Or.inr (Or.inr (Or.inr z)))), w4.1.trans t2, fT.tr (zFr.up w4 (fun c j z => by
    rcases z with z | z | z
    · exact Or.inr ⟨45, by decide, by rw [hY] at z; exact z⟩
    · exact Or.inr ⟨46, by decide, by rw [hY] at z; exact z⟩
    · exact Or.inl ⟨z.1, by rw [z.2]; decide⟩))⟩
  rw [x2, w2]
  exact wnEq E' DF
/-- dammed now, on both sides -/
theorem zRL.damN (h : zRL zQw L1 kd1 x0 m0 V ps pc sl rv sh cd σ1 σ2) {P : Nat} (h1 : 1 ≤ P) (h2 : (P : Int) < zM m0 σ2) : (bt (σ1.1 (V.1 0) 3) P = true ∧ σ2.1 (mR σ2 m0 48) (12 + P) = 1) ∨ (bt (σ1.1 (V.1 0) 3) P = false ∧ σ2.1 (mR σ2 m0 48) (12 + P) = 0) := by
  obtain ⟨-, -, N, n, uu, ⟨-, a2, a3, -⟩, hq, -⟩ := id h
  have k := hq.1.2.1 P h1 (by omega)
  rw [rC_i (by omega), Nat.zero_add] at k
  exact k
theorem zRL.lookD (h : zRL zQw L1 kd1 x0 m0 V ps pc sl rv sh cd σ1 σ2) : (F_X10_look x0 σ1).1 (V.1 0) 3 = σ1.1 (V.1 0) 3 := by
  have hL := h.1
  obtain ⟨⟨tA, -⟩, -⟩ := hL.2.2.2.1 0 (by decide)
  obtain ⟨⟨uA, uI, uW, uM⟩, -⟩ := hL.2.2.2.1 1 (by decide)
  have i1 := hL.2.2.2.2.1 0 1 (by decide) (by decide)
  refine congrFun ((zLookN hL h.2.1).2 (V.1 0) ⟨tA.1, Or.inl tA.2, fun z => ?_⟩) 3
  rcases z with z | z | z | z
  · exact absurd (i1 (Or.inl z)) (by decide)
  · exact zNk tA uI (by decide) z
  · exact zNk tA uW (by decide) z
  · exact zNk tA uM (by decide) z
theorem zRL.damForL (h : zRL zQw L1 kd1 x0 m0 V ps pc sl rv sh cd σ1 σ2) (hw : 0 < zM m0 σ2 → zLw x0 m0 σ1 σ2) (hl : zLen x0 m0 σ1 σ2) (hx : zT L1 kd1 x0 10) (hI : zI κ 0 L1 kd1 σ1) (hJ : zJ κ L2 kd2 σ2) (hm : zT L2 kd2 m0 11) (hg : gN m0 σ2) (d1 : σ1.2.2 x0 10 = some td) (n2 : zM m0 σ2 = N) (hN12 : N ≤ 12) (hq : q = qOf σ1.2.2 rv sh cd td V 0) (hY : Y = mR σ2 m0) (eL : F_X5_look rv td (V.1 0) σ1 = F_X10_look x0 σ1) (xr : ∀ j, (F_X10_look x0 σ1).2.2 x0 j = σ1.2.2 x0 j) (n0 : ((F_X10_look x0 σ1).1 td 0).toInt = N) (ntd : ∀ j, ¬ zQ6 q td j) (nA : ∀ j, ¬ zQ6 q (V.1 0) j) {w : Nat} (hk : k.toInt = w) (hw3 : w < 3) : ∀ (n : Nat) (z : Int32) (i : Nat) (x ρ : zS), z.toInt = i → 1 ≤ i → 13 - i < n → zFr (zQ6 q) (F_X10_look x0 σ1) x → ρ.2 = σ2.2 → zFr (zFm [50, 51, 47] [49, 54, 52, 53, 45, 46, 55] m0 σ2.2.2) σ2 ρ → (F_X10_damFor_13 x0 p k n z x).1.toInt = (F_X11_damFor_13 m0 p k n z ρ).1.toInt := by
  have hL := h.1
  have hV := h.2.1
  have g10 : (σ1.2.2 x0 10).getD 0 = td := by rw [d1]; rfl
  have g6 : (σ1.2.2 x0 6).getD 0 = V.1 0 := by rw [hL.1.1]; rfl
  have hS7 : ([49, 54, 52, 53, 45, 46, 55] : List Nat).all (fun t => zf 0 11 t == some (100 + t)) = true := by rfl
  have e12 : (12 : Int32).toInt = 12 := by decide
  have o1 : (1 : Int32).toInt = 1 := by decide
  have o0 : (0 : Int32).toInt = 0 := by decide
  have em : ∀ z : Int32, (1 : Int32) <<< (z &&& 31) = F_X10_bit z := fun z => by
    unfold F_X10_bit
    simp only [zlt]
  intro n
  induction n with
  | zero => intro z i x ρ _ _ h; exact absurd h (by omega)
  | succ n ih =>
    intro z i x ρ hz hi hn fx r1 r2
    have xx : ∀ j, x.2.2 x0 j = σ1.2.2 x0 j := fun j => by rw [fx.rf]; exact xr j
    have n0' : (x.1 td 0).toInt = N := by rw [fx.2 td 0 (ntd 0)]; exact n0
    have xD : x.1 (V.1 0) 3 = σ1.1 (V.1 0) 3 := by rw [fx.2 (V.1 0) 3 (nA 3), h.lookD]
    have mN : (F_X11_many m0 ρ).toInt = N := by rw [mMany_g hJ hm r2 (by rfl) (by rfl) (by rfl)]; exact n2
    have r48 : ρ.1 (mR σ2 m0 48) = σ2.1 (mR σ2 m0 48) := zFm.row hJ hm r2 (s := 48) (by rfl) hS7 (by rfl)
    have ρr : ∀ j, (ρ.2.2 m0 j).getD 0 = mR σ2 m0 j := fun j => by rw [show ρ.2.2 = σ2.2.2 by rw [r1]]
    rw [F_X10_damFor_13, F_X11_damFor_13]
    simp only [↓zlt, ↓zlt2, xx, g10, g6, xD, ρr, r48, o1, em, xrv hV]
    by_cases d : i < N
    · rw [if_pos (show z.toInt < (x.1 td 0).toInt by omega), if_pos (show z.toInt < (F_X11_many m0 ρ).toInt by omega)]
      have z1 := zp1 hz (by omega)
      have ix := ixN (m := 12) (p := z) (M := 12) (P := i) e12 (by decide) hz (by omega)
      rw [ix]
      have hs := cHas (x := σ1.1 (V.1 0) 3) hz (by omega)
      rcases h.damN hi (by omega) with ⟨b1, b2⟩ | ⟨b1, b2⟩
      · rw [if_pos b1] at hs
        rw [if_neg (show ¬ (F_X10_has (σ1.1 (V.1 0) 3) z).toInt = 0 by omega), b2, if_pos (show (1 : Int32).toInt = 1 by decide)]
        exact ih _ (i + 1) x ρ z1 (by omega) (by omega) fx r1 r2
      · rw [if_neg (by rw [b1]; decide)] at hs
        rw [if_pos hs, b2, if_neg (show ¬ (0 : Int32).toInt = 1 by decide)]
        obtain ⟨-, fy, ⟨t1, t2⟩, xw, yw, za, zb, w1, w2, w3, w4, w5, w6⟩ := h.damS hw hl hx hI hJ hm hg d1 n2 hq hY eL fx r1 r2 (mask := F_X10_bit z) (D := σ1.1 (V.1 0) 3 ||| F_X10_bit z) (fun c c1 c2 => by rw [b_or, h.lookD]) hk hw3
        have yx : ∀ j, (F_X5_run rv (σ1.1 (V.1 0) 3 ||| F_X10_bit z) x).2.2 x0 j = σ1.2.2 x0 j := fun j => by rw [fy.rf]; exact xr j
        simp only [yx, xrv hV, w1, w2]
        by_cases e : xw.toInt = p.toInt
        · rw [if_pos e, if_pos (w3.symm.trans e)]
        · rw [if_neg e, if_neg (fun q => e (w3.trans q))]
          exact ih _ (i + 1) za zb z1 (by omega) (by omega) w4 w5 w6
    · rw [if_neg (show ¬ z.toInt < (x.1 td 0).toInt by omega), if_neg (show ¬ z.toInt < (F_X11_many m0 ρ).toInt by omega)]
theorem zRL.damFor (h : zRL zQw L1 kd1 x0 m0 V ps pc sl rv sh cd σ1 σ2) (hw : 0 < zM m0 σ2 → zLw x0 m0 σ1 σ2) (hl : zLen x0 m0 σ1 σ2) (hx : zT L1 kd1 x0 10) (hI : zI κ 0 L1 kd1 σ1) (hJ : zJ κ L2 kd2 σ2) (hm : zT L2 kd2 m0 11) (hg : gN m0 σ2) (f1 : (v1, τ1) = F_X10_damFor x0 p k σ1) (f2 : (v2, τ2) = F_X11_damFor m0 p k σ2) : v1.toInt = v2.toInt := by
  obtain ⟨td, B, N, gl, u, l, q, Y, d1, n2, eL, xr, ⟨hq, hY⟩, ⟨S, Dn, FL, RN⟩, -, -⟩ := h.now hw hl hx hI hJ hm hg
  have hL := h.1
  have hV := h.2.1
  have q1 : q 1 = sh := by rw [hq]; rfl
  have q3 : q 3 = td := by rw [hq]; rfl
  have q4 : q 4 = V.1 0 := by rw [hq]; rfl
  obtain ⟨w1, e1, i1⟩ := cCt (p := p) (k := k) h.2.1 h.1 d1 eL xr q1 S
  obtain ⟨w2, e2, i2⟩ := mCt (p := p) (k := k) S
  have g10 : (σ1.2.2 x0 10).getD 0 = td := by rw [d1]; rfl
  obtain ⟨td9, d9, t9⟩ := zi_ref (j := 10) (k2 := 9) hI hx (by rfl)
  obtain rfl : td9 = td := Option.some.inj (d9.symm.trans d1)
  obtain ⟨N', -, -, ⟨n3, n4, n5, -⟩, -⟩ := h.2.2
  rw [g10] at n3
  have n0 : ((F_X10_look x0 σ1).1 td9 0).toInt = N := by
    rw [h.lookE hl hx hI hJ hm hg td9 9 t9 (by omega)]
    omega
  have hQ := S.1.1
  have n6 : ∀ {i j : Nat}, i < 6 → ¬ zQ6 q (q i) j := fun hi => by
    rintro (z | z | z | z)
    · exact hQ.n (by omega) (by decide) (by omega) z
    · exact hQ.n (by omega) (by decide) (by omega) z
    · exact hQ.n (by omega) (by decide) (by omega) z
    · exact hQ.n (by omega) (by decide) (by omega) z
  obtain ⟨cp1, -, cp3⟩ := zCopies2 hJ hm
  unfold F_X10_damFor at f1
  unfold F_X11_damFor at f2
  simp only [zlt, zlt2, e1, e2] at f1 f2
  by_cases c : (0 ≤ k.toInt ∧ k.toInt ≤ 2) ∧ 0 ≤ p.toInt ∧ Src N u p.toInt.toNat
  · rw [if_neg (fun z => i1.mp z c)] at f1
    rw [if_neg (fun z => i2.mp z c)] at f2
    obtain ⟨w, hk⟩ : ∃ w : Nat, k.toInt = w := ⟨k.toInt.toNat, by omega⟩
    have R := h.damForL hw hl hx hI hJ hm hg d1 n2 (by omega) hq hY eL xr n0 (fun j => by rw [← q3]; exact n6 (by decide)) (fun j => by rw [← q4]; exact n6 (by decide)) hk (by omega) (p := p) 10000 1 1 (F_X10_look x0 σ1) (F_X11_copies m0 σ2) (by decide) (by omega) (by omega) zFr.id cp1 cp3
    rw [show v1 = _ from congrArg Prod.fst f1, show v2 = _ from congrArg Prod.fst f2]
    exact R
  · rw [if_pos (i1.mpr c)] at f1
    rw [if_pos (i2.mpr c)] at f2
    rw [(zPr2 f1).1, (zPr2 f2).1]
theorem zRP.damFor (h : zRP κ L1 kd1 L2 kd2 x0 m0 σ1 σ2) (hI : zI κ 0 L1 kd1 σ1) (hJ : zJ κ L2 kd2 σ2) (hx : zT L1 kd1 x0 10) (hm : zT L2 kd2 m0 11) (hg : gN m0 σ2) (f1 : (v1, τ1) = F_X10_damFor x0 p k σ1) (f2 : (v2, τ2) = F_X11_damFor m0 p k σ2) : v1.toInt = v2.toInt := by
  obtain ⟨V, ps, pc, sl, rv, sh, cd, hR⟩ := h.2.2
  exact hR.damFor h.2.1 h.1.2 hx hI hJ hm hg f1 f2
end DAMFOR
end
-- 35y25.lw58
section
/-! A STREAM TURNED ON TRIAL: trees, the reference's ways filled once more, what stands -/
section TURNT
variable {N : Nat} {u : Nat → Nat} {c t : Nat} {r : Nat → Int32}
theorem bnd (q : Nat → Nat) : ∀ N : Nat, ∃ K, ∀ x, x < N → q x < K := by
  intro N
  induction N with
  | zero => exact ⟨0, fun x h => absurd h (by omega)⟩
  | succ N ih =>
    obtain ⟨K, hK⟩ := ih
    refine ⟨K + q N + 1, fun x hx => ?_⟩
    by_cases e : x = N
    · rw [e]
      omega
    · have := hK x (by omega)
      omega
theorem zTr.turn (h : zTr N u) (c1 : 1 ≤ c) (t1 : t < N) (hn : ¬ An u c t) : zTr N (fun x => if x = c then t else u x) := by
  obtain ⟨q, hq⟩ := id h
  obtain ⟨K, hK⟩ := bnd q N
  have yes : ∀ x, An u c x → @ite Nat (An u c x) (Classical.propDecidable _) (q x + K) (q x) = q x + K := fun x hx => if_pos hx
  have no : ∀ x, ¬ An u c x → @ite Nat (An u c x) (Classical.propDecidable _) (q x + K) (q x) = q x := fun x hx => if_neg hx
  refine ⟨fun x => @ite Nat (An u c x) (Classical.propDecidable _) (q x + K) (q x), fun x x1 x2 => ?_⟩
  show (if x = c then t else u x) < N ∧ @ite Nat (An u c (if x = c then t else u x)) (Classical.propDecidable _) (q (if x = c then t else u x) + K) (q (if x = c then t else u x)) < @ite Nat (An u c x) (Classical.propDecidable _) (q x + K) (q x)
  by_cases e : x = c
  · rw [if_pos e]
    refine ⟨t1, ?_⟩
    rw [no t hn, yes x (by rw [e]; exact An_rf)]
    have := hK t t1
    omega
  · rw [if_neg e]
    obtain ⟨z1, z2⟩ := hq x x1 x2
    refine ⟨z1, ?_⟩
    by_cases d : An u c x
    · have d' : An u c (u x) := ((An_s (by omega)).mp d).resolve_left (fun z => e z.symm)
      rw [yes _ d', yes _ d]
      omega
    · have d' : ¬ An u c (u x) := fun z => d ((An_s (by omega)).mpr (Or.inr z))
      rw [no _ d', no _ d]
      exact z2
theorem zRow.ofTr (hN : N ≤ 12) (hr : ∀ c, 1 ≤ c → c < N → 0 ≤ (r c).toInt ∧ (r c).toInt < N) (h : zTr N (uOf r)) : zRow N r := by
  refine ⟨fun z => if 0 ≤ z ∧ z < N then dep N (uOf r) z.toNat else 0, fun c c1 c2 => ?_, fun z => ?_⟩
  · obtain ⟨a1, a2⟩ := hr c c1 c2
    refine ⟨a1, a2, ?_⟩
    show (if 0 ≤ (r c).toInt ∧ (r c).toInt < N then dep N (uOf r) (r c).toInt.toNat else 0) < (if 0 ≤ (c : Int) ∧ (c : Int) < N then dep N (uOf r) (c : Int).toNat else 0)
    rw [if_pos ⟨a1, a2⟩, if_pos (by omega)]
    have z := dep_s h c1 c2
    have e : (r c).toInt.toNat = uOf r c := rfl
    rw [e, show (c : Int).toNat = c by omega]
    omega
  · show (if 0 ≤ z ∧ z < N then dep N (uOf r) z.toNat else 0) ≤ 12
    by_cases k : 0 ≤ z ∧ z < N
    · rw [if_pos k]
      have := (dep_b h z.toNat (by omega)).2
      omega
    · rw [if_neg k]
      omega
theorem zRow.turn (hN : N ≤ 12) (h : zRow N r) {p q : Int32} {P : Nat} (hp : p.toInt = P) (z : zTu N r p q) : zRow N (updR r P q) := by
  obtain ⟨z1, z2, z3, z4, -, z6⟩ := z
  have nq : q = nI q.toInt.toNat := zNi (by omega) (by omega)
  have hn : ¬ An (uOf r) P q.toInt.toNat := fun a => z6 (by
    obtain ⟨k, hk⟩ := (pa_An h hN (j := q.toInt.toNat) (t := P) (by omega)).mpr a
    rw [← nq] at hk
    exact ⟨k, by omega⟩)
  have T := h.tr.turn (c := P) (t := q.toInt.toNat) (by omega) (by omega) hn
  refine zRow.ofTr hN (fun c c1 c2 => ?_) (T.cg (fun c c1 c2 => ?_))
  · unfold updR
    by_cases e : c = P
    · rw [if_pos e]
      omega
    · rw [if_neg e]
      obtain ⟨w, w1, -⟩ := h
      have := w1 c c1 c2
      omega
  · show ((if c = P then q else r c) : Int32).toInt.toNat = if c = P then q.toInt.toNat else uOf r c
    by_cases e : c = P
    · rw [if_pos e, if_pos e]
    · rw [if_neg e, if_neg e]
      rfl
end TURNT
/-- as zShM, of any row -/
def zShU (N : Nat) (u : Nat → Nat) (FR SR : Nat → Int32) (m0 : Nat) (r : Nat → Int32) (σ t : zS) : Prop := t.2 = σ.2 ∧ (∀ p j, p < N → j < 32 → (bt (t.1 (mR σ m0 54) p) j = true ↔ (j < N ∧ An u p j))) ∧ (∀ p, p < N → t.1 (mR σ m0 52) p = FR p ∧ t.1 (mR σ m0 53) p = SR p) ∧ (∀ j, j < 50 → t.1 (mR σ m0 49) j = r j) ∧ zFr (zFm [50, 51, 47] [49, 54, 52, 53, 45, 46, 55] m0 σ.2.2) σ t
section MSHPU
variable {L : List Nat} {kd : Nat → Nat} {m0 N B : Nat} {FR SR r : Nat → Int32} {u : Nat → Nat} {σ s t : zS} {κ : Int}
set_option maxHeartbeats 1000000 in
theorem mShpU (hJ : zJ κ L kd σ) (hm : zT L kd m0 11) (s2 : s.2 = σ.2) (gs : zFr (zFm [50, 51, 47] [49, 54, 52, 53, 45, 46, 55] m0 σ.2.2) σ s) (row : ∀ j, j < 50 → s.1 (mR σ m0 49) j = r j) (hM : zM m0 σ = N) (hN : N ≤ 12) (hr : zRow N r) (hB : (σ.1 m0 18).toInt = B) (hB1 : B ≤ 1) (F0 : FR 0 = 0) (S0 : SR 0 = 0) (hF : ∀ c, 1 ≤ c → c < N → FR c = FR (uOf r c) + σ.1 (mR σ m0 23) (12 * B + c)) (hS : ∀ c, 1 ≤ c → c < N → SR c = SR (uOf r c) + (1 : Int32)) : zShU N (uOf r) FR SR m0 r σ (F_X11_fillsFlows m0 0 (F_X11_fillsWays m0 s)) := by
  have rm : mR σ m0 49 ≠ m0 := mR_m hJ hm (s := 49) (k := 149) (by rfl) (by decide)
  have rs : s.2.2 = σ.2.2 := by rw [s2]
  have hMs : (F_X11_many m0 s).toInt = N := by rw [mMany_g hJ hm gs (by rfl) (by rfl) (by rfl), hM]
  have s18 : s.1 m0 18 = σ.1 m0 18 := zFm.fld hJ hm gs (by rfl) (by rfl)
  have s23 : s.1 (mR σ m0 23) = σ.1 (mR σ m0 23) := zFm.row hJ hm gs (s := 23) (by rfl) (by rfl) (by rfl)
  obtain ⟨t, ht⟩ : ∃ t, t = F_X11_fillsWays m0 s := ⟨_, rfl⟩
  have gt : zFr (zFm [] [54, 52, 53] m0 s.2.2) s t := by rw [ht]; exact fr_X11_fillsWays zFr.id (zFm.s rfl) (zFm.s rfl) (zFm.s rfl)
  have rt : t.2.2 = σ.2.2 := by rw [gt.rf, rs]
  have g2 : zFr (zFm [47] [45, 46, 55] m0 σ.2.2) t (F_X11_fillsFlows m0 0 t) := fr_X11_fillsFlows zFr.id (by rw [rt]; exact zFm.s rfl) (zFm.f rfl) (by rw [rt]; exact zFm.s rfl) (by rw [rt]; exact zFm.s rfl)
  have fl : ∀ x, (x = 54 ∨ x = 52 ∨ x = 53 ∨ x = 49) → ∀ j, (F_X11_fillsFlows m0 0 t).1 (mR σ m0 x) j = t.1 (mR σ m0 x) j := fun x hx j => by
    have hz : zf 0 11 x = some (100 + x) := by rcases hx with rfl | rfl | rfl | rfl <;> rfl
    refine g2.2 _ _ ?_
    rintro (⟨e, -⟩ | ⟨y, hy, e⟩)
    · exact mR_m hJ hm hz (by omega) e
    · have h2 : zf 0 11 y = some (100 + y) ∧ y ≠ x := by
        simp only [List.mem_cons, List.not_mem_nil, or_false] at hy
        rcases hy with rfl | rfl | rfl <;> exact ⟨by rfl, by omega⟩
      exact mR_ne hJ hm hz h2.1 (by omega) e
  have e2 : t = F_X11_fillsWays_2 m0 10000 0 s := by
    rw [ht]
    unfold F_X11_fillsWays
    simp only [zlt]
  have ne : ∀ {x y : Nat}, zf 0 11 x = some (100 + x) → zf 0 11 y = some (100 + y) → x ≠ y → mR σ m0 x ≠ mR σ m0 y := fun h1 h2 h3 => mR_ne hJ hm h1 h2 (by omega)
  have nm : ∀ {x : Nat}, zf 0 11 x = some (100 + x) → m0 ≠ mR σ m0 x := fun {x} h1 z => by
    have h3 := zf_100 h1
    exact mR_m hJ hm h1 h3 z.symm
  have g : ∀ x, (s.2.2 m0 x).getD 0 = mR σ m0 x := fun x => by rw [rs]
  have many : ∀ τ, zFr (zAw (mR σ m0 54) (mR σ m0 52) (mR σ m0 53)) s τ → (F_X11_many m0 τ).toInt = N := fun τ h => by
    rw [← hMs]
    unfold F_X11_many
    simp only [zlt]
    rw [h.rf, g 21]
    rw [h.2 m0 18 (fun z => z.elim (nm (by rfl)) (fun z => z.elim (nm (by rfl)) (nm (by rfl))))]
    rw [h.2 (mR σ m0 21) _ (fun z => z.elim (ne (by rfl) (by rfl) (by decide)) (fun z => z.elim (ne (by rfl) (by rfl) (by decide)) (ne (by rfl) (by rfl) (by decide))))]
  have hrs : zRow N (s.1 (mR σ m0 49)) := hr.cg (fun c _ c2 => row c (by omega))
  have ue : ∀ c, 1 ≤ c → c < N → uOf (s.1 (mR σ m0 49)) c = uOf r c := uOf_cg (fun c _ c2 => row c (by omega))
  obtain ⟨-, Q⟩ := mWay3 (s := s) (m0 := m0) (ne (x := 54) (y := 52) (by rfl) (by rfl) (by decide)) (ne (x := 54) (y := 53) (by rfl) (by rfl) (by decide)) (ne (x := 49) (y := 54) (by rfl) (by rfl) (by decide)) (ne (x := 49) (y := 52) (by rfl) (by rfl) (by decide)) (ne (x := 49) (y := 53) (by rfl) (by rfl) (by decide)) (g 54) (g 52) (g 53) (g 49) hrs hN many 10000 0 0 s (by decide) (by omega) (by omega) zFr.id (fun t ht => absurd ht (by omega))
  have W := mFar3 (s := s) (m0 := m0) (B := B) (FR := FR) (SR := SR) (ne (x := 54) (y := 52) (by rfl) (by rfl) (by decide)) (ne (x := 54) (y := 53) (by rfl) (by rfl) (by decide)) (ne (x := 52) (y := 53) (by rfl) (by rfl) (by decide)) (ne (x := 49) (y := 54) (by rfl) (by rfl) (by decide)) (ne (x := 49) (y := 52) (by rfl) (by rfl) (by decide)) (ne (x := 49) (y := 53) (by rfl) (by rfl) (by decide)) (ne (x := 23) (y := 54) (by rfl) (by rfl) (by decide)) (ne (x := 23) (y := 52) (by rfl) (by rfl) (by decide)) (ne (x := 23) (y := 53) (by rfl) (by rfl) (by decide)) (nm (x := 54) (by rfl)) (nm (x := 52) (by rfl)) (nm (x := 53) (by rfl)) (g 54) (g 52) (g 53) (g 49) (g 23) (by rw [s18]; exact hB) hB1 hrs F0 S0 (fun c c1 c2 => by rw [ue c c1 c2, s23]; exact hF c c1 c2) (fun c c1 c2 => by rw [ue c c1 c2]; exact hS c c1 c2) hN many 10000 0 0 s (by decide) (by omega) (by omega) zFr.id
  rw [← e2] at Q W
  rw [← ht]
  have gtu : zFr (zFm [50, 51, 47] [49, 54, 52, 53, 45, 46, 55] m0 σ.2.2) s t := by
    rw [ht]
    exact fr_X11_fillsWays zFr.id (by rw [rs]; exact zFm.s rfl) (by rw [rs]; exact zFm.s rfl) (by rw [rs]; exact zFm.s rfl)
  have g2u : zFr (zFm [50, 51, 47] [49, 54, 52, 53, 45, 46, 55] m0 σ.2.2) t (F_X11_fillsFlows m0 0 t) := fr_X11_fillsFlows zFr.id (by rw [rt]; exact zFm.s rfl) (zFm.f rfl) (by rw [rt]; exact zFm.s rfl) (by rw [rt]; exact zFm.s rfl)
  have C3 := (gs.tr gtu).tr g2u
  have t49 : ∀ j, t.1 (mR σ m0 49) j = s.1 (mR σ m0 49) j := fun j => by
    rw [rs] at gt
    refine gt.2 _ _ ?_
    rintro (⟨e, -⟩ | ⟨y, hy, e⟩)
    · exact rm e
    · have h2 : zf 0 11 y = some (100 + y) ∧ y ≠ 49 := by
        simp only [List.mem_cons, List.not_mem_nil, or_false] at hy
        rcases hy with rfl | rfl | rfl <;> exact ⟨by rfl, by omega⟩
      exact mR_ne hJ hm (s := 49) (s' := y) (k := 149) (by rfl) h2.1 (by omega) e
  refine ⟨C3.1, fun p j hp hj => ?_, fun p hp => ?_, fun j hj => by rw [fl 49 (by omega), t49, row j hj], C3⟩
  · rw [fl 54 (by omega), Q p j hp hj]
    constructor
    · rintro (⟨h1, h2⟩ | ⟨-, h⟩)
      · exact ⟨h1, (An_cg hr.tr ue j h1 p).mp ((pa_An hrs hN h1).mp h2)⟩
      · exact h.elim
    · rintro ⟨h1, h2⟩
      exact Or.inl ⟨h1, (pa_An hrs hN h1).mpr ((An_cg hr.tr ue j h1 p).mpr h2)⟩
  · rw [fl 52 (by omega), fl 53 (by omega)]
    exact W p hp
theorem mIsU (h : zShU N u FR SR m0 r σ t) (hJ : zJ κ L kd σ) (hm : zT L kd m0 11) (hM : zM m0 σ = N) (hN : N ≤ 12) {x : Int32} : (F_X11_isSource m0 x t).toInt = 0 ↔ ¬ (0 ≤ x.toInt ∧ Src N u x.toInt.toNat) := by
  have e0 : (0 : Int32).toInt = 0 := by decide
  have e1 : (1 : Int32).toInt = 1 := by decide
  have kN := zN1 (x := F_X11_many m0 t) (by rw [mMany_g hJ hm h.2.2.2.2 (by rfl) (by rfl) (by rfl)]; exact hM) hN
  have g54 : (t.2.2 m0 54).getD 0 = mR σ m0 54 := by rw [h.1]
  unfold F_X11_isSource
  simp only [zlt, mBeside, mIn, e1, kN, g54]
  by_cases c : 1 ≤ x.toInt ∧ x.toInt ≤ (N : Int) - 1
  · rw [if_neg (fun z => z c)]
    obtain ⟨p, hp⟩ : ∃ p : Nat, x.toInt = p := ⟨x.toInt.toNat, by omega⟩
    have nx : x.toNatClampNeg = p := by rw [ztn, hp]; rfl
    have ex : x = nI p := zNi hp (by omega)
    have key : (t.1 (mR σ m0 54) p).toInt = ((1 : Int32) <<< (x &&& 31)).toInt ↔ Src N u p := by
      rw [Int32.toInt_inj, ex]
      constructor
      · intro z
        refine ⟨by omega, by omega, fun j hj ha => ?_⟩
        have q := (h.2.1 p j (by omega) (by omega)).mpr ⟨hj, ha⟩
        rw [z, bt_1 (by omega) (by omega), decide_eq_true_eq] at q
        exact q
      · rintro ⟨z1, z2, z3⟩
        refine b_ext (fun j hj => ?_)
        rw [bt_1 (by omega) hj]
        by_cases e : j = p
        · rw [decide_eq_true e]
          exact (h.2.1 p j z2 hj).mpr ⟨by omega, by rw [e]; exact An_rf⟩
        · rw [decide_eq_false e]
          cases hc : bt (t.1 (mR σ m0 54) p) j with
          | false => rfl
          | true =>
            obtain ⟨w1, w2⟩ := (h.2.1 p j z2 hj).mp hc
            exact absurd (z3 j w1 w2) e
    rw [nx, show x.toInt.toNat = p by omega]
    by_cases c2 : (t.1 (mR σ m0 54) p).toInt = ((1 : Int32) <<< (x &&& 31)).toInt
    · rw [if_pos c2]
      exact ⟨fun z => absurd (z.symm.trans e1) (by decide), fun z => absurd ⟨by omega, key.mp c2⟩ z⟩
    · rw [if_neg c2]
      exact ⟨fun _ z => c2 (key.mpr z.2), fun _ => e0⟩
  · rw [if_pos c]
    exact ⟨fun _ z => by have a := z.2.1; have b := z.2.2.1; omega, fun _ => e0⟩
end MSHPU
section STANDU
variable {κ : Int} {L1 : List Nat} {kd1 : Nat → Nat} {L2 : List Nat} {kd2 : Nat → Nat} {σ1 σ2 s0 : zS} {m0 x0 : Nat} {Q : Nat → zCo → (Nat → Int32) → Prop} {V : zWh} {ps pc sl rv sh cd k N : Nat}
theorem zSd.ofU (hG : zGd Q) (hQ : ∀ N c r, Q N c r → zQw N c r) (h : zRL Q L1 kd1 x0 m0 V ps pc sl rv sh cd σ1 σ2) (hw : 0 < zM m0 σ2 → zLw x0 m0 σ1 σ2) (hl : zLen x0 m0 σ1 σ2) (hx : zT L1 kd1 x0 10) (hI : zI κ 0 L1 kd1 σ1) (hJ : zJ κ L2 kd2 σ2) (hm : zT L2 kd2 m0 11) (hg : gN m0 σ2) (n2 : zM m0 σ2 = N) (n1 : N ≤ 12) {r' : Nat → Int32} (hr' : zRow N r') (hrk : ∀ j, 12 ≤ j → j < 50 → r' j = σ2.1 (mR σ2 m0 48) j) {ρ : zS} (h2 : ρ.2 = σ2.2) (hρ : zFr (zFm [50, 51, 47] [49, 54, 52, 53, 45, 46, 55] m0 σ2.2.2) σ2 ρ) (row : ∀ j, j < 50 → ρ.1 (mR σ2 m0 49) j = r' j) (gr : ∀ a j, ¬ (a = rv ∧ (j = 5 ∨ j = 6)) → s0.2.2 a j = σ1.2.2 a j) (he : ∀ c kc, zT L1 kd1 c kc → (kc = 9 ∨ (46 ≤ kc ∧ kc ≤ 51)) → s0.1 c = σ1.1 c) (hk : k < 45) (hcI : ∀ c, 1 ≤ c → c < N → s0.1 (V.2.1 k) c = r' c) (hcD : s0.1 (V.1 k) 3 = σ1.1 (V.1 0) 3) : ∃ (td B : Nat) (gl : zGl) (u l : Nat → Nat) (q Y : Nat → Nat) (w t : zS), (q = qOf σ1.2.2 rv sh cd td V k ∧ Y = mR σ2 m0 ∧ w = F_X5_form rv td (V.1 k) s0 ∧ t = F_X11_fillsFlows m0 0 (F_X11_fillsWays m0 ρ)) ∧ σ1.2.2 x0 10 = some td ∧ zSd q Y m0 B N gl u l w t ∧ (∀ i, (i = 3 ∨ i = 4 ∨ i = 20 ∨ i = 21) → w.1 (q i) = s0.1 (q i)) ∧ (∀ j, j < 50 → t.1 (Y 49) j = r' j) ∧ (zFr (zFm [50, 51, 47] [49, 54, 52, 53, 45, 46, 55] m0 σ2.2.2) σ2 t) ∧ (zDn q Y N w t → ∀ p, p < N → (F_X5_fall (q 0) 0 w).1 (q 6) p = t.1 (Y 55) p) := by
  have g : zPv L1 kd1 V rv σ1 (σ1.1, s0.2) := ⟨gr, fun _ _ => rfl⟩
  obtain ⟨u, hu0⟩ : ∃ u, u = uOf r' := ⟨_, rfl⟩
  have n4 : zTr N u := by
    rw [hu0]
    exact hr'.tr
  obtain ⟨ℓ, hℓ⟩ : ∃ ℓ : Nat → Int32, ℓ = fun c => σ2.1 (mR σ2 m0 23) (12 * (σ2.1 m0 18).toInt.toNat + c) := ⟨_, rfl⟩
  obtain ⟨FR, F0, hF⟩ := n4.rec (0 : Int32) (fun c z => z + ℓ c)
  obtain ⟨SR, S0, hS⟩ := n4.rec (0 : Int32) (fun _ z => z + (1 : Int32))
  have hb : ∀ c, 1 ≤ c → c < N → σ2.1 (mR σ2 m0 23) (12 * (σ2.1 m0 18).toInt.toNat + c) = ℓ c ∧ (r' c).toInt = u c := fun c c1 c2 => ⟨by rw [hℓ], by rw [hu0]; exact hr'.u c1 c2⟩
  have r18 : 0 ≤ (σ2.1 m0 18).toInt ∧ (σ2.1 m0 18).toInt ≤ 1 := zj_get (j := 18) hJ hm (lo := 0) (hi := 1) (by rfl)
  have hM := mShpU (N := N) (B := (σ2.1 m0 18).toInt.toNat) (FR := FR) (SR := SR) hJ hm h2 hρ row n2 n1 hr' (by omega) (by omega) F0 S0 (fun c c1 c2 => by rw [← hu0, (hb c c1 c2).1]; exact hF c c1 c2) (fun c c1 c2 => by rw [← hu0]; exact hS c c1 c2)
  rw [← hu0] at hM
  obtain ⟨hL, hV, N', n, uu, ⟨a1, a2, a3, -⟩, hq, -⟩ := id h
  obtain rfl : N' = N := by omega
  obtain ⟨td, d1, d2⟩ := zi_ref (j := 10) (k2 := 9) hI hx (by rfl)
  have gd : (σ1.2.2 x0 10).getD 0 = td := by rw [d1]; rfl
  have tr := zTt_k hI d2
  obtain ⟨B, w2⟩ : ∃ B, (σ2.1 m0 18).toInt.toNat = B := ⟨_, rfl⟩
  have hw' : ∃ (gl : zGl) (K : Nat), 0 < N' → ((σ1.1 td 8).toInt = K ∧ K ≤ 420) ∧ (∀ k, k < 5 → zLc ((σ1.2.2 td 6).getD 0) ((σ1.2.2 td 7).getD 0) ((σ1.2.2 td 9).getD 0) σ1 K k (gl k) ∧ zLm (mR σ2 m0) (420 * B) (130 * B) σ2 (420 * B + 420) (130 * B + 130) (5 * B + k) (gl k)) ∧ (∀ j p : Nat, 3 ≤ j → j ≤ 5 → (p : Int) < zM m0 σ2 → σ1.1 ((σ1.2.2 td j).getD 0) p = σ2.1 (mR σ2 m0 (20 + j)) (12 * B + p)) ∧ (∀ j : Nat, j < 4 → σ1.1 td (10 + j) = σ2.1 (mR σ2 m0 (26 + j)) B) ∧ 0 ≤ (σ1.1 td 11).toInt ∧ (σ1.1 td 11).toInt ≤ 99 := by
    by_cases z : 0 < N'
    · obtain ⟨td', B', K, gl, w1, w2', w3, w4, w5, w6, w7, w8⟩ := hw (by omega)
      have et' : td' = td := by rw [← w1, gd]
      have eB' : B' = B := by rw [← w2', w2]
      rw [et', eB'] at w4
      rw [et'] at w3 w5 w6 w7 w8
      rw [eB'] at w5 w6
      exact ⟨gl, K, fun _ => ⟨w3, w4, w5, w6, w7, w8⟩⟩
    · exact ⟨fun _ => none, 0, fun y => absurd y z⟩
  obtain ⟨gl, K, hw'⟩ := hw'
  obtain ⟨td', etd⟩ : ∃ td', td' = td := ⟨td, rfl⟩
  subst etd
  have w5 : ∀ j p : Nat, 3 ≤ j → j ≤ 5 → p < N' → σ1.1 ((σ1.2.2 td' j).getD 0) p = σ2.1 (mR σ2 m0 (20 + j)) (12 * B + p) := fun j p j1 j2 hp => by
    obtain ⟨-, -, x, -⟩ := hw' (by omega)
    exact x j p j1 j2 (by omega)
  have r18 : 0 ≤ (σ2.1 m0 18).toInt ∧ (σ2.1 m0 18).toInt ≤ 1 := zj_get (j := 18) hJ hm (lo := 0) (hi := 1) (by rfl)
  have hB : (σ2.1 m0 18).toInt = B := by omega
  have hB1 : B ≤ 1 := by omega
  have nB : (σ2.1 m0 18).toNatClampNeg = B := by rw [ztn, hB]; rfl
  rw [w2] at hb
  rw [gd] at a1
  have t1 : zT L1 kd1 rv 5 := hV.2.1.2.1
  have t2 : zT L1 kd1 sh 6 := hV.2.1.2.2.1
  have ntd : td' ≠ rv := zNk d2 t1 (by decide)
  have nsh : sh ≠ rv := zNk t2 t1 (by decide)
  have hL0 : zLay L1 kd1 x0 s0.2.2 V ps pc sl := zLay.pv (s := (σ1.1, s0.2)) hL t1 g
  have hV0 : zRv L1 kd1 x0 rv sh cd s0.2.2 := zRv.keep (s := (σ1.1, s0.2)) hV g
  have et : ∀ j, s0.2.2 td' j = σ1.2.2 td' j := fun j => g.1 td' j (fun z => ntd z.1)
  have es : ∀ j, s0.2.2 sh j = σ1.2.2 sh j := fun j => g.1 sh j (fun z => nsh z.1)
  have tl0 : zT L1 kd1 ((s0.2.2 td' 3).getD 0) 46 := by rw [et]; exact tr 3 (by decide) (by decide) (by decide)
  have Qk : zQw N' (zcc V σ1.1 0) (rC σ2.1 (mR σ2 m0 48) 0) := hQ _ _ _ hq
  have rc : ∀ j, j < 50 → rC σ2.1 (mR σ2 m0 48) 0 j = σ2.1 (mR σ2 m0 48) j := fun j hj => by rw [rC_i hj, Nat.zero_add]
  have hu : ∀ c, 1 ≤ c → c < N' → (s0.1 (V.2.1 k) c).toInt = u c := fun c c1 c2 => by
    rw [hcI c c1 c2]
    exact (hb c c1 c2).2
  have h0 : (s0.1 td' 0).toInt = N' := by rw [he td' 9 d2 (by omega)]; exact a1
  have hF' : ∀ c, 1 ≤ c → c < N' → FR c = FR (u c) + s0.1 ((s0.2.2 td' 3).getD 0) c := fun c c1 c2 => by
    rw [et, he _ 46 (tr 3 (by decide) (by decide) (by decide)) (by omega), w5 3 c (by decide) (by decide) (by omega), hF c c1 c2]
    show FR (u c) + ℓ c = FR (u c) + σ2.1 (mR σ2 m0 23) (12 * B + c)
    rw [(hb c c1 c2).1]
  obtain ⟨C1, C2, l, C3⟩ := cFormK hL0 hV0 d2 tl0 hk n1 h0 n4 hu F0 hF'
  rw [es, es, es, es, es] at C3
  obtain ⟨w, hw0⟩ : ∃ w, w = F_X5_form rv td' (V.1 k) s0 := ⟨_, rfl⟩
  obtain ⟨t, ht0⟩ : ∃ t, t = F_X11_fillsFlows m0 0 (F_X11_fillsWays m0 ρ) := ⟨_, rfl⟩
  rw [← hw0] at C1 C2 C3
  rw [← ht0] at hM
  have hM' := hM
  obtain ⟨m1, m2, m3, m4, m5⟩ := hM'
  obtain ⟨q, hq0⟩ : ∃ q, q = qOf σ1.2.2 rv sh cd td' V k := ⟨_, rfl⟩
  have QR : zQr q w.2.2 := by
    rw [hq0]
    refine zQr.of hL hV d2 tr hk (fun a j n => ?_) ?_ ?_
    · rw [C1]
      by_cases ca : a = rv
      · subst ca
        rw [zu_j _ _ _ _ _ (fun z => n ⟨rfl, Or.inr z.symm⟩), zu_j _ _ _ _ _ (fun z => n ⟨rfl, Or.inl z.symm⟩)]
        exact g.1 _ j n
      · rw [zu_n _ _ _ ca, zu_n _ _ _ ca]
        exact g.1 a j n
    · rw [C1, zu_j _ _ _ _ _ (by decide), zu_s]
    · rw [C1, zu_s]
  have T : ∀ i, i < 22 → zT L1 kd1 (q i) (qK i) := by rw [hq0]; exact qOf.t hL hV d2 tr hk
  have W0 : ∀ i, i < 22 → (i = 3 ∨ i = 4 ∨ (10 ≤ i ∧ i ≤ 15) ∨ 19 ≤ i) → w.1 (q i) = s0.1 (q i) := fun i hi n => funext (fun j => C2 _ j (by
    have ki := (T i hi).2
    unfold zKs
    rw [ki]
    rcases (show i = 3 ∨ i = 4 ∨ i = 10 ∨ i = 11 ∨ i = 12 ∨ i = 13 ∨ i = 14 ∨ i = 15 ∨ i = 19 ∨ i = 20 ∨ i = 21 by omega) with rfl | rfl | rfl | rfl | rfl | rfl | rfl | rfl | rfl | rfl | rfl <;> decide))
  have W1 : ∀ i, (i = 3 ∨ (10 ≤ i ∧ i ≤ 15)) → w.1 (q i) = σ1.1 (q i) := fun i n => (W0 i (by omega) (by omega)).trans (he _ _ (T i (by omega)) (by
    rcases (show i = 3 ∨ i = 10 ∨ i = 11 ∨ i = 12 ∨ i = 13 ∨ i = 14 ∨ i = 15 by omega) with rfl | rfl | rfl | rfl | rfl | rfl | rfl <;> decide))
  have e3 : q 3 = td' := by rw [hq0]; rfl
  have e4 : q 4 = V.1 k := by rw [hq0]; rfl
  have e19 : q 19 = V.2.1 k := by rw [hq0]; rfl
  have e20 : q 20 = V.2.2.1 k := by rw [hq0]; rfl
  have e21 : q 21 = V.2.2.2 k := by rw [hq0]; rfl
  have eT : ∀ i j, (i = 10 ∧ j = 3) ∨ (i = 11 ∧ j = 4) ∨ (i = 12 ∧ j = 5) ∨ (i = 13 ∧ j = 6) ∨ (i = 14 ∧ j = 7) ∨ (i = 15 ∧ j = 9) → q i = (σ1.2.2 td' j).getD 0 := fun i j hij => by
    rw [hq0]
    rcases hij with ⟨rfl, rfl⟩ | ⟨rfl, rfl⟩ | ⟨rfl, rfl⟩ | ⟨rfl, rfl⟩ | ⟨rfl, rfl⟩ | ⟨rfl, rfl⟩ <;> rfl
  have e16 : q 16 = (σ1.2.2 sh 2).getD 0 := by rw [hq0]; rfl
  have e17 : q 17 = (σ1.2.2 sh 3).getD 0 := by rw [hq0]; rfl
  have e18 : q 18 = (σ1.2.2 sh 4).getD 0 := by rw [hq0]; rfl
  have e1q : q 1 = sh := by rw [hq0]; rfl
  obtain ⟨c1, c2, c3, c4⟩ := id C3
  have hY : zYm (mR σ2 m0) m0 σ2.2.2 := zYm.of hJ hm
  have hY' : zYm (mR σ2 m0) m0 t.2.2 := by rw [m1]; exact hY
  have f18 : t.1 m0 18 = σ2.1 m0 18 := zFm.fld hJ hm m5 (j := 18) (by rfl) (by rfl)
  have rows : ∀ j, (j = 21 ∨ (23 ≤ j ∧ j ≤ 31) ∨ (33 ≤ j ∧ j ≤ 37) ∨ j = 39 ∨ j = 40) → t.1 (mR σ2 m0 j) = σ2.1 (mR σ2 m0 j) := fun j hj => by
    refine zFm.row hJ hm m5 (zYj_k (by unfold zYj; omega)).1 (by rfl) ?_
    rcases (show j = 21 ∨ j = 23 ∨ j = 24 ∨ j = 25 ∨ j = 26 ∨ j = 27 ∨ j = 28 ∨ j = 29 ∨ j = 30 ∨ j = 31 ∨ j = 33 ∨ j = 34 ∨ j = 35 ∨ j = 36 ∨ j = 37 ∨ j = 39 ∨ j = 40 by omega) with rfl | rfl | rfl | rfl | rfl | rfl | rfl | rfl | rfl | rfl | rfl | rfl | rfl | rfl | rfl | rfl | rfl <;> rfl
  have L5 : 0 < N' → zL5 q w gl := fun hN => by
   obtain ⟨⟨w3, w3'⟩, w4, -⟩ := hw' hN
   exact ⟨K, by rw [W1 3 (by omega), e3]; exact w3, w3', fun v hv => by
    rw [eT 13 6 (by omega), eT 14 7 (by omega), eT 15 9 (by omega)]
    exact (w4 v hv).1.cg (by rw [← eT 13 6 (by omega)]; exact W1 13 (by omega)) (by rw [← eT 14 7 (by omega)]; exact W1 14 (by omega)) (by rw [← eT 15 9 (by omega)]; exact W1 15 (by omega))⟩
  have W5 : 0 < N' → zW5 (mR σ2 m0) B t gl := fun hN v hv => by
   obtain ⟨-, w4, -⟩ := hw' hN
   exact ⟨(w4 v hv).2.cg (Nat.le_refl _) (Nat.le_refl _) (fun i _ _ => ⟨by rw [rows 39 (by omega)], by rw [rows 40 (by omega)]⟩) (fun j i j1 j2 _ _ => by rw [rows j (by omega)]) (by rw [rows 30 (by omega)]) (by rw [rows 31 (by omega)]), (w4 v hv).1.1⟩
  have S : zSd q (mR σ2 m0) m0 B N' gl u l w t := by
    refine ⟨⟨QR, L5, by rw [e1q]; exact c1, n1, n4, fun c c1 c2 => by rw [W0 19 (by decide) (by omega), e19]; exact hu c c1 c2, by rw [e16]; exact c2.p, fun x => ?_⟩, ⟨hY', by rw [f18]; exact hB, hB1, W5, by rw [mMany_g hJ hm m5 (by rfl) (by rfl) (by rfl)]; exact n2, fun c c1 c2 => by rw [m4 c (by omega)]; exact (hb c c1 c2).2, fun c hc => ?_, fun x => mIsU hM hJ hm n2 n1⟩, fun p hp => ⟨?_, ?_, ?_, ?_, ?_⟩, fun c c1 c2 => ?_, ?_⟩
    · rw [e1q]
      exact (cIsS C3 (by
        have := QR.1.2.2.2.1.2.2
        rw [e1q, e18] at this
        exact this)).2
    · rw [(m3 c hc).2]
      have a := sr_d n4 n1 S0 hS c hc
      have b := (dep_b n4 c hc).1
      omega
    · rw [W1 11 (by omega), eT 11 4 (by omega), rows 24 (by omega)]
      exact w5 4 p (by decide) (by decide) (by omega)
    · rw [e17, c2.2.1 p hp, (m3 p hp).1]
    · rw [W1 12 (by omega), eT 12 5 (by omega), rows 25 (by omega)]
      exact w5 5 p (by decide) (by decide) (by omega)
    · rw [W1 10 (by omega), eT 10 3 (by omega), rows 23 (by omega)]
      exact w5 3 p (by decide) (by decide) (by omega)
    · have a := c3 p hp
      rw [← e18] at a
      have b : (F_X11_bits (t.1 (mR σ2 m0 54) p)).toInt = cnt (fun j => An u p j) N' := by
        rw [bitM, cnt_ext (N := N') 12 n1 (fun j j1 j2 z => by
          have := ((m2 p j hp (by omega)).mp z).1
          omega)]
        exact congrArg _ (cnt_cg N' (fun j hj => ⟨fun z => ((m2 p j hp (by omega)).mp z).2, fun z => (m2 p j hp (by omega)).mpr ⟨hj, z⟩⟩))
      have cl := cnt_le (P := fun j => An u p j) N'
      have c0 : 0 < cnt (fun j => An u p j) N' := cnt_p N' hp An_rf
      have o1 : (1 : Int32).toInt = 1 := by decide
      refine Int32.toInt_inj.mp ?_
      rw [zb_sub (by rw [o1]; omega) (by rw [o1]; omega), o1]
      omega
    · have np := pI_b c (by omega)
      have ed : w.1 (q 4) 3 = (zcc V σ1.1 0).2.2.2.1 := by rw [W0 4 (by decide) (by omega), e4, hcD]; rfl
      unfold dmC dmM
      rw [cHas np.1 (by omega), ed, m4 (12 + c) (by omega), hrk (12 + c) (by omega) (by omega), ← rc (12 + c) (by omega)]
      rcases Qk.1.2.1 c c1 c2 with ⟨z1, z2⟩ | ⟨z1, z2⟩
      · rw [z2, z1]
        decide
      · rw [z2, z1]
        decide
    · intro hN
      obtain ⟨-, -, -, w6, -⟩ := hw' hN
      rw [W1 3 (by omega), e3, rows 28 (by omega)]
      exact w6 2 (by decide)
  -- the flows as copies leave them
  obtain ⟨y, hy⟩ : ∃ y, y = ρ := ⟨_, rfl⟩
  obtain ⟨t', ht'⟩ : ∃ t', t' = F_X11_fillsWays m0 y := ⟨_, rfl⟩
  have tE : t = F_X11_fillsFlows m0 0 t' := by rw [ht0, ht', hy]
  have yr : y.2.2 = σ2.2.2 := by rw [hy, h2]
  have gw : zFr (fun c _ => c = mR σ2 m0 54 ∨ c = mR σ2 m0 52 ∨ c = mR σ2 m0 53) y t' := by rw [ht']; exact fr_X11_fillsWays zFr.id (fun _ => Or.inl (by rw [yr])) (fun _ => Or.inr (Or.inl (by rw [yr]))) (fun _ => Or.inr (Or.inr (by rw [yr])))
  have t'r : t'.2.2 = σ2.2.2 := gw.rf.trans yr
  have gf : zFr (zVw (mR σ2 m0) m0) t' t := by rw [tE]; exact fr_X11_fillsFlows zFr.id (fun _ => Or.inr (Or.inl (by rw [t'r]))) (Or.inr (Or.inr (Or.inr ⟨rfl, rfl⟩))) (fun _ => Or.inr (Or.inr (Or.inl (by rw [t'r])))) (fun _ => Or.inl (by rw [t'r]))
  have hY2 : zYm (mR σ2 m0) m0 t'.2.2 := by rw [t'r]; exact hY
  have S' : zSd q (mR σ2 m0) m0 B N' gl u l w t' := S.fr zFr.id (zVw.up gf.sy)
  refine ⟨td', B, gl, u, l, q, mR σ2 m0, w, t, ⟨hq0, rfl, hw0, ht0⟩, d1, S, fun i hi => W0 i (by omega) (by omega), m4, m5, fun Dn p hp => ?_⟩
  have Dn' : zDn q (mR σ2 m0) N' w t' := Dn.up2 hY' gf.sy
  have FL := (S'.fall Dn' (m := 0) (by decide) zFr.id zFr.id).2.2.1
  have := FL p hp
  rw [← tE] at this
  exact this
end STANDU
end
-- 35y26.lw59
section
/-! STREAMS TURNED ON TRIAL: turnFor -/
def zXi (L1 : List Nat) (kd1 : Nat → Nat) (V : zWh) (rv : Nat) (σ1 x : zS) : Prop := zPv L1 kd1 V rv σ1 x ∧ ∀ c kc, zT L1 kd1 c kc → (kc = 9 ∨ (46 ≤ kc ∧ kc ≤ 51)) → x.1 c = σ1.1 c
def zRj (m0 : Nat) (σ2 ρ : zS) : Prop := ρ.2 = σ2.2 ∧ zFr (zFm [50, 51, 47] [49, 54, 52, 53, 45, 46, 55] m0 σ2.2.2) σ2 ρ
section TURNFOR
variable {κ : Int} {L1 : List Nat} {kd1 : Nat → Nat} {L2 : List Nat} {kd2 : Nat → Nat} {σ1 σ2 τ1 τ2 x ρ : zS} {m0 x0 : Nat} {V : zWh} {ps pc sl rv sh cd td N : Nat} {v1 v2 p k c i : Int32}
theorem zRj.cp (hJ : zJ κ L2 kd2 σ2) (hm : zT L2 kd2 m0 11) (h : zRj m0 σ2 ρ) : zRj m0 σ2 (F_X11_copies m0 ρ) := by
  obtain ⟨-, g⟩ := zCopies3 hJ hm h.1
  exact ⟨g.1.trans h.1, h.2.tr g⟩
/-- whether a stream can be turned, once more -/
theorem zRL.mTurnT (h : zRL zQw L1 kd1 x0 m0 V ps pc sl rv sh cd σ1 σ2) (hl : zLen x0 m0 σ1 σ2) (hx : zT L1 kd1 x0 10) (hI : zI κ 0 L1 kd1 σ1) (hJ : zJ κ L2 kd2 σ2) (hm : zT L2 kd2 m0 11) (hg : gN m0 σ2) (n2 : zM m0 σ2 = N) (n1 : N ≤ 12) (R : zRj m0 σ2 ρ) : (F_X11_canTurn m0 c i (F_X11_copies m0 ρ)).toInt = 0 ↔ ¬ zTu N (σ2.1 (mR σ2 m0 48)) c i := by
  have e0 : (0 : Int32).toInt = 0 := by decide
  have e1 : (1 : Int32).toInt = 1 := by decide
  obtain ⟨hr, -, -⟩ := h.rows zGd.q1 hg n2 n1
  obtain ⟨N', u, FR, SR, ℓ, ⟨-, a2, -, a4⟩, -, hb, hM⟩ := h.lkT zGd.q1 hl hx hI hJ hm hg R.1 R.2
  obtain rfl : N' = N := by omega
  have c3 := (R.cp hJ hm).2
  have hS : ([49, 54, 52, 53, 45, 46, 55] : List Nat).all (fun t => zf 0 11 t == some (100 + t)) = true := by rfl
  have k2 := zN1 (x := F_X11_many m0 (F_X11_copies m0 ρ)) (N := N') (by rw [mMany_g hJ hm c3 hS (by rfl) (by rfl)]; exact a2) n1
  have r48 : (F_X11_copies m0 ρ).1 (mR σ2 m0 48) = σ2.1 (mR σ2 m0 48) := zFm.row hJ hm c3 (s := 48) (by rfl) hS (by rfl)
  have g : ∀ x, ((F_X11_copies m0 ρ).2.2 m0 x).getD 0 = mR σ2 m0 x := fun x => by rw [c3.rf]
  have ue : ∀ c, 1 ≤ c → c < N' → u c = uOf (σ2.1 (mR σ2 m0 48)) c := fun c c1 c2 => by
    have a := (hb c c1 c2).2
    have b := hr.u c1 c2
    omega
  have B : ∀ {t j : Nat}, t < N' → j < N' → (bt ((F_X11_copies m0 ρ).1 (mR σ2 m0 54) t) j = true ↔ ∃ k, (pa (σ2.1 (mR σ2 m0 48)) k (nI j)).toInt = t) := fun {t j} ht hj => by
    rw [hM.2.1 t j ht (by omega), pa_An hr n1 hj, An_cg hr.tr ue j hj t]
    exact ⟨fun z => z.2, fun z => ⟨hj, z⟩⟩
  obtain ⟨f, hf⟩ : ∃ f, f = F_X11_copies m0 ρ := ⟨_, rfl⟩
  rw [← hf] at k2 r48 g B ⊢
  unfold F_X11_canTurn
  simp only [zlt, mPlc, mBeside, mIn, e0, e1, k2, g, r48]
  by_cases c1 : 1 ≤ c.toInt ∧ c.toInt ≤ (N' : Int) - 1
  · rw [if_neg (fun z => z c1)]
    by_cases d : 0 ≤ i.toInt ∧ i.toInt ≤ (N' : Int) - 1
    · rw [if_neg (fun z => z d)]
      by_cases e : (σ2.1 (mR σ2 m0 48) c.toNatClampNeg).toInt = i.toInt
      · rw [if_pos e]
        exact ⟨fun _ h => h.2.2.2.2.1 e, fun _ => e0⟩
      · rw [if_neg e]
        obtain ⟨j, hj⟩ : ∃ j : Nat, i.toInt = j := ⟨i.toInt.toNat, by omega⟩
        have b := B (t := c.toNatClampNeg) (j := j) (by rw [ztn]; omega) (by omega)
        rw [← zNi hj (by omega), show ((c.toNatClampNeg : Nat) : Int) = c.toInt by rw [ztn]; omega] at b
        by_cases h : ((f.1 (mR σ2 m0 54) c.toNatClampNeg >>> (i &&& 31)) &&& (1 : Int32)).toInt = 0
        · rw [if_pos h]
          have h2 := ((bt_cut hj (by omega)).1.mp h)
          exact ⟨fun z => absurd z (by decide), fun z => absurd ⟨c1.1, by omega, d.1, by omega, e, fun w => h2 (b.mpr w)⟩ z⟩
        · rw [if_neg h]
          refine ⟨fun _ z => h ((bt_cut hj (by omega)).1.mpr (fun w => z.2.2.2.2.2 (b.mp w))), fun _ => e0⟩
    · rw [if_pos d]
      exact ⟨fun _ h => d ⟨h.2.2.1, by have := h.2.2.2.1; omega⟩, fun _ => e0⟩
  · rw [if_pos c1]
    exact ⟨fun _ h => c1 ⟨h.1, by have := h.2.1; omega⟩, fun _ => e0⟩
/-- who wins with a stream turned, on both sides -/
theorem zRL.trnS (h : zRL zQw L1 kd1 x0 m0 V ps pc sl rv sh cd σ1 σ2) (hw : 0 < zM m0 σ2 → zLw x0 m0 σ1 σ2) (hl : zLen x0 m0 σ1 σ2) (hx : zT L1 kd1 x0 10) (hI : zI κ 0 L1 kd1 σ1) (hJ : zJ κ L2 kd2 σ2) (hm : zT L2 kd2 m0 11) (hg : gN m0 σ2) (d1 : σ1.2.2 x0 10 = some td) (n2 : zM m0 σ2 = N) (n1 : N ≤ 12) (X : zXi L1 kd1 V rv σ1 x) (R : zRj m0 σ2 ρ) {C : Nat} (hc : c.toInt = C) (z : zTu N (σ2.1 (mR σ2 m0 48)) c i) {w : Nat} (hk : k.toInt = w) (hw3 : w < 3) : ∃ (xw yw : Int32) (za zb : zS), F_X10_winsTurned x0 p k c i x = (if xw.toInt = p.toInt then (1 : Int32) else 0, za) ∧ F_X11_winnerBy m0 k (F_X11_fillsFlows m0 0 (F_X11_fillsWays m0 (zu (F_X11_copies m0 ρ).1 (mR σ2 m0 49) C i, (F_X11_copies m0 ρ).2.1, (F_X11_copies m0 ρ).2.2))) = (yw, zb) ∧ xw.toInt = yw.toInt ∧ ¬ xw.toInt = i.toInt ∧ zXi L1 kd1 V rv σ1 za ∧ zRj m0 σ2 zb := by
  have hL := h.1
  have hV := h.2.1
  obtain ⟨z1, z2, z3, z4, z5, z6⟩ := id z
  obtain ⟨hr2, hr1, er⟩ := h.rows zGd.q1 hg n2 n1
  have hr' := hr2.turn n1 hc z
  obtain ⟨gx, hes⟩ := id X
  have hLx := hL.pv hV.2.1.2.1 gx
  have hVx := hV.keep gx
  obtain ⟨tA, tI, tW, tM⟩ := (hL.2.2.2.1 1 (by decide)).1
  obtain ⟨c1, c2, c3, c4⟩ := zCopy hLx (k := 1) (q := 0) (by decide) (by decide)
  have gy : zPv L1 kd1 V rv x (F_X1_copy (V.1 1) (V.1 0) x) := zPv.copy hLx (by decide)
  obtain ⟨y, hy⟩ : ∃ y, y = F_X1_copy (V.1 1) (V.1 0) x := ⟨_, rfl⟩
  rw [← hy] at c1 c2 c3 c4 gy
  have cc : zcc V y.1 1 = zcc V σ1.1 0 := c2.trans (gx.cc hL (by decide) (by decide))
  obtain ⟨s0, hs0⟩ : ∃ s0 : zS, s0 = (zu y.1 (V.2.1 1) C i, y.2.1, y.2.2) := ⟨_, rfl⟩
  have sn : ∀ a, a ≠ V.2.1 1 → s0.1 a = y.1 a := fun a ha => by
    rw [hs0]
    exact zu_n _ _ _ ha
  have sr : s0.2.2 = y.2.2 := by rw [hs0]
  have yr : y.2.2 = x.2.2 := by rw [c1]
  have gr : ∀ a j, ¬ (a = rv ∧ (j = 5 ∨ j = 6)) → s0.2.2 a j = σ1.2.2 a j := fun a j n => by
    rw [sr, yr]
    exact gx.1 a j n
  have he : ∀ c kc, zT L1 kd1 c kc → (kc = 9 ∨ (46 ≤ kc ∧ kc ≤ 51)) → s0.1 c = σ1.1 c := fun c kc hc hk => by
    rw [sn c (zNk hc tI (by omega)), c4 c (by
      rintro (e | e | e | e)
      · exact zNk hc tA (by omega) e
      · exact zNk hc tI (by omega) e
      · exact zNk hc tW (by omega) e
      · exact zNk hc tM (by omega) e)]
    exact hes c kc hc hk
  have eI : ∀ j, j < 12 → y.1 (V.2.1 1) j = σ1.1 (V.2.1 0) j := fun j hj => by
    have e := congrArg (fun c : zCo => c.1 j) cc
    have e1 : (zcc V y.1 1).1 j = y.1 (V.2.1 1) j := if_pos hj
    have e2 : (zcc V σ1.1 0).1 j = σ1.1 (V.2.1 0) j := if_pos hj
    rw [← e1, ← e2]
    exact e
  have eW : ∀ j, j < 12 → y.1 (V.2.2.1 1) j = σ1.1 (V.2.2.1 0) j := fun j hj => by
    have e := congrArg (fun c : zCo => c.2.1 j) cc
    have e1 : (zcc V y.1 1).2.1 j = y.1 (V.2.2.1 1) j := if_pos hj
    have e2 : (zcc V σ1.1 0).2.1 j = σ1.1 (V.2.2.1 0) j := if_pos hj
    rw [← e1, ← e2]
    exact e
  have eM : ∀ j, j < 12 → y.1 (V.2.2.2 1) j = σ1.1 (V.2.2.2 0) j := fun j hj => by
    have e := congrArg (fun c : zCo => c.2.2.1 j) cc
    have e1 : (zcc V y.1 1).2.2.1 j = y.1 (V.2.2.2 1) j := if_pos hj
    have e2 : (zcc V σ1.1 0).2.2.1 j = σ1.1 (V.2.2.2 0) j := if_pos hj
    rw [← e1, ← e2]
    exact e
  have e3 : y.1 (V.1 1) 3 = σ1.1 (V.1 0) 3 := congrArg (fun c : zCo => c.2.2.2.1) cc
  have e4 : y.1 (V.1 1) 4 = σ1.1 (V.1 0) 4 := congrArg (fun c : zCo => c.2.2.2.2.1) cc
  have e5 : y.1 (V.1 1) 5 = σ1.1 (V.1 0) 5 := congrArg (fun c : zCo => c.2.2.2.2.2) cc
  have nA : V.1 1 ≠ V.2.1 1 := zNk tA tI (by decide)
  have nW : V.2.2.1 1 ≠ V.2.1 1 := zNk tW tI (by decide)
  have nM : V.2.2.2 1 ≠ V.2.1 1 := zNk tM tI (by decide)
  have hcI : ∀ e, 1 ≤ e → e < N → s0.1 (V.2.1 1) e = updR (σ2.1 (mR σ2 m0 48)) C i e := fun e e1 e2 => by
    rw [hs0]
    show zu y.1 (V.2.1 1) C i (V.2.1 1) e = if e = C then i else σ2.1 (mR σ2 m0 48) e
    by_cases d : e = C
    · rw [if_pos d, d, zu_s]
    · rw [if_neg d, zu_j _ _ _ _ _ (fun w => d w.symm), eI e (by omega)]
      exact er e e1 e2
  have hcD : s0.1 (V.1 1) 3 = σ1.1 (V.1 0) 3 := by rw [sn _ nA, e3]
  -- the reference
  obtain ⟨C2, C3⟩ := zCopies3 hJ hm R.1
  have hS7 : ([49, 54, 52, 53, 45, 46, 55] : List Nat).all (fun t => zf 0 11 t == some (100 + t)) = true := by rfl
  have r48 : ρ.1 (mR σ2 m0 48) = σ2.1 (mR σ2 m0 48) := zFm.row hJ hm R.2 (s := 48) (by rfl) hS7 (by rfl)
  obtain ⟨t1, ht1⟩ : ∃ t1, t1 = F_X11_copies m0 ρ := ⟨_, rfl⟩
  rw [← ht1] at C2 C3 ⊢
  have f1 := R.2.tr C3
  obtain ⟨ρ', hρ'⟩ : ∃ ρ' : zS, ρ' = (zu t1.1 (mR σ2 m0 49) C i, t1.2.1, t1.2.2) := ⟨_, rfl⟩
  have f2 : zFr (zFm [50, 51, 47] [49, 54, 52, 53, 45, 46, 55] m0 σ2.2.2) σ2 ρ' := by
    rw [hρ']
    exact f1.w (Or.inr ⟨49, by decide, rfl⟩)
  have row : ∀ j, j < 50 → ρ'.1 (mR σ2 m0 49) j = updR (σ2.1 (mR σ2 m0 48)) C i j := fun j hj => by
    rw [hρ']
    show zu t1.1 (mR σ2 m0 49) C i (mR σ2 m0 49) j = if j = C then i else σ2.1 (mR σ2 m0 48) j
    by_cases d : j = C
    · rw [if_pos d, d, zu_s]
    · rw [if_neg d, zu_j _ _ _ _ _ (fun w => d w.symm), C2 j hj, r48]
  rw [← hρ']
  obtain ⟨td2, B, gl, u, l, q, Y, w', t, ⟨hq, hY, hw0, ht0⟩, d2, S, W, m4, m5, FL⟩ := zSd.ofU zGd.q1 (fun _ _ _ h => h) h hw hl hx hI hJ hm hg n2 n1 hr' (fun j j1 j2 => if_neg (by omega)) f2.1 f2 row gr he (k := 1) (by decide) hcI hcD
  obtain rfl : td2 = td := Option.some.inj (d2.symm.trans d1)
  rw [← ht0]
  have q0 : q 0 = rv := by rw [hq]; rfl
  have q4 : q 4 = V.1 1 := by rw [hq]; rfl
  have q20 : q 20 = V.2.2.1 1 := by rw [hq]; rfl
  have q21 : q 21 = V.2.2.2 1 := by rw [hq]; rfl
  obtain ⟨td9, d9, t9⟩ := zi_ref (j := 10) (k2 := 9) hI hx (by rfl)
  obtain rfl : td9 = td2 := Option.some.inj (d9.symm.trans d1)
  have TT : ∀ i, i < 22 → zT L1 kd1 (q i) (qK i) := by
    rw [hq]
    exact qOf.t hL hV t9 (zTt_k hI t9) (k := 1) (by decide)
  have Dn : zDn q Y N w' t := by
    obtain ⟨-, -, N', n, uu, ⟨-, a2, a3, -⟩, Qk, -⟩ := id h
    obtain rfl : N' = N := by omega
    have rc : ∀ j, j < 50 → rC σ2.1 (mR σ2 m0 48) 0 j = σ2.1 (mR σ2 m0 48) j := fun j hj => by rw [rC_i hj, Nat.zero_add]
    have gn := hg.2
    have g49 : zp m0 σ2 48 49 = (σ2.1 (mR σ2 m0 48) 49).toInt := rfl
    have up : ∀ j, 12 ≤ j → j < 50 → t.1 (Y 49) j = σ2.1 (mR σ2 m0 48) j := fun j j1 j2 => by
      rw [m4 j j2]
      exact if_neg (by omega)
    have x4 : w'.1 (q 4) 4 = σ2.1 (mR σ2 m0 48) 48 := by rw [W 4 (by omega), q4, sn _ nA, e4, ← rc 48 (by decide)]; exact Qk.1.2.2.1
    have x5 : w'.1 (q 4) 5 = σ2.1 (mR σ2 m0 48) 49 := by rw [W 4 (by omega), q4, sn _ nA, e5, ← rc 49 (by decide)]; exact Qk.1.2.2.2
    refine ⟨fun p hp => ?_, by rw [x4, up 48 (by decide) (by decide)], by rw [x5, up 49 (by decide) (by decide)], by rw [x5]; omega, by rw [x5]; omega⟩
    obtain ⟨y1, y2, y3, y4⟩ := Qk.2.1 p hp
    rw [rc _ (by omega)] at y1 y2
    have u1 : (zcc V σ1.1 0).2.1 p = σ1.1 (V.2.2.1 0) p := if_pos (by omega)
    have u2 : (zcc V σ1.1 0).2.2.1 p = σ1.1 (V.2.2.2 0) p := if_pos (by omega)
    rw [u1] at y1 y3 y4
    rw [u2] at y2
    rw [W 20 (by omega), W 21 (by omega), q20, q21, sn _ nW, sn _ nM, eW p (by omega), eM p (by omega), up _ (by omega) (by omega), up _ (by omega) (by omega)]
    exact ⟨y1, y2, y3, y4⟩
  have FL := FL Dn
  have L := (S.fall Dn (m := 0) (by decide) zFr.id zFr.id).1
  obtain ⟨F, hF⟩ : ∃ F, F = F_X5_fall (q 0) 0 w' := ⟨_, rfl⟩
  rw [← hF] at FL L
  obtain ⟨xw, za, x1, x2, x3, x4, -⟩ := cWin S.1.1 S.1.2.1 S.1.2.2.1 S.1.2.2.2.1 S.1.2.2.2.2.2.2.2 hk hw3 (F := fun p => F.1 (q 6) p) L (fun p _ => rfl)
  obtain ⟨yw, zb, w1, w2, w3, w4⟩ := mWin S.2.1.1 S.2.1.2.1 S.2.1.2.2.1 S.2.1.2.2.2.1 S.2.1.2.2.2.2.1 S.1.2.2.2.1 S.2.1.2.2.2.2.2.2.2 hk hw3 (F := fun p => t.1 (Y 55) p) zFr.id (fun p _ => rfl)
  have xy : xw.toInt = yw.toInt := by
    rw [x2, w2]
    exact wnEq (S.eq Dn) FL
  have gs0 : zPv L1 kd1 V rv y s0 := ⟨fun a j _ => by rw [sr], fun c hc => sn c (fun e => by
    rw [e] at hc
    exact hc.2.2 (Or.inr (Or.inl rfl)))⟩
  have gxs : zPv L1 kd1 V rv σ1 s0 := (gx.tr gy).tr gs0
  have hVs := hV.keep gxs
  refine ⟨xw, yw, za, zb, ?_, w1, xy, ?_, ⟨?_, fun c kc hc hk => ?_⟩, w4.1.trans m5.1, m5.tr (zFr.up w4 (fun c j z => by
    rcases z with z | z | z
    · exact Or.inr ⟨45, by decide, by rw [hY] at z; exact z⟩
    · exact Or.inr ⟨46, by decide, by rw [hY] at z; exact z⟩
    · exact Or.inl ⟨z.1, by rw [z.2]; decide⟩))⟩
  · have nx : ∀ j, ¬ (x0 = rv ∧ (j = 5 ∨ j = 6)) := fun j z => zNk hx hV.2.1.2.1 (by decide) z.1
    have xx : ∀ j, x.2.2 x0 j = σ1.2.2 x0 j := fun j => gx.1 x0 j (nx j)
    have g7 : (σ1.2.2 x0 7).getD 0 = V.1 1 := by rw [hL.1.2.1]; rfl
    have g6 : (σ1.2.2 x0 6).getD 0 = V.1 0 := by rw [hL.1.1]; rfl
    have g10 : (σ1.2.2 x0 10).getD 0 = td9 := by rw [d1]; rfl
    have gI : (x.2.2 (V.1 1) 0).getD 0 = V.2.1 1 := (hLx.gA (k := 1) (by decide)).1
    have nc : c.toNatClampNeg = C := by rw [ztn, hc]; rfl
    have fx : ∀ j, F.2.2 x0 j = σ1.2.2 x0 j := fun j => by
      rw [L.rf, hw0, (zForm (V := V) hVs td9 (V.1 1)).1.1 x0 j (nx j)]
      exact gxs.1 x0 j (nx j)
    have eF : F_X5_look rv td9 (V.1 1) s0 = F := by
      unfold F_X5_look
      simp only [zlt]
      rw [hF, q0, hw0]
    have sE : (zu y.1 (V.2.1 1) C i, y.2.1, x.2.2) = s0 := by rw [hs0, yr]
    unfold F_X10_winsTurned
    simp only [zlt, zlt2, xx, g7, g6, ← hy, yr, gI, nc, xrv hV, g10, sE, eF, fx]
    rw [q0] at x1
    rw [x1]
    simp only [zlt2]
    by_cases e : xw.toInt = p.toInt
    · rw [if_pos e, if_pos e]
    · rw [if_neg e, if_neg e]
  · intro e
    rcases wn_r (S := sB N u) (C := fun p => clC q w' gl w p (F.1 (q 6) p)) (but := -1) N with zz | ⟨W0, W1, W2, W3, -⟩
    · omega
    · have sW := sB_t.mp W3
      have uC : (t.1 (Y 49) C).toInt = u C := S.2.1.2.2.2.2.2.1 C (by omega) (by omega)
      have iC : t.1 (Y 49) C = i := by
        rw [m4 C (by omega)]
        exact if_pos rfl
      rw [iC] at uC
      have aC : An u W0 C := ⟨1, by
        show (if C = 0 then 0 else u C) = W0
        rw [if_neg (by omega)]
        omega⟩
      have := sW.2.2 C (by omega) aC
      refine z6 ⟨0, ?_⟩
      show i.toInt = c.toInt
      omega
  · have gw := (zForm (V := V) hVs td9 (V.1 1)).1
    rw [← hw0] at gw
    have hVw := hVs.keep gw
    have gF : zPv L1 kd1 V rv w' F := by
      rw [hF, q0]
      exact zPv.fr (zFall (V := V) hVw 0) (fun _ _ q => q)
    exact ((gxs.tr gw).tr gF).tr (zPv.fr x4 (fun c j e => by
      rcases e with e | e | e
      · rw [e]; exact nPc (TT 7 (by decide)) (by decide)
      · rw [e]; exact nPc (TT 8 (by decide)) (by decide)
      · rw [e]; exact nPc (TT 9 (by decide)) (by decide)))
  · have a1 : za.1 c = F.1 c := funext (fun j => x4.2 c j (by
      rintro (e | e | e)
      · exact zNk hc (TT 7 (by decide)) (by rw [show qK 7 = 32 from rfl]; omega) e
      · exact zNk hc (TT 8 (by decide)) (by rw [show qK 8 = 20 from rfl]; omega) e
      · exact zNk hc (TT 9 (by decide)) (by rw [show qK 9 = 21 from rfl]; omega) e))
    have a2 : F.1 c = w'.1 c := funext (fun j => L.2 c j (by
      rintro (e | e | e | e | e)
      · exact zNk hc (TT 5 (by decide)) (by rw [show qK 5 = 30 from rfl]; omega) e
      · exact zNk hc (TT 6 (by decide)) (by rw [show qK 6 = 31 from rfl]; omega) e
      · exact zNk hc (TT 7 (by decide)) (by rw [show qK 7 = 32 from rfl]; omega) e
      · exact zNk hc (TT 8 (by decide)) (by rw [show qK 8 = 20 from rfl]; omega) e
      · exact zNk hc (TT 9 (by decide)) (by rw [show qK 9 = 21 from rfl]; omega) e))
    rw [a1, a2, hw0, formT hVs hc (by omega)]
    exact he c kc hc hk
/-- into all others -/
theorem zRL.turnIn (h : zRL zQw L1 kd1 x0 m0 V ps pc sl rv sh cd σ1 σ2) (hw : 0 < zM m0 σ2 → zLw x0 m0 σ1 σ2) (hl : zLen x0 m0 σ1 σ2) (hx : zT L1 kd1 x0 10) (hI : zI κ 0 L1 kd1 σ1) (hJ : zJ κ L2 kd2 σ2) (hm : zT L2 kd2 m0 11) (hg : gN m0 σ2) (d1 : σ1.2.2 x0 10 = some td) (n2 : zM m0 σ2 = N) (n1 : N ≤ 12) {w : Nat} (hk : k.toInt = w) (hw3 : w < 3) {C : Nat} (hc : c.toInt = C) {kA kB : Int32 → zS → Int32 × zS} (K : ∀ x ρ, zXi L1 kd1 V rv σ1 x → zRj m0 σ2 ρ → (kA (c + (1 : Int32)) x).1.toInt = (kB (c + (1 : Int32)) ρ).1.toInt) : ∀ (n : Nat) (z : Int32) (i : Nat) (x ρ : zS), z.toInt = i → 13 - i < n → zXi L1 kd1 V rv σ1 x → zRj m0 σ2 ρ → (F_X10_turnFor_27 c x0 p k kA n z x).1.toInt = (F_X11_turnFor_24 c m0 p k kB n z ρ).1.toInt := by
  have hL := h.1
  have hV := h.2.1
  have g10 : (σ1.2.2 x0 10).getD 0 = td := by rw [d1]; rfl
  obtain ⟨td9, d9, t9⟩ := zi_ref (j := 10) (k2 := 9) hI hx (by rfl)
  obtain rfl : td9 = td := Option.some.inj (d9.symm.trans d1)
  obtain ⟨hr2, hr1, er⟩ := h.rows zGd.q1 hg n2 n1
  have n0 : (σ1.1 td9 0).toInt = N := by
    obtain ⟨N', -, -, ⟨n3, n4, -⟩, -⟩ := h.2.2
    rw [g10] at n3
    omega
  have e0 : (0 : Int32).toInt = 0 := by decide
  have e1 : ¬ (1 : Int32).toInt = 0 := by decide
  have nx : ∀ j, ¬ (x0 = rv ∧ (j = 5 ∨ j = 6)) := fun j z => zNk hx hV.2.1.2.1 (by decide) z.1
  intro n
  induction n with
  | zero => intro z i x ρ _ h; exact absurd h (by omega)
  | succ n ih =>
    intro z i x ρ hz hn X R
    have xx : ∀ j, x.2.2 x0 j = σ1.2.2 x0 j := fun j => X.1.1 x0 j (nx j)
    have x9 : x.1 td9 = σ1.1 td9 := X.2 td9 9 t9 (by omega)
    have mN : (F_X11_many m0 ρ).toInt = N := by rw [mMany_g hJ hm R.2 (by rfl) (by rfl) (by rfl)]; exact n2
    have Rc := R.cp hJ hm
    have rg : ∀ j, ((F_X11_copies m0 ρ).2.2 m0 j).getD 0 = mR σ2 m0 j := fun j => by rw [Rc.2.rf]
    rw [F_X10_turnFor_27, F_X11_turnFor_24]
    simp only [↓zlt, xx, g10, x9]
    by_cases d : i < N
    · rw [if_pos (show z.toInt < (σ1.1 td9 0).toInt by omega), if_pos (show z.toInt < (F_X11_many m0 ρ).toInt by omega)]
      have z1 := zp1 hz (by omega)
      have go : ∀ x ρ, zXi L1 kd1 V rv σ1 x → zRj m0 σ2 ρ → (F_X10_turnFor_27 c x0 p k kA n (z + (1 : Int32)) x).1.toInt = (F_X11_turnFor_24 c m0 p k kB n (z + (1 : Int32)) ρ).1.toInt := fun x ρ X R => ih _ (i + 1) x ρ z1 (by omega) X R
      by_cases e : c.toInt = p.toInt
      · have eR : F_X11_winsTurned m0 p k c z ρ = (0, F_X11_copies m0 ρ) := by
          unfold F_X11_winsTurned
          simp only [zlt]
          rw [if_pos e]
        rw [if_pos e, eR]
        simp only [↓zlt2]
        rw [if_pos e0]
        exact go _ _ X Rc
      · have hLx := hL.pv hV.2.1.2.1 X.1
        obtain ⟨tI, -⟩ := (hL.2.2.2.1 0 (by decide)).1.2
        have xI : x.1 (V.2.1 0) = σ1.1 (V.2.1 0) := by
          obtain ⟨⟨uA, uI, uW, uM⟩, -⟩ := hL.2.2.2.1 1 (by decide)
          have i1 := hL.2.2.2.2.1 0 1 (by decide) (by decide)
          refine X.1.2 (V.2.1 0) ⟨tI.1, Or.inr (Or.inl tI.2), fun z => ?_⟩
          rcases z with z | z | z | z
          · exact zNk tI uA (by decide) z
          · exact absurd (i1 (Or.inr (Or.inl z))) (by decide)
          · exact zNk tI uW (by decide) z
          · exact zNk tI uM (by decide) z
        obtain ⟨a1, a2⟩ := cTurnOk (p := c) (q := z) hLx (by rw [xx, g10, x9]; exact n0) n1 (by rw [xI]; exact hr1)
        rw [xI, zTu.cg hr2 er] at a2
        obtain ⟨v, hv⟩ : ∃ v, v = (F_X10_isTurn x0 c z x).1 := ⟨_, rfl⟩
        have iT : F_X10_isTurn x0 c z x = (v, x) := Prod.ext hv.symm a1
        rw [← hv] at a2
        have mT := h.mTurnT (c := c) (i := z) hl hx hI hJ hm hg n2 n1 R
        rw [if_neg e, iT]
        simp only [↓zlt2]
        by_cases T : zTu N (σ2.1 (mR σ2 m0 48)) c z
        · rw [if_neg (fun q => a2.mp q T)]
          obtain ⟨xw, yw, za, zb, b1, b2, b3, b4, b5, b6⟩ := h.trnS (p := p) hw hl hx hI hJ hm hg d1 n2 n1 X R hc T hk hw3
          rw [b1]
          simp only [↓zlt2]
          by_cases f : z.toInt = p.toInt
          · have eR : F_X11_winsTurned m0 p k c z ρ = (0, F_X11_copies m0 ρ) := by
              unfold F_X11_winsTurned
              simp only [zlt]
              rw [if_neg e, if_pos f]
            rw [eR]
            simp only [↓zlt2]
            rw [if_neg (show ¬ xw.toInt = p.toInt from fun q => b4 (q.trans f.symm)), if_pos e0, if_pos e0]
            exact go _ _ b5 Rc
          · have nc : c.toNatClampNeg = C := by rw [ztn, hc]; rfl
            have eR : F_X11_winsTurned m0 p k c z ρ = (if xw.toInt = p.toInt then (1 : Int32) else 0, zb) := by
              unfold F_X11_winsTurned
              simp only [zlt, zlt2, rg, nc]
              rw [if_neg e, if_neg f, if_neg (fun q => mT.mp q T), b2]
              simp only [zlt2]
              by_cases g : xw.toInt = p.toInt
              · rw [if_pos g, if_pos (show yw.toInt = p.toInt by omega)]
              · rw [if_neg g, if_neg (show ¬ yw.toInt = p.toInt by omega)]
            rw [eR]
            simp only [↓zlt2]
            by_cases g : xw.toInt = p.toInt
            · rw [if_pos g, if_neg e1, if_neg e1]
            · rw [if_neg g, if_pos e0, if_pos e0]
              exact go _ _ b5 b6
        · have eR : F_X11_winsTurned m0 p k c z ρ = (0, F_X11_copies m0 ρ) := by
            unfold F_X11_winsTurned
            simp only [zlt]
            rw [if_neg e]
            by_cases f : z.toInt = p.toInt
            · rw [if_pos f]
            · rw [if_neg f, if_pos (mT.mpr T)]
          rw [if_pos (a2.mpr T), eR]
          simp only [↓zlt2]
          rw [if_pos e0]
          exact go _ _ X Rc
    · rw [if_neg (show ¬ z.toInt < (σ1.1 td9 0).toInt by omega), if_neg (show ¬ z.toInt < (F_X11_many m0 ρ).toInt by omega)]
      exact K _ _ X R
theorem zRL.turnOut (h : zRL zQw L1 kd1 x0 m0 V ps pc sl rv sh cd σ1 σ2) (hw : 0 < zM m0 σ2 → zLw x0 m0 σ1 σ2) (hl : zLen x0 m0 σ1 σ2) (hx : zT L1 kd1 x0 10) (hI : zI κ 0 L1 kd1 σ1) (hJ : zJ κ L2 kd2 σ2) (hm : zT L2 kd2 m0 11) (hg : gN m0 σ2) (d1 : σ1.2.2 x0 10 = some td) (n2 : zM m0 σ2 = N) (n1 : N ≤ 12) {w : Nat} (hk : k.toInt = w) (hw3 : w < 3) : ∀ (n : Nat) (z : Int32) (i : Nat) (x ρ : zS), z.toInt = i → 13 - i < n → zXi L1 kd1 V rv σ1 x → zRj m0 σ2 ρ → (F_X10_turnFor_13 x0 p k n z x).1.toInt = (F_X11_turnFor_13 m0 p k n z ρ).1.toInt := by
  have hV := h.2.1
  have g10 : (σ1.2.2 x0 10).getD 0 = td := by rw [d1]; rfl
  obtain ⟨td9, d9, t9⟩ := zi_ref (j := 10) (k2 := 9) hI hx (by rfl)
  obtain rfl : td9 = td := Option.some.inj (d9.symm.trans d1)
  have n0 : (σ1.1 td9 0).toInt = N := by
    obtain ⟨N', -, -, ⟨n3, n4, -⟩, -⟩ := h.2.2
    rw [g10] at n3
    omega
  have nx : ∀ j, ¬ (x0 = rv ∧ (j = 5 ∨ j = 6)) := fun j z => zNk hx hV.2.1.2.1 (by decide) z.1
  intro n
  induction n with
  | zero => intro z i x ρ _ h; exact absurd h (by omega)
  | succ n ih =>
    intro z i x ρ hz hn X R
    have xx : ∀ j, x.2.2 x0 j = σ1.2.2 x0 j := fun j => X.1.1 x0 j (nx j)
    have x9 : x.1 td9 = σ1.1 td9 := X.2 td9 9 t9 (by omega)
    have mN : (F_X11_many m0 ρ).toInt = N := by rw [mMany_g hJ hm R.2 (by rfl) (by rfl) (by rfl)]; exact n2
    rw [F_X10_turnFor_13, F_X11_turnFor_13]
    simp only [↓zlt, xx, g10, x9]
    by_cases d : i < N
    · rw [if_pos (show z.toInt < (σ1.1 td9 0).toInt by omega), if_pos (show z.toInt < (F_X11_many m0 ρ).toInt by omega)]
      exact h.turnIn hw hl hx hI hJ hm hg d1 n2 n1 hk hw3 hz (fun x ρ X R => ih _ (i + 1) x ρ (zp1 hz (by omega)) (by omega) X R) 10000 0 0 x ρ (by decide) (by omega) X R
    · rw [if_neg (show ¬ z.toInt < (σ1.1 td9 0).toInt by omega), if_neg (show ¬ z.toInt < (F_X11_many m0 ρ).toInt by omega)]
theorem zRL.turnFor (h : zRL zQw L1 kd1 x0 m0 V ps pc sl rv sh cd σ1 σ2) (hw : 0 < zM m0 σ2 → zLw x0 m0 σ1 σ2) (hl : zLen x0 m0 σ1 σ2) (hx : zT L1 kd1 x0 10) (hI : zI κ 0 L1 kd1 σ1) (hJ : zJ κ L2 kd2 σ2) (hm : zT L2 kd2 m0 11) (hg : gN m0 σ2) (f1 : (v1, τ1) = F_X10_turnFor x0 p k σ1) (f2 : (v2, τ2) = F_X11_turnFor m0 p k σ2) : v1.toInt = v2.toInt := by
  obtain ⟨td, B, N, gl, u, l, q, Y, d1, n2, eL, xr, ⟨hq, hY⟩, ⟨S, Dn, FL, RN⟩, -, -⟩ := h.now hw hl hx hI hJ hm hg
  have q1 : q 1 = sh := by rw [hq]; rfl
  obtain ⟨w1, e1, i1⟩ := cCt (p := p) (k := k) h.2.1 h.1 d1 eL xr q1 S
  obtain ⟨w2, e2, i2⟩ := mCt (p := p) (k := k) S
  have n1 := S.1.2.2.2.1
  unfold F_X10_turnFor at f1
  unfold F_X11_turnFor at f2
  simp only [zlt, zlt2, e1, e2] at f1 f2
  by_cases c : (0 ≤ k.toInt ∧ k.toInt ≤ 2) ∧ 0 ≤ p.toInt ∧ Src N u p.toInt.toNat
  · rw [if_neg (fun z => i1.mp z c)] at f1
    rw [if_neg (fun z => i2.mp z c)] at f2
    obtain ⟨w, hk⟩ : ∃ w : Nat, k.toInt = w := ⟨k.toInt.toNat, by omega⟩
    have R0 : zRj m0 σ2 σ2 := ⟨rfl, zFr.id⟩
    have T := h.turnOut (p := p) hw hl hx hI hJ hm hg d1 n2 n1 hk (by omega) 10000 1 1 (F_X10_look x0 σ1) (F_X11_copies m0 σ2) (by decide) (by omega) ⟨zLookN h.1 h.2.1, h.lookE hl hx hI hJ hm hg⟩ (R0.cp hJ hm)
    rw [show v1 = _ from congrArg Prod.fst f1, show v2 = _ from congrArg Prod.fst f2]
    exact T
  · rw [if_pos (i1.mpr c)] at f1
    rw [if_pos (i2.mpr c)] at f2
    rw [(zPr2 f1).1, (zPr2 f2).1]
theorem zRP.turnFor (h : zRP κ L1 kd1 L2 kd2 x0 m0 σ1 σ2) (hI : zI κ 0 L1 kd1 σ1) (hJ : zJ κ L2 kd2 σ2) (hx : zT L1 kd1 x0 10) (hm : zT L2 kd2 m0 11) (hg : gN m0 σ2) (f1 : (v1, τ1) = F_X10_turnFor x0 p k σ1) (f2 : (v2, τ2) = F_X11_turnFor m0 p k σ2) : v1.toInt = v2.toInt := by
  obtain ⟨V, ps, pc, sl, rv, sh, cd, hR⟩ := h.2.2
  exact hR.turnFor h.2.1 h.1.2 hx hI hJ hm hg f1 f2
end TURNFOR
end
-- 35y27.lw60
section
/-! SETS OF PLACES AS BITS: which is ahead of which -/
/-- numbers and their bits -/
theorem bt_tb {x : Int32} {s : Nat} (h : x.toInt = s) (j : Nat) : bt x j = s.testBit j := by
  have e : x.toBitVec.toNat = s := by
    have a : x.toInt = x.toBitVec.toInt := rfl
    have b := BitVec.toInt_eq_toNat_cond x.toBitVec
    have c := x.toBitVec.isLt
    split at b <;> omega
  rw [← e, BitVec.testBit_toNat]
  rfl
theorem bt_hi {x : Int32} {s n : Nat} (h : x.toInt = s) (hs : s < 2 ^ n) {j : Nat} (hj : n ≤ j) : bt x j = false := by
  rw [bt_tb h]
  exact Nat.testBit_lt_two_pow (Nat.lt_of_lt_of_le hs (Nat.pow_le_pow_right (by decide) hj))
theorem z_bits {x : Int32} : x.toInt = 0 ↔ ∀ j, j < 32 → bt x j = false := by
  constructor
  · intro h j _
    rw [show x = 0 from Int32.toInt_inj.mp (h.trans (by decide))]
    exact b_0 j
  · intro h
    rw [show x = 0 from b_ext (fun j hj => by rw [h j hj, b_0])]
    decide
theorem sub_le {x y : Int32} {s : Nat} (hx : x.toInt = s) (hy : 0 ≤ y.toInt) (h : ∀ j, j < 32 → bt x j = true → bt y j = true) : (s : Int) ≤ y.toInt := by
  obtain ⟨m, hm⟩ : ∃ m : Nat, y.toInt = m := ⟨y.toInt.toNat, by omega⟩
  have e : s &&& m = s := Nat.eq_of_testBit_eq (fun j => by
    rw [Nat.testBit_and]
    by_cases c : j < 32
    · have a := bt_tb hx j
      have b := bt_tb hm j
      cases d : s.testBit j with
      | false => rfl
      | true =>
        rw [d] at a
        rw [← b, h j c a]
        rfl
    · have a := bt_hi hx (n := 31) (by have := zb_rng x; omega) (j := j) (by omega)
      rw [bt_tb hx] at a
      rw [a]
      rfl)
  have := Nat.and_le_right (n := s) (m := m)
  omega
theorem least {P : Nat → Prop} : ∀ n, (∃ j, j < n ∧ P j) → ∃ d, d < n ∧ P d ∧ ∀ j, j < d → ¬ P j := by
  intro n
  induction n with
  | zero =>
    rintro ⟨j, h, -⟩
    exact absurd h (by omega)
  | succ n ih =>
    rintro ⟨j, h1, h2⟩
    by_cases c : ∃ j, j < n ∧ P j
    · obtain ⟨d, d1, d2, d3⟩ := ih c
      exact ⟨d, by omega, d2, d3⟩
    · have e : j = n := by
        apply Classical.byContradiction
        intro z
        exact c ⟨j, by omega, h2⟩
      rw [e] at h2
      exact ⟨n, by omega, h2, fun i hi z => c ⟨i, hi, z⟩⟩
/-- the lowest bit of a number -/
theorem low_b {y : Int32} {d : Nat} (hd : d < 32) (h1 : bt y d = true) (h2 : ∀ j, j < d → ¬ bt y j = true) {j : Nat} (hj : j < 32) : bt (y &&& -y) j = decide (j = d) := by
  have n : bt (-y) j = (bt y j ^^ decide (∃ i, i < j ∧ bt y i = true)) := by
    unfold bt
    rw [Int32.toBitVec_neg, BitVec.getLsbD_neg, decide_eq_true hj, Bool.true_and]
  rw [b_and, n]
  by_cases c : j = d
  · rw [c, decide_eq_true rfl, h1, decide_eq_false (fun ⟨i, i1, i2⟩ => h2 i i1 i2)]
    rfl
  · rw [decide_eq_false c]
    cases b : bt y j with
    | false => rfl
    | true =>
      have k : d < j := by
        apply Classical.byContradiction
        intro z
        exact h2 j (by omega) b
      rw [decide_eq_true ⟨d, k, h1⟩]
      rfl
section CNT2
variable {P Q : Nat → Prop}
theorem cnt_mno {m : Nat} : ∀ n, m ≤ n → cnt P m ≤ cnt P n := by
  intro n
  induction n with
  | zero =>
    intro h
    rw [show m = 0 by omega]
    exact Nat.le_refl _
  | succ n ih =>
    intro h
    by_cases e : m = n + 1
    · rw [e]
      exact Nat.le_refl _
    · have := ih (by omega)
      rw [cnt]
      omega
theorem cnt_t {n : Nat} (h : P n) : cnt P (n + 1) = cnt P n + 1 := by rw [cnt, if_pos h]
theorem cnt_f {n : Nat} (h : ¬ P n) : cnt P (n + 1) = cnt P n := by
  rw [cnt, if_neg h]
  rfl
theorem cnt_ex {e : Nat} : ∀ n, e < cnt P n → ∃ p, p < n ∧ P p ∧ cnt P p = e := by
  intro n
  induction n with
  | zero => intro h; exact absurd h (by unfold cnt; omega)
  | succ n ih =>
    intro h
    by_cases c : e < cnt P n
    · obtain ⟨p, p1, p2, p3⟩ := ih c
      exact ⟨p, by omega, p2, p3⟩
    · by_cases d : P n
      · rw [cnt_t d] at h
        exact ⟨n, by omega, d, by omega⟩
      · rw [cnt_f d] at h
        exact absurd h c
end CNT2
section ITH
variable {x b : Int32}
/-- the i-th of the bits -/
theorem ithS {r : Int32} {p i : Nat} (hr : r.toInt = i) (hp : p < 12) (h1 : bt x p = true) (h2 : cnt (fun j => bt x j = true) p = i) : (F_X11_ithOf x r).toInt = p := by
  have e12 : (12 : Int32).toInt = 12 := by decide
  have key : ∀ (n : Nat) (y z : Int32) (j : Nat), y.toInt = j → j ≤ p → 13 - j < n → z.toInt = cnt (fun j => bt x j = true) j → (F_X11_ithOf_4 x r n y z).toInt = p := by
    intro n
    induction n with
    | zero => intro y z j _ _ h; exact absurd h (by omega)
    | succ n ih =>
      intro y z j hy hj hn hz
      have cut := bt_cut (x := x) hy (by omega)
      have y1 := zp1 hy (by omega)
      have cl := cnt_le (P := fun j => bt x j = true) j
      rw [F_X11_ithOf_4]
      simp only [↓zlt, e12]
      rw [if_pos (by omega)]
      by_cases c : bt x j = true
      · rw [if_neg (fun k => cut.1.mp k c)]
        by_cases d : j = p
        · rw [if_pos (by rw [hz, d, h2, hr]), hy, d]
        · have m := cnt_mno (P := fun j => bt x j = true) (m := j + 1) p (by omega)
          rw [cnt_t (P := fun j => bt x j = true) (n := j) c] at m
          rw [if_neg (by rw [hz, hr]; omega)]
          refine ih _ _ (j + 1) y1 (by omega) (by omega) ?_
          rw [zp1 hz (by omega), cnt_t (P := fun j => bt x j = true) (n := j) c]
      · rw [if_pos (cut.1.mpr c)]
        have d : j ≠ p := fun e => c (by rw [e]; exact h1)
        refine ih _ _ (j + 1) y1 (by omega) (by omega) ?_
        rw [hz, cnt_f (P := fun j => bt x j = true) (n := j) c]
  unfold F_X11_ithOf
  simp only [zlt]
  exact key 10000 0 0 0 (by decide) (by omega) (by omega) (show (0 : Int32).toInt = ((0 : Nat) : Int) by decide)
/-- the class' i-th bit is the reference's -/
theorem ithE (x r : Int32) : F_X10_bitAt x r = F_X11_ithOf x r := by
  have e12 : (12 : Int32).toInt = 12 := by decide
  have key : ∀ (n : Nat) (y z : Int32) (j : Nat), y.toInt = j → j ≤ 12 → 13 - j < n → F_X10_bitAt_4 x r n y z = F_X11_ithOf_4 x r n y z := by
    intro n
    induction n with
    | zero => intro y z j _ _ h; exact absurd h (by omega)
    | succ n ih =>
      intro y z j hy hj hn
      rw [F_X10_bitAt_4, F_X11_ithOf_4]
      simp only [↓zlt, e12]
      by_cases k : j < 12
      · have cut := bt_cut (x := x) hy (by omega)
        have hs := cHas (x := x) hy (by omega)
        have y1 := zp1 hy (by omega)
        rw [if_pos (show y.toInt < 12 by omega), if_pos (show y.toInt < 12 by omega)]
        by_cases c : bt x j = true
        · rw [if_pos c] at hs
          rw [if_neg (show ¬ (F_X10_has x y).toInt = 0 by omega), if_neg (fun k => cut.1.mp k c)]
          by_cases d : z.toInt = r.toInt
          · rw [if_pos d, if_pos d]
          · rw [if_neg d, if_neg d]
            exact ih _ _ (j + 1) y1 (by omega) (by omega)
        · rw [if_neg c] at hs
          rw [if_pos hs, if_pos (cut.1.mpr c)]
          exact ih _ _ (j + 1) y1 (by omega) (by omega)
      · rw [if_neg (show ¬ y.toInt < 12 by omega), if_neg (show ¬ y.toInt < 12 by omega)]
  unfold F_X10_bitAt F_X11_ithOf
  simp only [zlt]
  exact key 10000 0 0 0 (by decide) (by omega) (by omega)
/-- the first unlike ones decide -/
theorem erlL {e p q : Nat} (h3 : e < 3) (hl : ∀ i, i < e → ∀ r : Int32, r.toInt = i → (F_X11_ithOf x r).toInt = (F_X11_ithOf b r).toInt) (hp : ∀ r : Int32, r.toInt = e → (F_X11_ithOf x r).toInt = p) (hq : ∀ r : Int32, r.toInt = e → (F_X11_ithOf b r).toInt = q) (n : p ≠ q) : ∀ (m : Nat) (r : Int32) (i : Nat), r.toInt = i → i ≤ e → 4 - i < m → (F_X11_isEarlier_2 x b m r).toInt = if p < q then 1 else 0 := by
  have e3 : (3 : Int32).toInt = 3 := by decide
  intro m
  induction m with
  | zero => intro r i _ _ h; exact absurd h (by omega)
  | succ m ih =>
    intro r i hr hi hm
    rw [F_X11_isEarlier_2]
    simp only [↓zlt, e3]
    rw [if_pos (by omega)]
    by_cases c : i = e
    · have a := hp r (by omega)
      have d := hq r (by omega)
      rw [if_neg (by omega)]
      by_cases k : p < q
      · rw [if_pos (by omega), if_pos k]
        decide
      · rw [if_neg (by omega), if_neg k]
        decide
    · rw [if_pos (hl i (by omega) r hr)]
      exact ih _ (i + 1) (zp1 hr (by omega)) (by omega) (by omega)
theorem erlS : ∀ (m : Nat) (r : Int32) (i : Nat), r.toInt = i → i ≤ 3 → 4 - i < m → (F_X11_isEarlier_2 x x m r).toInt = 0 := by
  have e3 : (3 : Int32).toInt = 3 := by decide
  intro m
  induction m with
  | zero => intro r i _ _ h; exact absurd h (by omega)
  | succ m ih =>
    intro r i hr hi hm
    rw [F_X11_isEarlier_2]
    simp only [↓zlt, e3]
    by_cases c : i < 3
    · rw [if_pos (by omega), if_pos trivial]
      exact ih _ (i + 1) (zp1 hr (by omega)) (by omega) (by omega)
    · rw [if_neg (by omega)]
      decide
/-- both tell alike which of two sets of as many is ahead -/
theorem erl (hx : ∀ j, 12 ≤ j → j < 32 → bt x j = false) (hb : ∀ j, 12 ≤ j → j < 32 → bt b j = false) (hc : cnt (fun j => bt x j = true) 12 = cnt (fun j => bt b j = true) 12) (h3 : cnt (fun j => bt x j = true) 12 ≤ 3) : (F_X11_isEarlier x b).toInt = 0 ↔ (x &&& ((x ^^^ b) &&& -(x ^^^ b))).toInt = 0 := by
  have o0 : (0 : Int32).toInt = 0 := by decide
  have z0 : (0 : Int32).toInt = (0 : Nat) := by decide
  unfold F_X11_isEarlier
  simp only [zlt]
  by_cases E : x = b
  · rw [← E, erlS 10000 0 0 z0 (by omega) (by omega)]
    refine ⟨fun _ => z_bits.mpr (fun j hj => ?_), fun _ => rfl⟩
    rw [b_and, b_and, b_xor]
    cases bt x j <;> rfl
  · obtain ⟨d, d1, d2, d3⟩ := least (P := fun j => ¬ bt x j = bt b j) 32 (by
      apply Classical.byContradiction
      intro z
      refine E (b_ext (fun j hj => ?_))
      apply Classical.byContradiction
      intro k
      exact z ⟨j, hj, k⟩)
    have d12 : d < 12 := by
      apply Classical.byContradiction
      intro z
      exact d2 (by rw [hx d (by omega) d1, hb d (by omega) d1])
    have same : ∀ j, j < d → (bt x j = true ↔ bt b j = true) := fun j hj => by
      have k : bt x j = bt b j := by
        apply Classical.byContradiction
        intro k
        exact d3 j hj k
      rw [k]
    have L := fun {j : Nat} (hj : j < 32) => low_b (y := x ^^^ b) (d := d) d1 (by
      rw [b_xor]
      revert d2
      cases bt x d <;> cases bt b d <;> simp) (fun j hj z => by
      rw [b_xor] at z
      have k : bt x j = bt b j := by
        apply Classical.byContradiction
        intro k
        exact d3 j hj k
      rw [k] at z
      revert z
      cases bt b j <;> simp) hj
    have R : (x &&& ((x ^^^ b) &&& -(x ^^^ b))).toInt = 0 ↔ ¬ bt x d = true := by
      rw [z_bits]
      constructor
      · intro z k
        have := z d d1
        rw [b_and, L d1, decide_eq_true rfl, k] at this
        exact absurd this (by decide)
      · intro z j hj
        rw [b_and, L hj]
        by_cases c : j = d
        · rw [c]
          cases k : bt x d with
          | false => rfl
          | true => exact absurd k z
        · rw [decide_eq_false c, Bool.and_false]
    rw [R]
    obtain ⟨e, he⟩ : ∃ e, e = cnt (fun j => bt x j = true) d := ⟨_, rfl⟩
    have he2 : cnt (fun j => bt b j = true) d = e := by
      rw [he]
      exact (cnt_cg d (fun j hj => same j hj)).symm
    have hl : ∀ i, i < e → ∀ r : Int32, r.toInt = i → (F_X11_ithOf x r).toInt = (F_X11_ithOf b r).toInt := fun i hi r hr => by
      obtain ⟨p, p1, p2, p3⟩ := cnt_ex (P := fun j => bt x j = true) (e := i) d (by omega)
      rw [ithS hr (by omega) p2 p3, ithS hr (by omega) ((same p p1).mp p2) (by
        rw [← p3]
        exact (cnt_cg p (fun j hj => same j (by omega))).symm)]
    have other : ∀ {u v : Int32}, cnt (fun j => bt u j = true) d = e → cnt (fun j => bt v j = true) d = e → bt u d = true → ¬ bt v d = true → cnt (fun j => bt u j = true) 12 = cnt (fun j => bt v j = true) 12 → cnt (fun j => bt u j = true) 12 ≤ 3 → e < 3 ∧ (∀ r : Int32, r.toInt = e → (F_X11_ithOf u r).toInt = d) ∧ ∃ q, d < q ∧ ∀ r : Int32, r.toInt = e → (F_X11_ithOf v r).toInt = q := fun {u v} u1 v1 u2 v2 c1 c2 => by
      have a := cnt_mno (P := fun j => bt u j = true) (m := d + 1) 12 (by omega)
      rw [cnt_t (P := fun j => bt u j = true) (n := d) u2] at a
      obtain ⟨q, q1, q2, q3⟩ := cnt_ex (P := fun j => bt v j = true) (e := e) 12 (by omega)
      refine ⟨by omega, fun r hr => ithS hr d12 u2 u1, q, ?_, fun r hr => ithS hr q1 q2 q3⟩
      apply Classical.byContradiction
      intro z
      by_cases k : q = d
      · exact v2 (by rw [← k]; exact q2)
      · have m := cnt_mno (P := fun j => bt v j = true) (m := q + 1) d (by omega)
        rw [cnt_t (P := fun j => bt v j = true) (n := q) q2] at m
        omega
    by_cases X : bt x d = true
    · have Bd : ¬ bt b d = true := fun z => d2 (by rw [X, z])
      obtain ⟨k1, k2, q, k3, k4⟩ := other he.symm he2 X Bd hc h3
      rw [erlL k1 hl k2 k4 (by omega) 10000 0 0 z0 (by omega) (by omega), if_pos k3]
      exact ⟨fun z => absurd z (by decide), fun z => absurd X z⟩
    · have Bd : bt b d = true := by
        revert d2 X
        cases bt x d <;> cases bt b d <;> simp
      obtain ⟨k1, k2, q, k3, k4⟩ := other he2 he.symm Bd X hc.symm (by omega)
      rw [erlL k1 hl k4 k2 (by omega) 10000 0 0 z0 (by omega) (by omega), if_neg (by omega)]
      exact ⟨fun _ => X, fun _ => rfl⟩
end ITH
end
-- 35y28.lw61
section
/-! THE FEWEST DAMS: dams -/
theorem p2N : ∀ N : Nat, N ≤ 12 → ((1 : Int32) <<< (nI N &&& 31)).toInt = ((2 ^ N : Nat) : Int) := by decide
theorem mskN : ∀ N : Nat, N ≤ 12 → ∀ j : Nat, j < 32 → bt ((1 : Int32) <<< (nI N &&& 31) - 1) j = decide (j < N) := by decide +kernel
/-- what is told of the set found -/
noncomputable def dAns (r b : Int32) : Int32 := if b.toInt = -1 then -2 else if r.toInt = -1 then F_J6_bitCount_0f7a4 b else F_X10_bitAt b r
def okS (b : Int32) : Prop := b.toInt = -1 ∨ (0 ≤ b.toInt ∧ (∀ j, 12 ≤ j → j < 32 → bt b j = false) ∧ cnt (fun j => bt b j = true) 12 ≤ 3)
section AHEAD
variable {z b r v f dm D0 : Int32} {m0 N H : Nat} {ρ : zS}
theorem ahdS (hz : ∀ j, 12 ≤ j → j < 32 → bt z j = false) (h3 : cnt (fun j => bt z j = true) 12 ≤ 3) (hb : okS b) : (F_X10_isAhead z b).toInt = 0 ↔ ¬ (b.toInt < 0 ∨ cnt (fun j => bt z j = true) 12 < cnt (fun j => bt b j = true) 12 ∨ (cnt (fun j => bt z j = true) 12 = cnt (fun j => bt b j = true) 12 ∧ ¬ (F_X11_isEarlier z b).toInt = 0)) := by
  have m1 : (-1 : Int32).toInt = -1 := by decide
  have n1 : ¬ (1 : Int32).toInt = 0 := by decide
  have e0 : (0 : Int32).toInt = 0 := by decide
  unfold F_X10_isAhead
  simp only [zlt, m1]
  rcases hb with hb | ⟨b1, b2, b3⟩
  · rw [if_pos hb]
    exact ⟨fun k => absurd k n1, fun k => absurd (Or.inl (by omega)) k⟩
  · rw [if_neg (by omega)]
    have cb := bitC b2
    have cz := bitC hz
    have sb : (F_J6_bitCount_0f7a4 b - F_J6_bitCount_0f7a4 z).toInt = (cnt (fun j => bt b j = true) 12 : Int) - cnt (fun j => bt z j = true) 12 := by
      rw [zb_sub (by omega) (by omega), cb, cz]
    by_cases c : 0 < (F_J6_bitCount_0f7a4 b - F_J6_bitCount_0f7a4 z).toInt
    · rw [if_pos c]
      exact ⟨fun k => absurd k n1, fun k => absurd (Or.inr (Or.inl (by omega))) k⟩
    · rw [if_neg c]
      by_cases d : (F_J6_bitCount_0f7a4 b - F_J6_bitCount_0f7a4 z).toInt = 0
      · rw [if_pos d]
        have ec : cnt (fun j => bt z j = true) 12 = cnt (fun j => bt b j = true) 12 := by omega
        have E := erl hz b2 ec h3
        by_cases k : (z &&& ((z ^^^ b) &&& -(z ^^^ b))).toInt = 0
        · rw [if_pos k]
          refine ⟨fun _ => ?_, fun _ => e0⟩
          rintro (w | w | ⟨-, w⟩)
          · omega
          · omega
          · exact w (E.mpr k)
        · rw [if_neg k]
          exact ⟨fun w => absurd w n1, fun w => absurd (Or.inr (Or.inr ⟨ec, fun y => k (E.mp y)⟩)) w⟩
      · rw [if_neg d]
        refine ⟨fun _ => ?_, fun _ => e0⟩
        rintro (w | w | ⟨w, -⟩)
        · omega
        · omega
        · omega
/-- even numbers below 2^N have their bits at places beside the mouth -/
theorem evnB {h : Nat} (hz : z.toInt = ((2 * h : Nat) : Int)) (hh : 2 * h < 2 ^ N) {j : Nat} (k : bt z j = true) : 1 ≤ j ∧ j < N := by
  refine ⟨?_, ?_⟩
  · apply Classical.byContradiction
    intro w
    rw [show j = 0 by omega, bt_tb hz] at k
    rw [Nat.testBit_zero] at k
    simp at k
  · apply Classical.byContradiction
    intro w
    rw [bt_hi hz hh (by omega)] at k
    exact absurd k (by decide)
/-- both ask alike whether a set can be dammed -/
theorem subT (hf : ∀ j, j < 32 → (bt f j = true ↔ 1 ≤ j ∧ j < N ∧ ¬ bt D0 j = true)) : (z &&& (f ^^^ (-1 : Int32))).toInt = 0 ↔ ∀ j, j < 32 → bt z j = true → bt f j = true := by
  rw [z_bits]
  constructor
  · intro w j hj k
    have := w j hj
    rw [b_and, b_xor, b_m1 j hj, k] at this
    revert this
    cases bt f j <;> simp
  · intro w j hj
    rw [b_and, b_xor, b_m1 j hj]
    cases k : bt z j with
    | false => rfl
    | true =>
      rw [w j hj k]
      rfl
theorem dmT {h : Nat} (hz : z.toInt = ((2 * h : Nat) : Int)) (hh : 2 * h < 2 ^ N) (hf : ∀ j, j < 32 → (bt f j = true ↔ 1 ≤ j ∧ j < N ∧ ¬ bt D0 j = true)) (hd : ∀ j, j < 32 → (bt dm j = true ↔ 1 ≤ j ∧ j < N ∧ bt D0 j = true)) : (z &&& dm).toInt = 0 ↔ (z &&& (f ^^^ (-1 : Int32))).toInt = 0 := by
  rw [subT hf, z_bits]
  constructor
  · intro w j hj k
    obtain ⟨j1, j2⟩ := evnB hz hh k
    refine (hf j hj).mpr ⟨j1, j2, fun y => ?_⟩
    have := w j hj
    rw [b_and, k, (hd j hj).mpr ⟨j1, j2, y⟩] at this
    exact absurd this (by decide)
  · intro w j hj
    rw [b_and]
    cases k : bt z j with
    | false => rfl
    | true =>
      cases y : bt dm j with
      | false => rfl
      | true => exact absurd ((hd j hj).mp y).2.2 ((hf j hj).mp (w j hj k)).2.2
/-- the reference's answer at its end -/
theorem dFin (hb : okS b) : (if b.toInt < 0 then (-2 : Int32) else if r.toInt = (-1 : Int32).toInt then F_X11_bits b else F_X11_ithOf b r).toInt = (dAns r b).toInt := by
  have m1 : (-1 : Int32).toInt = -1 := by decide
  unfold dAns
  rw [m1]
  rcases hb with hb | ⟨b1, b2, b3⟩
  · rw [if_pos (by omega), if_pos hb]
  · rw [if_neg (show ¬ b.toInt < 0 by omega), if_neg (show ¬ b.toInt = -1 by omega)]
    by_cases c : r.toInt = -1
    · rw [if_pos c, if_pos c, bitM, bitC b2]
    · rw [if_neg c, if_neg c, ithE]
/-- beyond all that is free, the reference goes by -/
theorem dSkip (hN : N ≤ 12) (hH : 2 ^ N = 2 * H) (f0 : 0 ≤ f.toInt) (hf : ∀ j, j < 32 → (bt f j = true ↔ 1 ≤ j ∧ j < N ∧ ¬ bt D0 j = true)) (hd : ∀ j, j < 32 → (bt dm j = true ↔ 1 ≤ j ∧ j < N ∧ bt D0 j = true)) (hM : (F_X11_many m0 ρ).toInt = N) (hb : okS b) : ∀ (d n : Nat) (z : Int32) (h : Nat), z.toInt = ((2 * h : Nat) : Int) → h + d = H → d < n → f.toInt < 2 * h → (F_X11_dams_40 dm m0 v r n z b ρ).1.toInt = (dAns r b).toInt := by
  have e3 : (3 : Int32).toInt = 3 := by decide
  have o2 : (2 : Int32).toInt = 2 := by decide
  have mN : F_X11_many m0 ρ = nI N := zNi hM (by omega)
  have pN := p2N N hN
  have hH' : H ≤ 2048 := by
    have := Nat.pow_le_pow_right (n := 2) (by decide) hN
    omega
  intro d
  induction d with
  | zero =>
    intro n z h hz hd0 hn hl
    obtain ⟨n, rfl⟩ : ∃ k, n = k + 1 := ⟨n - 1, by omega⟩
    rw [F_X11_dams_40]
    simp only [↓zlt, mN, pN]
    rw [if_neg (by omega), ← dFin hb]
    by_cases c : b.toInt < 0
    · rw [if_pos c, if_pos c]
    · rw [if_neg c, if_neg c]
      by_cases e : r.toInt = (-1 : Int32).toInt
      · rw [if_pos e, if_pos e]
      · rw [if_neg e, if_neg e]
  | succ d ih =>
    intro n z h hz hd0 hn hl
    obtain ⟨n, rfl⟩ : ∃ k, n = k + 1 := ⟨n - 1, by omega⟩
    have z2 : (z + (2 : Int32)).toInt = ((2 * (h + 1) : Nat) : Int) := by
      rw [zb_add (by omega) (by omega), o2]
      omega
    have go := ih n (z + (2 : Int32)) (h + 1) z2 (by omega) (by omega) (by omega)
    rw [F_X11_dams_40]
    simp only [↓zlt, mN, pN, e3]
    rw [if_pos (by omega)]
    by_cases c : 3 < (F_X11_bits z).toInt
    · rw [if_pos c]
      exact go
    · rw [if_neg c]
      have T := dmT hz (by omega) hf hd
      have ns : ¬ (z &&& dm).toInt = 0 := fun w => by
        have s := (subT hf).mp (T.mp w)
        have := sub_le hz f0 s
        omega
      rw [if_neg ns]
      exact go
end AHEAD
section DAMS2
variable {κ : Int} {L1 : List Nat} {kd1 : Nat → Nat} {L2 : List Nat} {kd2 : Nat → Nat} {σ1 σ2 τ1 τ2 s t x ρ : zS} {m0 x0 : Nat} {V : zWh} {ps pc sl rv sh cd td N H : Nat} {v1 v2 v r f dm : Int32} {q Y : Nat → Nat}
theorem zRL.damsL (h : zRL zQw L1 kd1 x0 m0 V ps pc sl rv sh cd σ1 σ2) (hw : 0 < zM m0 σ2 → zLw x0 m0 σ1 σ2) (hl : zLen x0 m0 σ1 σ2) (hx : zT L1 kd1 x0 10) (hI : zI κ 0 L1 kd1 σ1) (hJ : zJ κ L2 kd2 σ2) (hm : zT L2 kd2 m0 11) (hg : gN m0 σ2) (d1 : σ1.2.2 x0 10 = some td) (n2 : zM m0 σ2 = N) (hN : 0 < N) (hN12 : N ≤ 12) (hq : q = qOf σ1.2.2 rv sh cd td V 0) (hY : Y = mR σ2 m0) (eL : F_X5_look rv td (V.1 0) σ1 = F_X10_look x0 σ1) (xr : ∀ j, (F_X10_look x0 σ1).2.2 x0 j = σ1.2.2 x0 j) (g63 : ((F_X10_look x0 σ1).2.2 (q 0) 3).getD 0 = q 6) (n0 : ((F_X10_look x0 σ1).1 td 0).toInt = N) (ntd : ∀ j, ¬ zQ6 q td j) (nA : ∀ j, ¬ zQ6 q (V.1 0) j) (hH : 2 ^ N = 2 * H) (f0 : 0 ≤ f.toInt) (f1 : f.toInt < ((2 ^ N : Nat) : Int)) (hf : ∀ j, j < 32 → (bt f j = true ↔ 1 ≤ j ∧ j < N ∧ ¬ bt (σ1.1 (V.1 0) 3) j = true)) (hd : ∀ j, j < 32 → (bt dm j = true ↔ 1 ≤ j ∧ j < N ∧ bt (σ1.1 (V.1 0) 3) j = true)) : ∀ (d n n' : Nat) (z b : Int32) (e : Nat) (x ρ : zS), z.toInt = ((2 * e : Nat) : Int) → e + d = H → 2 * d + 2 < n → d < n' → zFr (zQ6 q) (F_X10_look x0 σ1) x → zRj m0 σ2 ρ → okS b → (dAns r (F_X10_fewestDams_33 f x0 v n z b x).1).toInt = (F_X11_dams_40 dm m0 v r n' z b ρ).1.toInt := by
  have hL := h.1
  have hV := h.2.1
  have g10 : (σ1.2.2 x0 10).getD 0 = td := by rw [d1]; rfl
  have g6 : (σ1.2.2 x0 6).getD 0 = V.1 0 := by rw [hL.1.1]; rfl
  have q0 : q 0 = rv := by rw [hq]; rfl
  have e3 : (3 : Int32).toInt = 3 := by decide
  have o2 : (2 : Int32).toInt = 2 := by decide
  have o1 : (1 : Int32).toInt = 1 := by decide
  have w0 : (0 : Int32).toNatClampNeg = 0 := by decide
  have pN := p2N N hN12
  have hH' : H ≤ 2048 := by
    have := Nat.pow_le_pow_right (n := 2) (by decide) hN12
    omega
  have f1' : f.toInt < 2 * H := by
    rw [hH] at f1
    omega
  have mM : ∀ {ρ : zS}, zRj m0 σ2 ρ → (F_X11_many m0 ρ).toInt = N := fun R => by rw [mMany_g hJ hm R.2 (by rfl) (by rfl) (by rfl)]; exact n2
  intro d
  induction d with
  | zero =>
    intro n n' z b e x ρ hz hd0 hn hn' fx R hb
    obtain ⟨n, rfl⟩ : ∃ k, n = k + 1 := ⟨n - 1, by omega⟩
    rw [dSkip hN12 hH f0 hf hd (mM R) hb 0 n' z e hz hd0 hn' (by omega), F_X10_fewestDams_33, if_pos (by omega)]
  | succ d ih =>
    intro n n' z b e x ρ hz hd0 hn hn' fx R hb
    obtain ⟨n, rfl⟩ : ∃ k, n = k + 1 + 1 := ⟨n - 2, by omega⟩
    by_cases A : f.toInt < z.toInt
    · rw [dSkip hN12 hH f0 hf hd (mM R) hb (d + 1) n' z e hz hd0 hn' (by omega), F_X10_fewestDams_33, if_pos A]
    obtain ⟨n', rfl⟩ : ∃ k, n' = k + 1 := ⟨n' - 1, by omega⟩
    have z1 : (z + (1 : Int32)).toInt = ((2 * e : Nat) : Int) + 1 := by
      rw [zb_add (by omega) (by omega), o1, hz]
    have z2 : (z + (2 : Int32)).toInt = ((2 * (e + 1) : Nat) : Int) := by
      rw [zb_add (by omega) (by omega), o2]
      omega
    have z12 : z + (1 : Int32) + (1 : Int32) = z + (2 : Int32) := by
      refine Int32.toInt_inj.mp ?_
      rw [zb_add (by omega) (by omega), o1, z1, z2]
      omega
    -- the odd number behind
    have go : ∀ (b : Int32) (x ρ : zS), zFr (zQ6 q) (F_X10_look x0 σ1) x → zRj m0 σ2 ρ → okS b → (dAns r (F_X10_fewestDams_33 f x0 v (n + 1) (z + (1 : Int32)) b x).1).toInt = (F_X11_dams_40 dm m0 v r n' (z + (2 : Int32)) b ρ).1.toInt := fun b x ρ fx R hb => by
      by_cases B : f.toInt < (z + (1 : Int32)).toInt
      · rw [dSkip hN12 hH f0 hf hd (mM R) hb d n' (z + (2 : Int32)) (e + 1) z2 (by omega) (by omega) (by omega), F_X10_fewestDams_33, if_pos B]
      · rw [F_X10_fewestDams_33, if_neg B]
        simp only [↓zlt]
        have ns : ¬ ((z + (1 : Int32)) &&& (f ^^^ (-1 : Int32))).toInt = 0 := fun w => by
          have k := (subT hf).mp w 0 (by decide) (by
            rw [bt_tb (s := 2 * e + 1) (by omega), Nat.testBit_zero]
            simp)
          have := ((hf 0 (by decide)).mp k).1
          omega
        rw [if_neg ns, z12]
        exact ih n n' _ b (e + 1) x ρ z2 (by omega) (by omega) (by omega) fx R hb
    have hzb : ∀ j, 12 ≤ j → j < 32 → bt z j = false := fun j j1 j2 => bt_hi hz (n := 12) (by omega) j1
    have cz := bitC hzb
    have cm : (F_X11_bits z).toInt = cnt (fun j => bt z j = true) 12 := bitM
    have mN : F_X11_many m0 ρ = nI N := zNi (mM R) (by omega)
    have xx : ∀ j, x.2.2 x0 j = σ1.2.2 x0 j := fun j => by rw [fx.rf]; exact xr j
    have xD : x.1 (V.1 0) 3 = σ1.1 (V.1 0) 3 := by rw [fx.2 (V.1 0) 3 (nA 3), h.lookD]
    have T := dmT hz (by omega) hf hd
    rw [F_X10_fewestDams_33, F_X11_dams_40, if_neg A]
    simp only [↓zlt, mN, pN, e3, cz, cm, xx, g6, xD, xrv hV]
    rw [if_pos (show z.toInt < ((2 ^ N : Nat) : Int) by omega)]
    by_cases S : (z &&& (f ^^^ (-1 : Int32))).toInt = 0
    · rw [if_pos S]
      by_cases C : (3 : Int) < (cnt (fun j => bt z j = true) 12 : Nat)
      · rw [if_pos C, if_pos C]
        exact go b x ρ fx R hb
      · rw [if_neg C, if_neg C, if_pos (T.mpr S)]
        have h3 : cnt (fun j => bt z j = true) 12 ≤ 3 := by omega
        have AH := ahdS hzb h3 hb
        have okz : okS z := Or.inr ⟨by omega, hzb, h3⟩
        -- tried
        obtain ⟨a1, a2, a3, -⟩ := h.damS hw hl hx hI hJ hm hg d1 n2 hq hY eL fx R.1 R.2 (mask := z) (D := σ1.1 (V.1 0) 3 ||| z) (fun c c1 c2 => by rw [b_or, h.lookD]) (k := 0) (w := 0) (by decide) (by decide)
        obtain ⟨y, hy⟩ : ∃ y, y = F_X5_run rv (σ1.1 (V.1 0) 3 ||| z) x := ⟨_, rfl⟩
        obtain ⟨t, ht⟩ : ∃ t, t = F_X11_damsAll m0 z ρ := ⟨_, rfl⟩
        rw [← hy] at a1 a2 ⊢
        rw [← ht] at a1 a3 ⊢
        have MF := cMouthF (q := q) (x0 := x0) (t1 := y) (td := td) (by rw [a2.rf, xr 2, q0]; exact xrv hV) (by rw [a2.rf, xr 10]; exact g10) (by rw [a2.rf]; exact g63) (by rw [a2.2 td 0 (ntd 0), n0]; omega)
        have t55 : (t.2.2 m0 55).getD 0 = Y 55 := by rw [show t.2.2 = σ2.2.2 by rw [a3.1], hY]
        have RUN : (dAns r (if v.toInt < (y.1 (q 6) 0).toInt then F_X10_fewestDams_33 f x0 v (n + 1) (z + (1 : Int32)) b y else F_X10_fewestDams_33 f x0 v (n + 1) (z + (1 : Int32)) z y).1).toInt = (if v.toInt < (t.1 (Y 55) 0).toInt then F_X11_dams_40 dm m0 v r n' (z + (2 : Int32)) b t else F_X11_dams_40 dm m0 v r n' (z + (2 : Int32)) z t).1.toInt := by
          rw [a1 0 hN]
          by_cases k : v.toInt < (t.1 (Y 55) 0).toInt
          · rw [if_pos k, if_pos k]
            exact go b y t a2 a3 hb
          · rw [if_neg k, if_neg k]
            exact go z y t a2 a3 okz
        simp only [t55, w0, MF, ↓zlt2]
        by_cases G : (F_X10_isAhead z b).toInt = 0
        · rw [if_pos G]
          have G' := AH.mp G
          rw [if_neg (show ¬ b.toInt < 0 from fun k => G' (Or.inl k))]
          have bb : okS b := hb
          rcases bb with bb | ⟨b1, b2, b3⟩
          · exact absurd (Or.inl (by omega)) G'
          · have cb : (F_X11_bits b).toInt = cnt (fun j => bt b j = true) 12 := bitM
            simp only [cb]
            by_cases k : ((cnt (fun j => bt b j = true) 12 : Nat) : Int) < (cnt (fun j => bt z j = true) 12 : Nat)
            · rw [if_pos k]
              exact go b x ρ fx R hb
            · rw [if_neg k]
              have ec : cnt (fun j => bt z j = true) 12 = cnt (fun j => bt b j = true) 12 := by
                apply Classical.byContradiction
                intro w
                exact G' (Or.inr (Or.inl (by omega)))
              rw [if_pos (show ((cnt (fun j => bt z j = true) 12 : Nat) : Int) = (cnt (fun j => bt b j = true) 12 : Nat) by omega)]
              have er : (F_X11_isEarlier z b).toInt = 0 := by
                apply Classical.byContradiction
                intro w
                exact G' (Or.inr (Or.inr ⟨ec, w⟩))
              rw [if_pos er]
              exact go b x ρ fx R hb
        · rw [if_neg G]
          have G' : b.toInt < 0 ∨ cnt (fun j => bt z j = true) 12 < cnt (fun j => bt b j = true) 12 ∨ (cnt (fun j => bt z j = true) 12 = cnt (fun j => bt b j = true) 12 ∧ ¬ (F_X11_isEarlier z b).toInt = 0) := by
            apply Classical.byContradiction
            intro w
            exact G (AH.mpr w)
          by_cases k : b.toInt < 0
          · rw [if_pos k]
            exact RUN
          · rw [if_neg k]
            have cb : (F_X11_bits b).toInt = cnt (fun j => bt b j = true) 12 := bitM
            simp only [cb]
            rcases G' with G' | G' | ⟨G1, G2⟩
            · exact absurd G' k
            · rw [if_neg (show ¬ ((cnt (fun j => bt b j = true) 12 : Nat) : Int) < (cnt (fun j => bt z j = true) 12 : Nat) by omega), if_neg (show ¬ ((cnt (fun j => bt z j = true) 12 : Nat) : Int) = (cnt (fun j => bt b j = true) 12 : Nat) by omega)]
              exact RUN
            · rw [if_neg (show ¬ ((cnt (fun j => bt b j = true) 12 : Nat) : Int) < (cnt (fun j => bt z j = true) 12 : Nat) by omega), if_pos (show ((cnt (fun j => bt z j = true) 12 : Nat) : Int) = (cnt (fun j => bt b j = true) 12 : Nat) by omega), if_neg G2]
              exact RUN
    · rw [if_neg S]
      by_cases C : (3 : Int) < (cnt (fun j => bt z j = true) 12 : Nat)
      · rw [if_pos C]
        exact go b x ρ fx R hb
      · rw [if_neg C, if_neg (fun w => S (T.mp w))]
        exact go b x ρ fx R hb
/-- what is dammed, as bits of the reference -/
theorem zRL.dmB (h : zRL zQw L1 kd1 x0 m0 V ps pc sl rv sh cd σ1 σ2) (n2 : zM m0 σ2 = N) (hN12 : N ≤ 12) : ∀ j, j < 32 → (bt (F_X11_dammedBits m0 σ2) j = true ↔ 1 ≤ j ∧ j < N ∧ bt (σ1.1 (V.1 0) 3) j = true) := by
  have e12 : (12 : Int32).toInt = 12 := by decide
  have mN : (F_X11_many m0 σ2).toInt = N := by rw [mMany]; exact n2
  have rg : ∀ j, (σ2.2.2 m0 j).getD 0 = mR σ2 m0 j := fun _ => rfl
  have key : ∀ (n : Nat) (x y : Int32) (i : Nat), x.toInt = i → 1 ≤ i → 13 - i < n → (∀ j, j < 32 → (bt y j = true ↔ 1 ≤ j ∧ j < i ∧ j < N ∧ bt (σ1.1 (V.1 0) 3) j = true)) → ∀ j, j < 32 → (bt (F_X11_dammedBits_4 m0 σ2 n x y) j = true ↔ 1 ≤ j ∧ j < N ∧ bt (σ1.1 (V.1 0) 3) j = true) := by
    intro n
    induction n with
    | zero => intro x y i _ _ h; exact absurd h (by omega)
    | succ n ih =>
      intro x y i hx hi hn hy j hj
      rw [F_X11_dammedBits_4]
      simp only [↓zlt, rg]
      by_cases d : i < N
      · rw [if_pos (by omega), ixN (m := 12) (p := x) (M := 12) (P := i) e12 (by decide) hx (by omega)]
        have x1 := zp1 hx (by omega)
        refine ih _ _ (i + 1) x1 (by omega) (by omega) (fun k hk => ?_) j hj
        have a := hy k hk
        rw [b_or, Bool.or_eq_true, zNi hx (by omega)]
        rcases h.damN hi (by omega) with ⟨b1, b2⟩ | ⟨b1, b2⟩
        · rw [b2, bt_1 (by omega) hk, decide_eq_true_eq]
          by_cases c : k = i
          · rw [c] at a ⊢
            exact ⟨fun _ => ⟨hi, by omega, d, b1⟩, fun _ => Or.inr rfl⟩
          · constructor
            · rintro (w | w)
              · obtain ⟨w1, w2, w3, w4⟩ := a.mp w
                exact ⟨w1, by omega, w3, w4⟩
              · exact absurd w c
            · rintro ⟨w1, w2, w3, w4⟩
              exact Or.inl (a.mpr ⟨w1, by omega, w3, w4⟩)
        · have z : bt ((0 : Int32) <<< (nI i &&& 31)) k = false := by
            rw [b_shl i (by omega) 0 hk, b_0, Bool.and_false]
          rw [b2, z]
          constructor
          · rintro (w | w)
            · obtain ⟨w1, w2, w3, w4⟩ := a.mp w
              exact ⟨w1, by omega, w3, w4⟩
            · exact absurd w (by decide)
          · rintro ⟨w1, w2, w3, w4⟩
            have : k ≠ i := fun e => by
              rw [e, b1] at w4
              exact absurd w4 (by decide)
            exact Or.inl (a.mpr ⟨w1, by omega, w3, w4⟩)
      · rw [if_neg (by omega)]
        have a := hy j hj
        exact ⟨fun w => by
          obtain ⟨w1, w2, w3, w4⟩ := a.mp w
          exact ⟨w1, w3, w4⟩, fun ⟨w1, w2, w3⟩ => a.mpr ⟨w1, by omega, w2, w3⟩⟩
  unfold F_X11_dammedBits
  simp only [zlt]
  refine key 10000 1 0 1 (by decide) (by omega) (by omega) (fun j hj => ?_)
  rw [b_0]
  exact ⟨fun w => absurd w (by decide), fun w => absurd w.2.1 (by omega)⟩
theorem zRL.dams (h : zRL zQw L1 kd1 x0 m0 V ps pc sl rv sh cd σ1 σ2) (hw : 0 < zM m0 σ2 → zLw x0 m0 σ1 σ2) (hl : zLen x0 m0 σ1 σ2) (hx : zT L1 kd1 x0 10) (hI : zI κ 0 L1 kd1 σ1) (hJ : zJ κ L2 kd2 σ2) (hm : zT L2 kd2 m0 11) (hg : gN m0 σ2) (f1 : (v1, τ1) = F_X10_dams x0 v r σ1) (f2 : (v2, τ2) = F_X11_dams m0 v r σ2) : v1.toInt = v2.toInt := by
  obtain ⟨td, B, N, gl, u, l, q, Y, d1, n2, eL, xr, ⟨hq, hY⟩, ⟨S, Dn, FL, RN⟩, -, -⟩ := h.now hw hl hx hI hJ hm hg
  have hL := h.1
  have hV := h.2.1
  have q3 : q 3 = td := by rw [hq]; rfl
  have q4 : q 4 = V.1 0 := by rw [hq]; rfl
  have g10 : (σ1.2.2 x0 10).getD 0 = td := by rw [d1]; rfl
  have g6 : (σ1.2.2 x0 6).getD 0 = V.1 0 := by rw [hL.1.1]; rfl
  obtain ⟨td9, d9, t9⟩ := zi_ref (j := 10) (k2 := 9) hI hx (by rfl)
  obtain rfl : td9 = td := Option.some.inj (d9.symm.trans d1)
  obtain ⟨N', -, -, ⟨n3, n4, n5, -⟩, -⟩ := h.2.2
  rw [g10] at n3
  obtain rfl : N' = N := by omega
  have e0 : (0 : Int32).toInt = 0 := by decide
  have m1 : (-1 : Int32).toInt = -1 := by decide
  have o2 : (2 : Int32).toInt = 2 := by decide
  have o9 : (9999 : Int32).toInt = 9999 := by decide
  have hM : F_X10_hasMouth x0 σ1 = (if 0 < (σ1.1 td9 0).toInt then 1 else 0, σ1) := by
    unfold F_X10_hasMouth
    simp only [zlt, g10]
    split <;> rfl
  unfold F_X10_dams at f1
  unfold F_X11_dams at f2
  simp only [zlt, zlt2, hM, cWithin, mIn, e0, m1, o2, o9, mMany, n2] at f1 f2
  by_cases hN : 0 < N'
  · rw [if_pos (show 0 < (σ1.1 td9 0).toInt by omega), if_neg (by decide)] at f1
    by_cases A : 0 ≤ v.toInt ∧ v.toInt ≤ 9999
    · rw [if_neg (fun z => z A)] at f1 f2
      by_cases C : -1 ≤ r.toInt ∧ r.toInt ≤ 2
      · rw [if_neg (fun z => z C)] at f1 f2
        rw [if_neg (show ¬ (N' : Int) = 0 by omega)] at f2
        have n0 : ((F_X10_look x0 σ1).1 td9 0).toInt = N' := by
          rw [h.lookE hl hx hI hJ hm hg td9 9 t9 (by omega)]
          omega
        have hQ := S.1.1
        have n6 : ∀ {i j : Nat}, i < 6 → ¬ zQ6 q (q i) j := fun hi => by
          rintro (z | z | z | z)
          · exact hQ.n (by omega) (by decide) (by omega) z
          · exact hQ.n (by omega) (by decide) (by omega) z
          · exact hQ.n (by omega) (by decide) (by omega) z
          · exact hQ.n (by omega) (by decide) (by omega) z
        have g63 : ((F_X10_look x0 σ1).2.2 (q 0) 3).getD 0 = q 6 := S.1.1.1.1.2.2.2.2.2.1
        have lD := h.lookD
        obtain ⟨s, hs⟩ : ∃ s, s = F_X10_look x0 σ1 := ⟨_, rfl⟩
        have iN : s.1 td9 0 = nI N' := by rw [hs]; exact zNi n0 (by omega)
        obtain ⟨f, hf⟩ : ∃ f : Int32, f = ((1 : Int32) <<< (nI N' &&& 31) - 1) &&& ((σ1.1 (V.1 0) 3 ||| 1) ^^^ (-1 : Int32)) := ⟨_, rfl⟩
        have fB : ∀ j, j < 32 → (bt f j = true ↔ 1 ≤ j ∧ j < N' ∧ ¬ bt (σ1.1 (V.1 0) 3) j = true) := fun j hj => by
          rw [hf, b_and, b_xor, b_or, b_one j hj, b_m1 j hj, mskN N' n5 j hj]
          by_cases z : j = 0
          · rw [decide_eq_true z]
            constructor
            · intro w
              revert w
              cases bt (σ1.1 (V.1 0) 3) j <;> simp
            · intro w
              omega
          · rw [decide_eq_false z]
            by_cases y : j < N'
            · rw [decide_eq_true y]
              constructor
              · intro w
                refine ⟨by omega, y, fun k => ?_⟩
                rw [k] at w
                exact absurd w (by decide)
              · rintro ⟨-, -, w⟩
                rw [show bt (σ1.1 (V.1 0) 3) j = false by simpa using w]
                rfl
            · rw [decide_eq_false y]
              exact ⟨fun w => absurd (show (false : Bool) = true from w) (by decide), fun w => absurd w.2.1 y⟩
        obtain ⟨H, hH⟩ : ∃ H, 2 ^ N' = 2 * H := ⟨2 ^ (N' - 1), by
          obtain ⟨k, rfl⟩ : ∃ k, N' = k + 1 := ⟨N' - 1, by omega⟩
          rw [Nat.pow_succ, Nat.add_sub_cancel]
          omega⟩
        obtain ⟨fn, fn1, fn2, -, fn4⟩ := i12 (x := f) (fun j j1 j2 => by
          cases w : bt f j with
          | false => rfl
          | true => exact absurd ((fB j j2).mp w).2.1 (by omega))
        have flt : fn < 2 ^ N' := Nat.lt_pow_two_of_testBit _ (fun j hj => by
          by_cases c : j < 32
          · rw [fn4 j c]
            cases w : bt f j with
            | false => rfl
            | true => exact absurd ((fB j c).mp w).2.1 (by omega)
          · exact Nat.testBit_lt_two_pow (Nat.lt_of_lt_of_le fn1 (by
              have := Nat.pow_le_pow_right (n := 2) (by decide) (show 12 ≤ j by omega)
              omega)))
        have eB : F_X10_bit (s.1 td9 0) = (1 : Int32) <<< (nI N' &&& 31) := by
          unfold F_X10_bit
          simp only [zlt]
          rw [iN]
        have eB0 : F_X10_bit 0 = 1 := by
          unfold F_X10_bit
          simp only [zlt]
          decide
        have sr : ∀ j, s.2.2 x0 j = σ1.2.2 x0 j := fun j => by rw [hs]; exact xr j
        have sD : s.1 (V.1 0) 3 = σ1.1 (V.1 0) 3 := by rw [hs]; exact lD
        have eF : F_X10_fewestDams x0 v s = F_X10_fewestDams_33 f x0 v 4294967299 0 (-1) s := by
          unfold F_X10_fewestDams
          simp only [zlt, sr, g10, eB, eB0, g6, sD]
          rw [← hf]
        rw [← hs, eF] at f1
        have flt' : f.toInt < ((2 ^ N' : Nat) : Int) := by
          rw [fn2]
          exact Int.ofNat_lt.mpr flt
        have R := h.damsL (r := r) (v := v) hw hl hx hI hJ hm hg d1 n2 hN n5 hq hY eL xr g63 n0 (fun j => by rw [← q3]; exact n6 (by decide)) (fun j => by rw [← q4]; exact n6 (by decide)) hH (by omega) flt' fB (h.dmB n2 n5) H 4294967299 10000 0 (-1) 0 s σ2 (by decide) (by omega) (by
          have := Nat.pow_le_pow_right (n := 2) (by decide) n5
          omega) (by
          have := Nat.pow_le_pow_right (n := 2) (by decide) n5
          omega) (by rw [hs]; exact zFr.id) ⟨rfl, zFr.id⟩ (Or.inl m1)
        rw [show v2 = _ from congrArg Prod.fst f2, ← R]
        obtain ⟨p, hp⟩ : ∃ p, p = F_X10_fewestDams_33 f x0 v 4294967299 0 (-1) s := ⟨_, rfl⟩
        rw [← hp] at f1 ⊢
        unfold dAns
        by_cases c : p.1.toInt = -1
        · rw [if_pos c] at f1 ⊢
          rw [(zPr2 f1).1]
        · rw [if_neg c] at f1 ⊢
          by_cases e : r.toInt = -1
          · rw [if_pos e] at f1 ⊢
            rw [(zPr2 f1).1]
          · rw [if_neg e] at f1 ⊢
            rw [(zPr2 f1).1]
      · rw [if_pos C] at f1 f2
        rw [(zPr2 f1).1, (zPr2 f2).1]
    · rw [if_pos A] at f1 f2
      rw [(zPr2 f1).1, (zPr2 f2).1]
  · rw [if_neg (show ¬ 0 < (σ1.1 td9 0).toInt by omega), if_pos (by decide)] at f1
    rw [(zPr2 f1).1]
    by_cases A : 0 ≤ v.toInt ∧ v.toInt ≤ 9999
    · rw [if_neg (fun z => z A)] at f2
      by_cases C : -1 ≤ r.toInt ∧ r.toInt ≤ 2
      · rw [if_neg (fun z => z C), if_pos (show (N' : Int) = 0 by omega)] at f2
        rw [(zPr2 f2).1]
      · rw [if_pos C] at f2
        rw [(zPr2 f2).1]
    · rw [if_pos A] at f2
      rw [(zPr2 f2).1]
theorem zRP.dams (h : zRP κ L1 kd1 L2 kd2 x0 m0 σ1 σ2) (hI : zI κ 0 L1 kd1 σ1) (hJ : zJ κ L2 kd2 σ2) (hx : zT L1 kd1 x0 10) (hm : zT L2 kd2 m0 11) (hg : gN m0 σ2) (f1 : (v1, τ1) = F_X10_dams x0 v r σ1) (f2 : (v2, τ2) = F_X11_dams m0 v r σ2) : v1.toInt = v2.toInt := by
  obtain ⟨V, ps, pc, sl, rv, sh, cd, hR⟩ := h.2.2
  exact hR.dams h.2.1 h.1.2 hx hI hJ hm hg f1 f2
end DAMS2
end
