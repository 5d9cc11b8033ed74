-- 35y23.lw56
section
/-! MONTHS AHEAD, STILL, counted: reign -/
section STILL3
variable {q Y : Nat → Nat} {a b N z z' : Nat} {s1 s2 t1 t2 z1 z2 : zS} {g : zGl} {u l : Nat → Nat}
theorem zMh.self (M : zMh q Y a b N g u l s1 s2 t1 t2) : zMh q Y a b N g u l t1 t2 t1 t2 := ⟨M.1, M.2.1, M.2.2.1, zFr.id, zFr.id, M.2.2.2.2.2⟩
/-- rows that are none of theirs, written on both sides -/
theorem zMh.fz (hz : ∀ i, i < 22 → ¬ q i = z) (hz' : ∀ j, zYj j → ¬ Y j = z') (ha : ¬ a = z') (M : zMh q Y a b N g u l s1 s2 t1 t2) (f1 : zFr (fun c _ => c = z) t1 z1) (f2 : zFr (fun c _ => c = z') t2 z2) : zMh q Y a b N g u l z1 z2 z1 z2 := by
  obtain ⟨S, Dn, h51, g1, g2, hF⟩ := M
  have L := S.fall Dn (m := 0) (by decide) zFr.id zFr.id
  have S2 := S.fz2 hz' ha f2
  have D2 := Dn.fz2 hz' f2
  have L2 := S2.fall D2 (m := 0) (by decide) zFr.id zFr.id
  refine ⟨S2.fz hz f1, D2.fz hz f1, by rw [f2.2 a 51 ha]; exact h51, zFr.id, zFr.id, fun p hp => ?_⟩
  rw [f1.2 (q 6) p (hz 6 (by decide)), f2.2 (Y 55) p (hz' 55 (by unfold zYj; omega))]
  exact ⟨(hF p hp).1, by rw [(hF p hp).2, ← L.2.2.1 p hp, L2.2.2.1 p hp]⟩
end STILL3
section REIGN
variable {κ : Int} {L1 : List Nat} {kd1 : Nat → Nat} {L2 : List Nat} {kd2 : Nat → Nat} {σ1 σ2 τ1 τ2 s t : zS} {m0 x0 : Nat} {V : zWh} {ps pc sl rv sh cd : Nat} {v1 v2 p r k : Int32} {q Y : Nat → Nat} {B N T Z td : Nat} {gl : zGl} {u l : Nat → Nat} {kA kB : Int32 → zS → Int32 × zS}
theorem reignT {t1 t2 : zS} (rx : (t1.2.2 x0 10).getD 0 = td ∧ (t1.2.2 x0 9).getD 0 = T) (n0 : (t1.1 td 0).toInt = N) (hM : (F_X11_many m0 t2).toInt = N) (hN : N ≤ 12) (rz : (t2.2.2 m0 61).getD 0 = Z) (hE : ∀ j, j < 12 → t1.1 T j = t2.1 Z j ∧ 0 ≤ (t1.1 T j).toInt) (r0 : r.toInt = 0) : ∀ (n : Nat) (x b c : Int32) (i : Nat), x.toInt = i → 1 ≤ i → 13 - i < n → (F_X11_reign_105 m0 k p r kA kB n x b c t2).1 = (F_X10_tallied_4 x0 n x c t1).1 := by
  intro n
  induction n with
  | zero => intro x b c i _ _ h; exact absurd h (by omega)
  | succ n ih =>
    intro x b c i hx hi hn
    have nx : x.toNatClampNeg = i := by rw [ztn, hx]; rfl
    rw [F_X11_reign_105, F_X10_tallied_4]
    simp only [↓zlt, rx.1, rx.2, rz, nx]
    by_cases d : i < N
    · rw [if_pos (show x.toInt < (F_X11_many m0 t2).toInt by omega), if_pos (show x.toInt < (t1.1 td 0).toInt by omega)]
      obtain ⟨e, e0⟩ := hE i (by omega)
      have e' : (t1.1 T i).toInt = (t2.1 Z i).toInt := congrArg Int32.toInt e
      have y1 := zp1 hx (by omega)
      by_cases w : (t2.1 Z i).toInt = 0
      · rw [if_pos w, if_neg (show ¬ 0 < (t1.1 T i).toInt by omega)]
        exact ih _ b c (i + 1) y1 (by omega) (by omega)
      · rw [if_neg w, if_pos (show 0 < (t1.1 T i).toInt by omega)]
        by_cases bb : b.toInt < 0
        · rw [if_pos bb]
          exact ih _ x _ (i + 1) y1 (by omega) (by omega)
        · rw [if_neg bb]
          by_cases w2 : (t2.1 Z b.toNatClampNeg).toInt < (t2.1 Z i).toInt
          · rw [if_pos w2]
            exact ih _ x _ (i + 1) y1 (by omega) (by omega)
          · rw [if_neg w2]
            exact ih _ b _ (i + 1) y1 (by omega) (by omega)
    · rw [if_neg (show ¬ x.toInt < (F_X11_many m0 t2).toInt by omega), if_neg (show ¬ x.toInt < (t1.1 td 0).toInt by omega), if_pos r0]
theorem reignB {t1 t2 : zS} (rx : (t1.2.2 x0 10).getD 0 = td ∧ (t1.2.2 x0 9).getD 0 = T) (n0 : (t1.1 td 0).toInt = N) (hM : (F_X11_many m0 t2).toInt = N) (hN : N ≤ 12) (rz : (t2.2.2 m0 61).getD 0 = Z) (hE : ∀ j, j < 12 → t1.1 T j = t2.1 Z j ∧ 0 ≤ (t1.1 T j).toInt) (r0 : ¬ r.toInt = 0) : ∀ (n : Nat) (x b c : Int32) (i : Nat), x.toInt = i → 1 ≤ i → 13 - i < n → (b.toInt < 0 ∨ ∃ j : Nat, b.toInt = j ∧ j < 12) → (F_X11_reign_105 m0 k p r kA kB n x b c t2).1 = (F_X10_mostTallied_5 x0 n x b t1).1 := by
  have z0 : (0 : Int32).toInt = 0 := by decide
  intro n
  induction n with
  | zero => intro x b c i _ _ h; exact absurd h (by omega)
  | succ n ih =>
    intro x b c i hx hi hn hb
    have nx : x.toNatClampNeg = i := by rw [ztn, hx]; rfl
    rw [F_X11_reign_105, F_X10_mostTallied_5]
    simp only [↓zlt, rx.1, rx.2, rz, nx, z0]
    by_cases d : i < N
    · rw [if_pos (show x.toInt < (F_X11_many m0 t2).toInt by omega), if_pos (show x.toInt < (t1.1 td 0).toInt by omega)]
      obtain ⟨e, e0⟩ := hE i (by omega)
      have e' : (t1.1 T i).toInt = (t2.1 Z i).toInt := congrArg Int32.toInt e
      have y1 := zp1 hx (by omega)
      have bx : x.toInt < 0 ∨ ∃ j : Nat, x.toInt = j ∧ j < 12 := Or.inr ⟨i, hx, by omega⟩
      by_cases w : (t2.1 Z i).toInt = 0
      · rw [if_pos w]
        by_cases bb : b.toInt < 0
        · rw [if_pos bb, if_neg (show ¬ 0 < (t1.1 T i).toInt by omega)]
          exact ih _ b c (i + 1) y1 (by omega) (by omega) hb
        · obtain ⟨j, hj, hj2⟩ := hb.resolve_left bb
          have nb : b.toNatClampNeg = j := by rw [ztn, hj]; rfl
          have ej := (hE j hj2).2
          rw [if_neg bb, nb, if_neg (show ¬ (t1.1 T j).toInt < (t1.1 T i).toInt by omega)]
          exact ih _ b c (i + 1) y1 (by omega) (by omega) hb
      · rw [if_neg w]
        by_cases bb : b.toInt < 0
        · rw [if_pos bb, if_pos bb, if_pos (show 0 < (t1.1 T i).toInt by omega)]
          exact ih _ x _ (i + 1) y1 (by omega) (by omega) bx
        · obtain ⟨j, hj, hj2⟩ := hb.resolve_left bb
          have nb : b.toNatClampNeg = j := by rw [ztn, hj]; rfl
          have ej : (t1.1 T j).toInt = (t2.1 Z j).toInt := congrArg Int32.toInt (hE j hj2).1
          rw [if_neg bb, if_neg bb, nb]
          by_cases w2 : (t2.1 Z j).toInt < (t2.1 Z i).toInt
          · rw [if_pos w2, if_pos (show (t1.1 T j).toInt < (t1.1 T i).toInt by omega)]
            exact ih _ x _ (i + 1) y1 (by omega) (by omega) bx
          · rw [if_neg w2, if_neg (show ¬ (t1.1 T j).toInt < (t1.1 T i).toInt by omega)]
            exact ih _ b _ (i + 1) y1 (by omega) (by omega) hb
    · rw [if_neg (show ¬ x.toInt < (F_X11_many m0 t2).toInt by omega), if_neg (show ¬ x.toInt < (t1.1 td 0).toInt by omega), if_neg r0]
/-- the months gone through, both tallies alike -/
theorem reignL (hz : ∀ i, i < 22 → ¬ q i = T) (hz' : ∀ j, zYj j → ¬ Y j = Z) (ha : ¬ m0 = Z) (rx : (s.2.2 x0 2).getD 0 = q 0 ∧ (s.2.2 x0 10).getD 0 = td ∧ (s.2.2 x0 9).getD 0 = T) (rz : (t.2.2 m0 61).getD 0 = Z) (q3 : q 3 = td) {w : Nat} (hk : k.toInt = w) (hw : w < 3) {D : Nat} (hp : p.toInt = D) (hD : D < 4000) : ∀ (d n n' : Nat) (x : Int32) (i : Nat) (t1 t2 : zS), x.toInt = i → i + d = D → d < n → d < n' → zMh q Y m0 B N gl u l t1 t2 t1 t2 → t1.2.2 = s.2.2 → t2.2.2 = t.2.2 → (t1.1 td 0).toInt = N → (∀ j, j < 12 → t1.1 T j = t2.1 Z j ∧ 0 ≤ (t1.1 T j).toInt ∧ (t1.1 T j).toInt ≤ i) → (F_X10_reign_44 x0 k p r n x t1).1.toInt = (F_X11_reign_56 m0 k p r kA n' x t2).1.toInt := by
  intro d
  induction d with
  | zero =>
    intro n n' x i t1 t2 hx' hi hn hn' M r1 r2 n0 hE
    obtain ⟨n, rfl⟩ : ∃ k, n = k + 1 := ⟨n - 1, by omega⟩
    obtain ⟨n', rfl⟩ : ∃ k, n' = k + 1 := ⟨n' - 1, by omega⟩
    have hN := M.1.1.2.2.2.1
    have hM : (F_X11_many m0 t2).toInt = N := M.1.2.1.2.2.2.2.1
    have hE' : ∀ j, j < 12 → t1.1 T j = t2.1 Z j ∧ 0 ≤ (t1.1 T j).toInt := fun j hj => ⟨(hE j hj).1, (hE j hj).2.1⟩
    have rr : (t1.2.2 x0 10).getD 0 = td ∧ (t1.2.2 x0 9).getD 0 = T := by rw [r1]; exact rx.2
    have rz' : (t2.2.2 m0 61).getD 0 = Z := by rw [r2]; exact rz
    have nlt : ¬ x.toInt < p.toInt := by omega
    rw [F_X10_reign_44, F_X11_reign_56, if_neg nlt, if_neg nlt]
    simp only [↓zlt]
    by_cases r0 : r.toInt = 0
    · rw [if_pos r0, reignT rr n0 hM hN rz' hE' r0 10000 1 (-2) 0 1 (by decide) (by omega) (by omega)]
      unfold F_X10_tallied
      simp only [zlt]
      rfl
    · rw [if_neg r0, reignB rr n0 hM hN rz' hE' r0 10000 1 (-2) 0 1 (by decide) (by omega) (by omega) (Or.inl (by decide))]
      unfold F_X10_mostTallied
      simp only [zlt]
      rfl
  | succ d ih =>
    intro n n' x i t1 t2 hx' hi hn hn' M r1 r2 n0 hE
    obtain ⟨n, rfl⟩ : ∃ k, n = k + 1 := ⟨n - 1, by omega⟩
    obtain ⟨n', rfl⟩ : ∃ k, n' = k + 1 := ⟨n' - 1, by omega⟩
    have nx := zp1 hx' (by omega)
    have keep1 : ∀ {y1 y2 : zS}, zFr (zGw q) y1 y2 → ∀ j, y2.1 T j = y1.1 T j := fun f j => f.2 T j (by
      rintro ((e | e | e | e | e) | e | e | e)
      · exact hz 5 (by decide) e.symm
      · exact hz 6 (by decide) e.symm
      · exact hz 7 (by decide) e.symm
      · exact hz 8 (by decide) e.symm
      · exact hz 9 (by decide) e.symm
      · exact hz 20 (by decide) e.symm
      · exact hz 21 (by decide) e.symm
      · exact hz 4 (by decide) e.1.symm)
    have keep2 : ∀ {y1 y2 : zS}, zFr (zHw Y m0) y1 y2 → ∀ j, y2.1 Z j = y1.1 Z j := fun f j => f.2 Z j (by
      rintro ((e | e | e | e) | e | e)
      · exact hz' 55 (by unfold zYj; omega) e.symm
      · exact hz' 45 (by unfold zYj; omega) e.symm
      · exact hz' 46 (by unfold zYj; omega) e.symm
      · exact ha e.1.symm
      · exact ha e.1.symm
      · exact hz' 49 (by unfold zYj; omega) e.1.symm)
    have go : ∀ (y1 y2 : zS), zMh q Y m0 B N gl u l y1 y2 y1 y2 → y1.2.2 = s.2.2 → y2.2.2 = t.2.2 → (y1.1 td 0).toInt = N → (∀ j, j < 12 → y1.1 T j = y2.1 Z j ∧ 0 ≤ (y1.1 T j).toInt ∧ (y1.1 T j).toInt ≤ (i + 1 : Nat)) → (F_X10_reign_44 x0 k p r n (x + (1 : Int32)) (F_X5_goOn (q 0) y1)).1.toInt = (F_X11_reign_56 m0 k p r kA n' (x + (1 : Int32)) (F_X11_monthGoes m0 y2)).1.toInt := fun y1 y2 My e1 e2 e3 e4 => by
      have Ms := My.step.1
      have f1 := Ms.2.2.2.1
      have f2 := Ms.2.2.2.2.1
      refine ih n n' _ (i + 1) _ _ nx (by omega) (by omega) (by omega) Ms.self (f1.rf.trans e1) (f2.rf.trans e2) ?_ (fun j hj => ?_)
      · rw [← q3, zGw.r My.1.1.1 f1 (i := 3) (by decide) (by omega), q3]
        exact e3
      · rw [keep1 f1, keep2 f2]
        exact e4 j hj
    obtain ⟨x1, y1, ta, ua, a1, a2, a3, a4, M1⟩ := M.win hk hw
    have f1 := M1.2.2.2.1
    have f2 := M1.2.2.2.2.1
    have ra : ta.2.2 = s.2.2 := f1.rf.trans r1
    have ru : ua.2.2 = t.2.2 := f2.rf.trans r2
    have n1 : (ta.1 td 0).toInt = N := by
      rw [← q3, zGw.r M.1.1.1 f1 (i := 3) (by decide) (by omega), q3]
      exact n0
    have hE1 : ∀ j, j < 12 → ta.1 T j = ua.1 Z j ∧ 0 ≤ (ta.1 T j).toInt ∧ (ta.1 T j).toInt ≤ i := fun j hj => by
      rw [keep1 f1, keep2 f2]
      exact hE j hj
    have xlt : x.toInt < p.toInt := by omega
    rw [F_X10_reign_44, F_X11_reign_56, if_pos xlt, if_pos xlt]
    simp only [↓zlt, ↓zlt2, r1, rx.1, a1, a2, ra, rx.2.2, ru, rz]
    by_cases e1 : 0 < x1.toInt
    · rw [if_pos e1, if_neg (show ¬ y1.toInt < 0 by omega)]
      obtain ⟨j0, hj0⟩ : ∃ j0 : Nat, x1.toInt = j0 := ⟨x1.toInt.toNat, by omega⟩
      have c1 : x1.toNatClampNeg = j0 := by rw [ztn, hj0]; rfl
      have c2 : y1.toNatClampNeg = j0 := by rw [ztn, ← a3, hj0]; rfl
      rw [c1, c2]
      have g1 : zFr (fun c _ => c = T) ta (zu ta.1 T j0 (ta.1 T j0 + (1 : Int32)), ta.2.1, s.2.2) := by
        have k := (zFr.id (A := fun c _ => c = T) (σ := ta)).w (r := T) (j := j0) (v := ta.1 T j0 + (1 : Int32)) rfl
        rw [ra] at k
        exact k
      have g2 : zFr (fun c _ => c = Z) ua (zu ua.1 Z j0 (ua.1 Z j0 + (1 : Int32)), ua.2.1, t.2.2) := by
        have k := (zFr.id (A := fun c _ => c = Z) (σ := ua)).w (r := Z) (j := j0) (v := ua.1 Z j0 + (1 : Int32)) rfl
        rw [ru] at k
        exact k
      refine go _ _ (M1.fz hz hz' ha g1 g2) rfl rfl ?_ (fun j hj => ?_)
      · show (zu ta.1 T j0 (ta.1 T j0 + (1 : Int32)) td 0).toInt = N
        rw [zu_n _ _ _ (fun e => hz 3 (by decide) (q3.trans e))]
        exact n1
      · show zu ta.1 T j0 (ta.1 T j0 + (1 : Int32)) T j = zu ua.1 Z j0 (ua.1 Z j0 + (1 : Int32)) Z j ∧ 0 ≤ (zu ta.1 T j0 (ta.1 T j0 + (1 : Int32)) T j).toInt ∧ (zu ta.1 T j0 (ta.1 T j0 + (1 : Int32)) T j).toInt ≤ (i + 1 : Nat)
        obtain ⟨h1, h2, h3⟩ := hE1 j hj
        by_cases e : j0 = j
        · rw [e, zu_s, zu_s, h1]
          have o1 : (1 : Int32).toInt = 1 := by decide
          have h1' : (ta.1 T j).toInt = (ua.1 Z j).toInt := congrArg Int32.toInt h1
          have h4 : (ua.1 Z j + (1 : Int32)).toInt = (ua.1 Z j).toInt + 1 := by rw [zb_add (by rw [o1]; omega) (by rw [o1]; omega), o1]
          refine ⟨rfl, by omega, by omega⟩
        · rw [zu_j _ _ _ _ _ e, zu_j _ _ _ _ _ e]
          exact ⟨h1, h2, by omega⟩
    · rw [if_neg e1, if_pos (show y1.toInt < 0 by omega)]
      exact go _ _ M1.self ra ru n1 (fun j hj => by
        obtain ⟨h1, h2, h3⟩ := hE1 j hj
        exact ⟨h1, h2, by omega⟩)
/-- a row of a kind that the river doesn't write -/
theorem formT {kT : Nat} (h : zRv L1 kd1 x0 rv sh cd s.2.2) (hT : zT L1 kd1 T kT) (hk : kT = 9 ∨ (46 ≤ kT ∧ kT ≤ 51) ∨ kT = 53) (t a : Nat) : (F_X5_form rv t a s).1 T = s.1 T := by
  obtain ⟨⟨a1, a2, a3, a4⟩, ⟨t0, t1, t2, t3⟩, b, c, d, e, f⟩ := h
  obtain ⟨y, hy⟩ : ∃ y : zS, y = (s.1, s.2.1, zu (zu s.2.2 rv 5 (some t)) rv 6 (some a)) := ⟨_, rfl⟩
  have ns : ¬ sh = rv := zNk t2 t1 (by decide)
  have g0 : (y.2.2 rv 0).getD 0 = sh := by
    rw [hy]
    show (zu (zu s.2.2 rv 5 _) rv 6 _ rv 0).getD 0 = sh
    rw [zu_j _ _ _ _ _ (by decide), zu_j _ _ _ _ _ (by decide), a3]
    rfl
  have E : F_X5_form rv t a s = F_X6_form sh t a y := by
    rw [← g0, hy]
    unfold F_X5_form
    simp only [zlt]
  have sj : ∀ j, (y.2.2 sh j) = s.2.2 sh j := fun j => by
    rw [hy]
    show zu (zu s.2.2 rv 5 _) rv 6 _ sh j = _
    rw [zu_n _ _ _ ns, zu_n _ _ _ ns]
  have n : ∀ {c k : Nat}, zT L1 kd1 c k → k ≠ kT → ¬ c = T := fun hc hk => zNk hc hT hk
  have P : zFr (fun c _ => ¬ c = T) y (F_X6_form sh t a y) := fr_X6_form zFr.id (n t2 (by omega)) (fun _ => by rw [sj]; exact n (d 1 (by omega) (by omega)) (by omega)) (fun _ => by rw [sj]; exact n (d 2 (by omega) (by omega)) (by omega)) (fun _ => by rw [sj]; exact n (d 3 (by omega) (by omega)) (by omega)) (fun _ => by rw [sj]; exact n (d 6 (by omega) (by omega)) (by omega)) (fun _ => by rw [sj]; exact n (d 4 (by omega) (by omega)) (by omega))
  rw [E]
  refine (funext (fun j => P.2 T j (fun z => z rfl))).trans ?_
  rw [hy]
/-- the tried course, looked at, still; from a state that is now but for rows beside -/
theorem zRL.stillS (h : zRL zQw L1 kd1 x0 m0 V ps pc sl rv sh cd σ1 σ2) (hw : 0 < zM m0 σ2 → zLw x0 m0 σ1 σ2) (hl : zLen x0 m0 σ1 σ2) (hx : zT L1 kd1 x0 10) (hI : zI κ 0 L1 kd1 σ1) (hJ : zJ κ L2 kd2 σ2) (hm : zT L2 kd2 m0 11) (hg : gN m0 σ2) (gs : zPv L1 kd1 V rv σ1 s) (hes : ∀ c kc, zT L1 kd1 c kc → (kc = 9 ∨ (46 ≤ kc ∧ kc ≤ 51)) → s.1 c = σ1.1 c) : ∃ (td B N : Nat) (gl : zGl) (u l : Nat → Nat) (q Y : Nat → Nat), σ1.2.2 x0 10 = some td ∧ zM m0 σ2 = N ∧ (q = qOf σ1.2.2 rv sh cd td V 1 ∧ Y = mR σ2 m0) ∧ (∀ j, (F_X10_tryFromNow x0 s).2.2 x0 j = σ1.2.2 x0 j) ∧ ((F_X10_tryFromNow x0 s).1 td 0).toInt = N ∧ (∀ T, zT L1 kd1 T 53 → (F_X10_tryFromNow x0 s).1 T = s.1 T) ∧ zMh q Y m0 B N gl u l (F_X10_tryFromNow x0 s) (F_X11_copiesStill m0 σ2) (F_X10_tryFromNow x0 s) (F_X11_copiesStill m0 σ2) := by
  have hL := h.1
  have hV := h.2.1
  obtain ⟨T1, T2, T3, td, B, N, gl, u, l, d1, n2, eF, M⟩ := h.tried hw hl hx hI hJ hm hg (s := s) gs hes
  have g10 : (σ1.2.2 x0 10).getD 0 = td := by rw [d1]; rfl
  obtain ⟨td9, d9, t9⟩ := zi_ref (j := 10) (k2 := 9) hI hx (by rfl)
  obtain rfl : td9 = td := Option.some.inj (d9.symm.trans d1)
  have g7 : (σ1.2.2 x0 7).getD 0 = V.1 1 := by rw [hL.1.2.1]; rfl
  have g6 : (σ1.2.2 x0 6).getD 0 = V.1 0 := by rw [hL.1.1]; rfl
  have nr : ∀ j, ¬ (x0 = rv ∧ (j = 5 ∨ j = 6)) := fun j z => zNk hx hV.2.1.2.1 (by decide) z.1
  have sx : ∀ j, s.2.2 x0 j = σ1.2.2 x0 j := fun j => gs.1 x0 j (nr j)
  have cx : ∀ j, (F_X1_copy (V.1 1) (V.1 0) s).2.2 x0 j = σ1.2.2 x0 j := fun j => T1 x0 j (nr j)
  have eT : F_X10_tryFromNow x0 s = F_X5_fall rv 0 (F_X5_form rv td9 (V.1 1) (F_X1_copy (V.1 1) (V.1 0) s)) := by
    unfold F_X10_tryFromNow F_X5_look
    simp only [zlt, sx, g7, g6, cx, xrv hV, g10]
  have eS : F_X11_copiesStill m0 σ2 = (zu (F_X11_copies m0 σ2).1 m0 51 1, (F_X11_copies m0 σ2).2) := by
    unfold F_X11_copiesStill
    simp only [zlt]
  have St := M.still
  have hVc : zRv L1 kd1 x0 rv sh cd (F_X1_copy (V.1 1) (V.1 0) s).2.2 := zRv.keep (V := V) (s := (σ1.1, (F_X1_copy (V.1 1) (V.1 0) s).2)) hV ⟨T1, fun _ _ => rfl⟩
  have LF := (M.1.fall M.2.1 (m := 0) (by decide) zFr.id zFr.id).1
  refine ⟨td9, B, N, gl, u, l, _, _, d1, n2, ⟨rfl, rfl⟩, fun j => ?_, ?_, fun T hT => ?_, by rw [eT, eS]; exact St⟩
  · rw [eT]
    have e1 : (F_X5_fall rv 0 (F_X5_form rv td9 (V.1 1) (F_X1_copy (V.1 1) (V.1 0) s))).2.2 = (F_X5_form rv td9 (V.1 1) (F_X1_copy (V.1 1) (V.1 0) s)).2.2 := LF.rf
    rw [e1, (zForm (V := V) hVc td9 (V.1 1)).1.1 x0 j (nr j)]
    exact cx j
  · obtain ⟨N', -, -, ⟨n3, n4, -⟩, -⟩ := h.2.2
    rw [g10] at n3
    have e1 : (F_X5_fall rv 0 (F_X5_form rv td9 (V.1 1) (F_X1_copy (V.1 1) (V.1 0) s))).1 td9 = (F_X5_form rv td9 (V.1 1) (F_X1_copy (V.1 1) (V.1 0) s)).1 td9 := zRw.r (i := 3) M.1.1.1 LF (by decide) (by omega)
    rw [eT, e1, eF]
    omega
  · have hLs := hL.pv hV.2.1.2.1 gs
    obtain ⟨-, -, -, c4⟩ := zCopy hLs (k := 1) (q := 0) (by decide) (by decide)
    obtain ⟨⟨tA, tI, tW, tM⟩, -⟩ := hL.2.2.2.1 1 (by decide)
    have e1 : (F_X5_fall rv 0 (F_X5_form rv td9 (V.1 1) (F_X1_copy (V.1 1) (V.1 0) s))).1 T = (F_X5_form rv td9 (V.1 1) (F_X1_copy (V.1 1) (V.1 0) s)).1 T := funext (fun j => LF.2 T j (by
      have TT := qOf.t hL hV t9 (zTt_k hI t9) (k := 1) (by decide)
      rintro (e | e | e | e | e)
      · exact zNk hT (TT 5 (by decide)) (by decide) e
      · exact zNk hT (TT 6 (by decide)) (by decide) e
      · exact zNk hT (TT 7 (by decide)) (by decide) e
      · exact zNk hT (TT 8 (by decide)) (by decide) e
      · exact zNk hT (TT 9 (by decide)) (by decide) e))
    rw [eT, e1, formT hVc hT (by omega)]
    refine c4 T ?_
    rintro (e | e | e | e)
    · exact zNk hT tA (by decide) e
    · exact zNk hT tI (by decide) e
    · exact zNk hT tW (by decide) e
    · exact zNk hT tM (by decide) e
/-- the reference's tally made empty -/
theorem mTallyL (h61 : (t.2.2 m0 61).getD 0 = Z) : ∀ (d n : Nat) (x : Int32) (i : Nat) (τ : zS), x.toInt = i → i + d = 12 → d < n → zFr (fun c _ => c = Z) t τ → (∀ j, j < i → τ.1 Z j = 0) → ∃ (τ' : zS) (kA : Int32 → zS → Int32 × zS), F_X11_reign_32 m0 k p r n x τ = F_X11_reign_56 m0 k p r kA 4294967299 0 τ' ∧ zFr (fun c _ => c = Z) t τ' ∧ ∀ j, j < 12 → τ'.1 Z j = 0 := by
  have e12 : (12 : Int32).toInt = 12 := by decide
  intro d
  induction d with
  | zero =>
    intro n x i τ hx hi hn f hv
    obtain ⟨n, rfl⟩ : ∃ k, n = k + 1 := ⟨n - 1, by omega⟩
    rw [F_X11_reign_32]
    simp only [↓zlt, e12]
    rw [if_neg (by omega)]
    exact ⟨τ, _, rfl, f, fun j hj => hv j (by omega)⟩
  | succ d ih =>
    intro n x i τ hx hi hn f hv
    obtain ⟨n, rfl⟩ : ∃ k, n = k + 1 := ⟨n - 1, by omega⟩
    have nx : x.toNatClampNeg = i := by rw [ztn, hx]; rfl
    rw [F_X11_reign_32]
    simp only [↓zlt, e12, f.rf, h61, nx]
    rw [if_pos (by omega)]
    have f' : zFr (fun c _ => c = Z) t (zu τ.1 Z i 0, τ.2.1, t.2.2) := by
      have k := f.w (r := Z) (j := i) (v := (0 : Int32)) rfl
      rw [f.rf] at k
      exact k
    refine ih n _ (i + 1) _ (zp1 hx (by omega)) (by omega) (by omega) f' (fun j hj => ?_)
    show zu τ.1 Z i 0 Z j = 0
    by_cases e : i = j
    · rw [e, zu_s]
    · rw [zu_j _ _ _ _ _ e]
      exact hv j (by omega)
theorem zRL.reign (h : zRL zQw L1 kd1 x0 m0 V ps pc sl rv sh cd σ1 σ2) (hw : 0 < zM m0 σ2 → zLw x0 m0 σ1 σ2) (hl : zLen x0 m0 σ1 σ2) (hx : zT L1 kd1 x0 10) (hI : zI κ 0 L1 kd1 σ1) (hJ : zJ κ L2 kd2 σ2) (hm : zT L2 kd2 m0 11) (hg : gN m0 σ2) (f1 : (v1, τ1) = F_X10_reign x0 k p r σ1) (f2 : (v2, τ2) = F_X11_reign m0 k p r σ2) : v1.toInt = v2.toInt := by
  have hL := h.1
  have hV := h.2.1
  have e0 : (0 : Int32).toInt = 0 := by decide
  have o1 : (1 : Int32).toInt = 1 := by decide
  have o2 : (2 : Int32).toInt = 2 := by decide
  have o24 : (24 : Int32).toInt = 24 := by decide
  obtain ⟨T, hT⟩ : ∃ T, (σ1.2.2 x0 9).getD 0 = T := ⟨_, rfl⟩
  have tT : zT L1 kd1 T 53 := by rw [← hT]; exact hV.2.2.2.2.2.1
  obtain ⟨y, hy⟩ : ∃ y, y = zfil σ1 T 0 12 := ⟨_, rfl⟩
  have yT : ∀ c, c ≠ T → y.1 c = σ1.1 c := fun c hc => by
    rw [hy]
    exact if_neg hc
  have yZ : ∀ j, j < 12 → y.1 T j = 0 := fun j hj => by
    rw [hy]
    show (if T = T then (fun j => if j < 12 then (0 : Int32) else σ1.1 T j) else σ1.1 T) j = 0
    rw [if_pos rfl, if_pos hj]
  have gs : zPv L1 kd1 V rv σ1 y := ⟨fun _ _ _ => by rw [hy]; rfl, fun c hc => yT c (fun e => by
    rw [e] at hc
    exact nPc tT (by decide) hc)⟩
  obtain ⟨td, B, N, gl, u, l, q, Y, d1, n2, ⟨hq, hY⟩, xr, n0, kT, M⟩ := h.stillS hw hl hx hI hJ hm hg gs (fun c kc hc hk => yT c (zNk hc tT (by omega)))
  obtain ⟨td9, d9, t9⟩ := zi_ref (j := 10) (k2 := 9) hI hx (by rfl)
  obtain rfl : td9 = td := Option.some.inj (d9.symm.trans d1)
  unfold F_X10_reign at f1
  unfold F_X11_reign at f2
  simp only [zlt, zlt2, cLaw, mLaw, cWithin, mSome, mIn, e0, o1, o2, o24, hT, ← hy] at f1 f2
  by_cases A : 0 ≤ k.toInt ∧ k.toInt ≤ 2
  · rw [if_neg (fun z => z A)] at f1 f2
    by_cases C : 1 ≤ p.toInt ∧ p.toInt ≤ 24
    · rw [if_neg (fun z => z C)] at f1 f2
      by_cases E : 0 ≤ r.toInt ∧ r.toInt ≤ 1
      · rw [if_neg (fun z => z E)] at f1 f2
        obtain ⟨D, hD⟩ : ∃ D : Nat, p.toInt = D := ⟨p.toInt.toNat, by omega⟩
        obtain ⟨w, hk⟩ : ∃ w : Nat, k.toInt = w := ⟨k.toInt.toNat, by omega⟩
        obtain ⟨s, hs⟩ : ∃ s, s = F_X10_tryFromNow x0 y := ⟨_, rfl⟩
        obtain ⟨t, ht⟩ : ∃ t, t = F_X11_copiesStill m0 σ2 := ⟨_, rfl⟩
        rw [← hs] at f1 M xr n0 kT
        rw [← ht] at f2 M
        have q0 : q 0 = rv := by rw [hq]; rfl
        have q3 : q 3 = td9 := by rw [hq]; rfl
        have TT : ∀ i, i < 22 → zT L1 kd1 (q i) (qK i) := by
          rw [hq]
          exact qOf.t hL hV t9 (zTt_k hI t9) (k := 1) (by decide)
        have hz : ∀ i, i < 22 → ¬ q i = T := fun i hi => zNk (TT i hi) tT (by
          have : ∀ i, i < 22 → qK i ≠ 53 := by decide
          exact this i hi)
        have tr : t.2.2 = σ2.2.2 := by
          rw [ht]
          have cp := (zCopies2 hJ hm).1
          unfold F_X11_copiesStill
          simp only [zlt]
          rw [cp]
        obtain ⟨Z, hZ⟩ : ∃ Z, mR σ2 m0 61 = Z := ⟨_, rfl⟩
        have z61 : (t.2.2 m0 61).getD 0 = Z := by rw [tr, ← hZ]
        have tZ : zT L2 kd2 Z 161 := by
          rw [← hZ]
          exact mR_t hJ hm (by rfl)
        have hz' : ∀ j, zYj j → ¬ Y j = Z := fun j hj => by
          rw [hY, ← hZ]
          refine mR_ne hJ hm (s := j) (s' := 61) (k := 100 + j) (k' := 161) (zYj_k hj).1 (by rfl) ?_
          unfold zYj at hj
          omega
        have ha : ¬ m0 = Z := fun e => mR_m hJ hm (s := 61) (k := 161) (by rfl) (by decide) (hZ.trans e.symm)
        obtain ⟨t', kA, b1, b2, b3⟩ := mTallyL (m0 := m0) (k := k) (p := p) (r := r) z61 12 10000 0 0 t (by decide) (by omega) (by omega) zFr.id (fun j hj => absurd hj (by omega))
        rw [b1] at f2
        have g10 : (σ1.2.2 x0 10).getD 0 = td9 := by rw [d1]; rfl
        have Mz := M.fz hz hz' ha zFr.id b2
        have R := reignL (x0 := x0) (kA := kA) (s := s) (t := t') (r := r) hz hz' ha (td := td9) ⟨by rw [xr, q0]; exact xrv hV, by rw [xr]; exact g10, by rw [xr]; exact hT⟩ (by rw [b2.rf]; exact z61) q3 hk (by omega) hD (by omega) D 4294967299 4294967299 0 0 s t' (by decide) (by omega) (by omega) (by omega) Mz rfl rfl n0 (fun j hj => by
          rw [kT T tT, yZ j hj, b3 j hj]
          exact ⟨rfl, by decide, by decide⟩)
        rw [show v1 = _ from congrArg Prod.fst f1, show v2 = _ from congrArg Prod.fst f2]
        exact R
      · rw [if_pos E] at f1 f2
        rw [(zPr2 f1).1, (zPr2 f2).1]
    · rw [if_pos C] at f1 f2
      rw [(zPr2 f1).1, (zPr2 f2).1]
  · rw [if_pos A] at f1 f2
    rw [(zPr2 f1).1, (zPr2 f2).1]
theorem zRP.reign (h : zRP κ L1 kd1 L2 kd2 x0 m0 σ1 σ2) (hI : zI κ 0 L1 kd1 σ1) (hJ : zJ κ L2 kd2 σ2) (hx : zT L1 kd1 x0 10) (hm : zT L2 kd2 m0 11) (hg : gN m0 σ2) (f1 : (v1, τ1) = F_X10_reign x0 k p r σ1) (f2 : (v2, τ2) = F_X11_reign m0 k p r σ2) : v1.toInt = v2.toInt := by
  obtain ⟨V, ps, pc, sl, rv, sh, cd, hR⟩ := h.2.2
  exact hR.reign h.2.1 h.1.2 hx hI hJ hm hg f1 f2
end REIGN
end
-- 36.start
section
/-! THE START: classes, array classes, texts and static rows, out of the tables and the premises -/
theorem zWL_of {w : Cond} (h : w ∈ zWL) : w ∈ lw_tbl := by
  rcases List.mem_append.mp h with q | q
  · exact List.mem_append_right _ (List.mem_filter.mp q).1
  · exact List.mem_append_left _ (List.mem_filter.mp q).1
theorem zArr {args : Array Value} {s : State} {ty : FieldType} (h : (Cond.arrayClass ty).before args s = true) : ∃ cA : ClassId, ArrOfT s cA ty ∧ s.vm.findClass ("[" ++ ty.toString) = some cA := by
  obtain ⟨cA, kA, comp, h1, h2, h3⟩ := Cond.arrayClass_spec h
  exact ⟨cA, fun n z => ⟨fun k h => (by cases h), kA, h2, comp, h3⟩, h1⟩
theorem zArrO {args : Array Value} {s : State} {C : String} (h : (Cond.arrayOver (.object C)).before args s = true) : ∃ cA : ClassId, ArrOfT s cA (.object C) ∧ va_RA s cA (.object C) := by
  obtain ⟨comp, cA, kA, h1, h2, h3, h4, h5⟩ := Cond.arrayOver_spec h
  exact ⟨cA, fun n z => ⟨fun k h => (by cases h), kA, h3, comp, h4⟩, kA, comp, h3, h4, h1, h5⟩
set_option maxHeartbeats 4000000 in
set_option maxRecDepth 100000 in
theorem zs_start {s : State} {b : Nat} (hts : ∀ w ∈ lw_tbl, w.before #[Value.ref b] s = true) (hgv : (Jvm.Cond.and given_1 narrow_1).before #[Value.ref b] s = true) : ∃ d : zD2, va_K (d.1, d.2.1) vwCl (zty d.2.2) s ∧ zEX d.2.2 (fun q => s.heap.size ≤ q) s s.heap ∧ zN s := by
  have hA : ∀ a : Nat, a < s.heap.size → ¬ (fun q : Nat => s.heap.size ≤ q) a := fun a h => Nat.not_le.mpr h
  have hf := flat_of_before _ hgv
  have hz : ∀ w ∈ zWL, w.before #[Value.ref b] s = true := fun w h => hts w (zWL_of h)
  have ht : ∀ w ∈ tables_1, w.before #[Value.ref b] s = true := fun w h => hts w (List.mem_append_right _ h)
  obtain ⟨c0, i0, hK0⟩ := u_known (C := RX0) (T := TX0) (N := 2) (n := 2) hz zl_in0 (hz _ wi_X0)
  obtain ⟨c1, i1, hK1⟩ := u_known (C := RX1) (T := TX1) (N := 6) (n := 6) hz zl_in1 (hz _ wi_X1)
  obtain ⟨c2, i2, hK2⟩ := u_known (C := RX2) (T := TX2) (N := 5) (n := 5) hz zl_in2 (hz _ wi_X2)
  obtain ⟨c3, i3, hK3⟩ := u_known (C := RX3) (T := TX3) (N := 12) (n := 12) hz zl_in3 (hz _ wi_X3)
  obtain ⟨c4, i4, hK4⟩ := u_known (C := RX4) (T := TX4) (N := 3) (n := 3) hz zl_in4 (hz _ wi_X4)
  obtain ⟨c5, i5, hK5⟩ := u_known (C := RX5) (T := TX5) (N := 7) (n := 7) hz zl_in5 (hz _ wi_X5)
  obtain ⟨c6, i6, hK6⟩ := u_known (C := RX6) (T := TX6) (N := 7) (n := 7) hz zl_in6 (hz _ wi_X6)
  obtain ⟨c7, i7, hK7⟩ := u_known (C := RX7) (T := TX7) (N := 2) (n := 2) hz zl_in7 (hz _ wi_X7)
  obtain ⟨c8, i8, hK8⟩ := u_known (C := RX8) (T := TX8) (N := 5) (n := 5) hz zl_in8 (hz _ wi_X8)
  obtain ⟨c9, i9, hK9⟩ := u_known (C := RX9) (T := TX9) (N := 14) (n := 14) hz zl_in9 (hz _ wi_X9)
  obtain ⟨c10, i10, hK10⟩ := u_known (C := RX10) (T := TX10) (N := 14) (n := 14) hz zl_in10 (hz _ wi_X10)
  obtain ⟨c11, i11, hK11⟩ := u_known (C := RX11) (T := TX11) (N := 69) (n := 69) hz zl_in11 (hz _ wi_X11)
  obtain ⟨a12, r12, f12⟩ := zArr (hz _ wa_byte)
  obtain ⟨a13, r13, f13⟩ := zArr (hz _ wa_int)
  obtain ⟨a14, r14, f14⟩ := zArr (hz _ wa_long)
  obtain ⟨a15, r15, f15⟩ := zArr (hz _ wa_boolean)
  obtain ⟨a16, r16, f16⟩ := zArrO (C := RX1) (ht _ (zt2 (List.mem_of_getElem? (i := 21) rfl)))
  obtain ⟨t104, e104, T104⟩ := va_Tof (tm := Term.static "SourceDispute$Told" "UNTOLD_LAWS" "[I") (ty := .int) (N := 5) (f := zunt) (A := fun q => s.heap.size ≤ q) (by decide) (hf _ (List.mem_of_getElem? (i := 10) rfl)) (va_eqt (hf _ (List.mem_of_getElem? (i := 11) rfl))) (fun j hj => by
    rcases (show j = 0 ∨ j = 1 ∨ j = 2 ∨ j = 3 ∨ j = 4 by omega) with rfl | rfl | rfl | rfl | rfl
    · exact va_eqt (hf _ (List.mem_of_getElem? (i := 12) rfl))
    · exact va_eqt (hf _ (List.mem_of_getElem? (i := 13) rfl))
    · exact va_eqt (hf _ (List.mem_of_getElem? (i := 14) rfl))
    · exact va_eqt (hf _ (List.mem_of_getElem? (i := 15) rfl))
    · exact va_eqt (hf _ (List.mem_of_getElem? (i := 16) rfl))
    ) hA
  have Z104 := va_Zref (A := fun q => s.heap.size ≤ q) (ht _ (zt2 (List.mem_of_getElem? (i := 106) rfl))) (ht _ (zt1 (List.mem_of_getElem? (i := 15) rfl))) e104 hA
  have Zcs := va_Zof (A := fun q => s.heap.size ≤ q) (ht _ (zt1 (List.mem_of_getElem? (i := 68) rfl))) (ht _ (zt1 (List.mem_of_getElem? (i := 5) rfl))) (va_eqt (hf _ (List.mem_of_getElem? (i := 4) rfl))) hA
  have Zsi := va_Zqof (A := fun q => s.heap.size ≤ q) (ht _ (zt1 (List.mem_of_getElem? (i := 84) rfl))) (ht _ (zt1 (List.mem_of_getElem? (i := 7) rfl))) (hf _ (List.mem_of_getElem? (i := 5) rfl)) hA
  have two : ∀ i : Nat, i < 2 → i = 0 ∨ i = 1 := fun i h => by omega
  have hb0 : ∀ j, j < 116 → (flatC (Jvm.Cond.and given_1 narrow_1))[21 + j]? = some (Cond.eq (.elem (.field (Term.string RX8 (zstrI 0)) "java/lang/String" "value" "[B") (.int (Int32.ofNat j))) (.int ((zbyt.getD 0 []).getD j 0))) := by decide +kernel
  have hb1 : ∀ j, j < 9 → (flatC (Jvm.Cond.and given_1 narrow_1))[141 + j]? = some (Cond.eq (.elem (.field (Term.string RX8 (zstrI 1)) "java/lang/String" "value" "[B") (.int (Int32.ofNat j))) (.int ((zbyt.getD 1 []).getD j 0))) := by decide +kernel
  obtain ⟨adK, adV, hS, hE⟩ := vk_Sof (args := #[Value.ref b]) (s := s) (N := 2) (tm := fun i => Term.string RX8 (zstrI i)) (len := zlen) (byt := zbyt) (A := fun q => s.heap.size ≤ q) (by decide) (fun i hi => by rcases two i hi with rfl | rfl; exact hf _ (List.mem_of_getElem? (i := 17) rfl); exact hf _ (List.mem_of_getElem? (i := 137) rfl)) (fun i hi => by rcases two i hi with rfl | rfl; exact hf _ (List.mem_of_getElem? (i := 18) rfl); exact hf _ (List.mem_of_getElem? (i := 138) rfl)) (fun i hi => by rcases two i hi with rfl | rfl; exact hf _ (List.mem_of_getElem? (i := 19) rfl); exact hf _ (List.mem_of_getElem? (i := 139) rfl)) (fun i hi => by rcases two i hi with rfl | rfl; exact hf _ (List.mem_of_getElem? (i := 20) rfl); exact hf _ (List.mem_of_getElem? (i := 140) rfl)) (fun i hi j hj => by rcases two i hi with rfl | rfl; exact hf _ (List.mem_of_getElem? (hb0 j hj)); exact hf _ (List.mem_of_getElem? (hb1 j hj))) (fun i j hi hj hij => by rcases two i hi with rfl | rfl <;> rcases two j hj with rfl | rfl; exact absurd rfl hij; exact Or.inl (hf _ (List.mem_of_getElem? (i := 150) rfl)); exact Or.inr (hf _ (List.mem_of_getElem? (i := 150) rfl)); exact absurd rfl hij) hA
  refine ⟨(fun k => ([c0, c1, c2, c3, c4, c5, c6, c7, c8, c9, c10, c11] : List ClassId).getD k 0, fun k => ([i0, i1, i2, i3, i4, i5, i6, i7, i8, i9, i10, i11] : List (Nat → Nat)).getD k (fun _ => 0), fun k => if k = 12 then a12 else if k = 13 then a13 else if k = 14 then a14 else if k = 15 then a15 else if k = 16 then a16 else if k = 104 then t104 else if k = 100 then adK 0 else if k = 101 then adK 1 else if k = 102 then adV 0 else adV 1), ⟨fun c q hq => ?_, fun k q hq => ?_⟩, ⟨Z104, T104, ?_, ?_, Zcs, Zsi, va_AO.of (ht _ (zt2 (List.mem_of_getElem? (i := 21) rfl)))⟩, fun w hw hn => ?_⟩
  · match c, hq with
    | 0, hq => cases hq; exact hK0
    | 1, hq => cases hq; exact hK1
    | 2, hq => cases hq; exact hK2
    | 3, hq => cases hq; exact hK3
    | 4, hq => cases hq; exact hK4
    | 5, hq => cases hq; exact hK5
    | 6, hq => cases hq; exact hK6
    | 7, hq => cases hq; exact hK7
    | 8, hq => cases hq; exact hK8
    | 9, hq => cases hq; exact hK9
    | 10, hq => cases hq; exact hK10
    | 11, hq => cases hq; exact hK11
    | c + 12, hq => simp [vwCl] at hq
  · match k, hq with
    | 0, hq => cases hq; exact ⟨r12, f12⟩
    | 1, hq => cases hq; exact ⟨r13, f13⟩
    | 2, hq => cases hq; exact ⟨r14, f14⟩
    | 3, hq => cases hq; exact ⟨r15, f15⟩
    | 4, hq => cases hq; exact ⟨r16, f16⟩
    | k + 5, hq => simp [zty] at hq
  · refine ⟨fun i hi => ?_, fun i j hi hj e => ?_⟩
    · rcases two i hi with rfl | rfl
      · exact hS.1 0 (by decide)
      · exact hS.1 1 (by decide)
    · rcases two i hi with rfl | rfl <;> rcases two j hj with rfl | rfl
      · rfl
      · exact hS.2 0 1 (by decide) (by decide) e
      · exact hS.2 1 0 (by decide) (by decide) e
      · rfl
  · intro i hi
    rcases two i hi with rfl | rfl
    · exact vk_R.of (A := #[Value.ref b]) (ht _ (zt1 (List.mem_of_getElem? (i := 58) rfl))) (hE 0 (by decide))
    · exact vk_R.of (A := #[Value.ref b]) (ht _ (zt3 (List.mem_of_getElem? (i := 32) rfl))) (hE 1 (by decide))
  · have q := ht w hw
    cases w <;> first | (exact va_Nw.of rfl q) | (simp [zisN] at hn)
end
