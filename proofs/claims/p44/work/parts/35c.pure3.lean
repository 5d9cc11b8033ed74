/-! the class' tokens, one by one -/
def zsg (c : Int) : Int := if c = 59 then 24 else if c = 61 then 25 else if c = 43 then 26 else if c = 45 then 27 else if c = 42 then 28 else if c = 47 then 29 else if c = 60 then 30 else if c = 40 then 31 else if c = 41 then 32 else 34
def zCT (b : Nat → Int32) (n : Nat) (W : Nat → Int64) (a : Nat) (K : Int) (V : Int64) (Q : Int) (e : Nat) : Prop :=
  ∃ s, zRun zBl b n a s ∧ Q = s ∧ s ≤ n ∧ ((s = n ∧ K = 33 ∧ e = s) ∨ (s < n ∧ zLt (b s).toInt ∧ zRun zLt b n s e ∧ V = zlv b s e ∧ ((8 < e - s ∧ K = 34) ∨ (e - s ≤ 8 ∧ zKw W V K))) ∨ (s < n ∧ zDg (b s).toInt ∧ zRun zDg b n s e ∧ ((4 < e - s ∧ K = 34) ∨ (e - s ≤ 4 ∧ K = 23 ∧ ∃ y : Int32, V = y.toInt64 ∧ y.toInt = zdv b s (e - s)))) ∨ (s < n ∧ ¬ zLt (b s).toInt ∧ ¬ zDg (b s).toInt ∧ e = s + 1 ∧ K = zsg (b s).toInt))
/-- where the class' tokens lie: the row of kinds, of values, of places -/
def zAd (t k v q : Nat) (σ : zS) (n : Nat) (K : Int32) (V : Int64) (Q : Int32) : zS := (zu (zu (zu σ.1 k n K) q n Q) t 4 (σ.1 t 4 + 1), zu σ.2.1 v n V, σ.2.2)
def zTl (t w k v q : Nat) (σ : zS) : Prop := σ.2.2 t 0 = some w ∧ σ.2.2 t 1 = some k ∧ σ.2.2 t 2 = some v ∧ σ.2.2 t 3 = some q
theorem zadd {t w k v q n : Nat} {K : Int32} {V : Int64} {Q : Int32} {σ : zS} (hl : zTl t w k v q σ) (hk : k ≠ t) (hq : q ≠ t) (hn : (σ.1 t 4).toInt = n) (hn2 : n < 402) : F_X8_add t K V Q σ = zAd t k v q σ n K V Q := by
  obtain ⟨-, h1, h2, h3⟩ := hl
  have e1 : (σ.2.2 t 1).getD 0 = k := by rw [h1]; rfl
  have e2 : (σ.2.2 t 2).getD 0 = v := by rw [h2]; rfl
  have e3 : (σ.2.2 t 3).getD 0 = q := by rw [h3]; rfl
  have en : (σ.1 t 4).toNatClampNeg = n := by rw [ztn, hn]; rfl
  have e402 : (402 : Int32).toInt = 402 := by decide
  unfold F_X8_add zAd
  simp only [zlt, e1, e2, e3, e402]
  rw [if_pos (by omega)]
  have r1 : zu σ.1 k n K t 4 = σ.1 t 4 := by rw [zu_n _ _ _ (fun z => hk z.symm)]
  have r2 : zu (zu σ.1 k n K) q n Q t 4 = σ.1 t 4 := by rw [zu_n _ _ _ (fun z => hq z.symm), r1]
  simp only [en, r1, r2]
theorem zidx : ∀ c : Int32, 0 < c.toInt → c.toInt ≤ 127 → ((F_J0_indexOf_0f7a4 1 ((c.toUInt32 % 65536).toInt32)).toInt < 0 ∧ zsg c.toInt = 34) ∨ (0 ≤ (F_J0_indexOf_0f7a4 1 ((c.toUInt32 % 65536).toInt32)).toInt ∧ (F_J0_indexOf_0f7a4 1 ((c.toUInt32 % 65536).toInt32)).toInt ≤ 8 ∧ zsg c.toInt = 24 + (F_J0_indexOf_0f7a4 1 ((c.toUInt32 % 65536).toInt32)).toInt) := by
  intro c h0 h1
  have key : ∀ k : Fin 128, 0 < k.val → ((F_J0_indexOf_0f7a4 1 (((Int32.ofNat k.val).toUInt32 % 65536).toInt32)).toInt < 0 ∧ zsg (Int32.ofNat k.val).toInt = 34) ∨ (0 ≤ (F_J0_indexOf_0f7a4 1 (((Int32.ofNat k.val).toUInt32 % 65536).toInt32)).toInt ∧ (F_J0_indexOf_0f7a4 1 (((Int32.ofNat k.val).toUInt32 % 65536).toInt32)).toInt ≤ 8 ∧ zsg (Int32.ofNat k.val).toInt = 24 + (F_J0_indexOf_0f7a4 1 (((Int32.ofNat k.val).toUInt32 % 65536).toInt32)).toInt) := by decide +kernel
  have e : c = Int32.ofNat c.toInt.toNat := by
    apply Int32.toInt_inj.mp
    have := nI_toInt (n := c.toInt.toNat) (by omega)
    unfold nI at this
    rw [this]
    omega
  have q := key ⟨c.toInt.toNat, by omega⟩ (by show 0 < c.toInt.toNat; omega)
  rw [← e] at q
  exact q
/-- what follows behind a token -/
noncomputable def zSt (t p1 : Nat) (p2 : Int32) (N : Nat) (i e : Int32) (σ : zS) : zS :=
  if 0 < (σ.1 t 4).toInt then (if (σ.1 ((σ.2.2 t 1).getD 0) (σ.1 t 4 - (1 : Int32)).toNatClampNeg).toInt < (33 : Int32).toInt then F_X8_scan_13 t p1 p2 N (i + (1 : Int32)) 1 e σ else F_X8_scan_13 t p1 p2 N (i + (1 : Int32)) 0 e σ) else F_X8_scan_13 t p1 p2 N (i + (1 : Int32)) 0 e σ
theorem zsc_step {t p1 w k v q n a m : Nat} {p2 i go at_ : Int32} {σ : zS} {N : Nat} (hl : zTl t w k v q σ) (hk : k ≠ t) (hq : q ≠ t) (hn : p2.toInt = n) (hn2 : n ≤ 2000) (hi : i.toInt ≤ 400) (hgo : go.toInt ≠ 0) (ha : at_.toInt = a) (han : a ≤ n) (hm : (σ.1 t 4).toInt = m) (hm2 : m < 402) (hby : ∀ j, -128 ≤ (σ.1 p1 j).toInt ∧ (σ.1 p1 j).toInt ≤ 127) :
    ∃ (K : Int32) (V : Int64) (Q e : Int32) (en : Nat), e.toInt = en ∧ en ≤ n ∧ zCT (σ.1 p1) n (σ.2.1 w) a K.toInt V Q.toInt en ∧ (K.toInt < 33 → a < en) ∧ F_X8_scan_13 t p1 p2 (N + 1) i go at_ σ = zSt t p1 p2 N i e (zAd t k v q σ m K V Q) := by
  obtain ⟨x, hx, hx0, hx1, hr⟩ := zpb (p1 := p1) (σ := σ) hn hn2 ha (by omega)
  obtain ⟨s, hs⟩ : ∃ s : Nat, s = x.toInt.toNat := ⟨_, rfl⟩
  rw [← hs] at hr
  have hxs : x.toInt = s := by omega
  have hsn : s ≤ n := by
    rcases Nat.lt_or_ge n s with z | z
    · have := (hr.2.1 n (by omega) z).1; omega
    · exact z
  have has := hr.1
  have e400 : (400 : Int32).toInt = 400 := by decide
  have hxi : x.toNatClampNeg = s := by rw [ztn, hxs]; rfl
  rw [F_X8_scan_13]
  simp only [zlt, zlt2, hx, hxi, zL1, zD1]
  rw [if_neg (by rw [e400]; omega), if_neg hgo]
  by_cases c0 : x.toInt < p2.toInt
  · rw [if_pos c0, if_pos c0]
    have c1 : s < n := by omega
    by_cases c2 : zLt (σ.1 p1 s).toInt
    · rw [if_neg (fun z => z c2)]
      obtain ⟨e, ex, K, h1, h2, h3, h4, h5⟩ := zaL (a0 := t) (p1 := p1) (σ := σ) hn hn2 hxs hsn hl.1
      rw [h5, zadd hl hk hq hm hm2]
      have hse : s < e := by
        rcases Nat.lt_or_ge s e with z | z
        · exact z
        · have : e = s := Nat.le_antisymm z h3.1
          subst this
          exact absurd ⟨c1, c2⟩ h3.2.2
      exact ⟨K, _, x, ex, e, h1, h2, ⟨s, hr, hxs, hsn, Or.inr (Or.inl ⟨c1, c2, h3, rfl, h4⟩)⟩, fun _ => by omega, rfl⟩
    · rw [if_pos c2]
      by_cases c3 : zDg (σ.1 p1 s).toInt
      · rw [if_neg (fun z => z c3)]
        obtain ⟨e, ex, ey, K, h1, h2, h3, h4, h5⟩ := zaD (a0 := t) (p1 := p1) (σ := σ) hn hn2 hxs hsn
        rw [h5, zadd hl hk hq hm hm2]
        have hse : s < e := by
          rcases Nat.lt_or_ge s e with z | z
          · exact z
          · have : e = s := Nat.le_antisymm z h3.1
            subst this
            exact absurd ⟨c1, c3⟩ h3.2.2
        refine ⟨K, _, x, ex, e, h1, h2, ⟨s, hr, hxs, hsn, Or.inr (Or.inr (Or.inl ⟨c1, c3, h3, ?_⟩))⟩, fun _ => by omega, rfl⟩
        rcases h4 with ⟨z1, z2⟩ | ⟨z1, z2, z3⟩
        · exact Or.inl ⟨z1, z2⟩
        · exact Or.inr ⟨z1, z2, ey, rfl, z3⟩
      · rw [if_pos c3]
        have he := zp1 hxs (by omega)
        have mk : ∀ K : Int32, K.toInt = zsg (σ.1 p1 s).toInt → zCT (σ.1 p1) n (σ.2.1 w) a K.toInt (Int64.ofNat 0) x.toInt (s + 1) := fun K hK => ⟨s, hr, hxs, hsn, Or.inr (Or.inr (Or.inr ⟨c1, c2, c3, rfl, hK⟩))⟩
        by_cases c4 : 0 < (σ.1 p1 s).toInt
        · rw [if_pos c4]
          rcases zidx (σ.1 p1 s) c4 (hby s).2 with ⟨h1, h2⟩ | ⟨h1, h2, h3⟩
          · rw [if_pos h1, zadd hl hk hq hm hm2]
            exact ⟨34, _, x, _, s + 1, he, by omega, mk 34 (by rw [h2]; decide), fun _ => by omega, rfl⟩
          · rw [if_neg (by omega), zadd hl hk hq hm hm2]
            have e24 : (24 : Int32).toInt = 24 := by decide
            exact ⟨_, _, x, _, s + 1, he, by omega, mk _ (by rw [zb_add (by rw [e24]; omega) (by rw [e24]; omega), e24, h3]), fun _ => by omega, rfl⟩
        · rw [if_neg c4]
          have e1 : (-1 : Int32).toInt = -1 := by decide
          rw [if_pos (by rw [e1]; decide), zadd hl hk hq hm hm2]
          refine ⟨34, _, x, _, s + 1, he, by omega, mk 34 ?_, fun _ => by omega, rfl⟩
          unfold zsg
          rw [if_neg (by omega), if_neg (by omega), if_neg (by omega), if_neg (by omega), if_neg (by omega), if_neg (by omega), if_neg (by omega), if_neg (by omega), if_neg (by omega)]
          decide
  · rw [if_neg c0, if_neg c0, zadd hl hk hq hm hm2]
    exact ⟨33, _, p2, x, s, hxs, hsn, ⟨s, hr, by omega, hsn, Or.inl ⟨by omega, by decide, rfl⟩⟩, fun z => absurd z (by decide), rfl⟩
/-- the tokens that lie there: m of them -/
def zTk (b : Nat → Int32) (n : Nat) (W : Nat → Int64) (k v q : Nat) (σ : zS) (m : Nat) (E : Nat → Nat) : Prop :=
  E 0 = 0 ∧ (∀ j, j < m → zCT b n W (E j) (σ.1 k j).toInt (σ.2.1 v j) (σ.1 q j).toInt (E (j + 1)) ∧ E (j + 1) ≤ n ∧ ((σ.1 k j).toInt < 33 → E j < E (j + 1))) ∧ ∀ j, j + 1 < m → (σ.1 k j).toInt < 33
def zFs3 (t k v q : Nat) (σ σ' : zS) : Prop := σ'.2.2 = σ.2.2 ∧ (∀ a, a ≠ t → a ≠ k → a ≠ q → σ'.1 a = σ.1 a) ∧ (∀ a, a ≠ v → σ'.2.1 a = σ.2.1 a) ∧ ∀ j, j ≠ 4 → σ'.1 t j = σ.1 t j
theorem zFs3.rf {t k v q : Nat} {σ : zS} : zFs3 t k v q σ σ := ⟨rfl, fun _ _ _ _ => rfl, fun _ _ => rfl, fun _ _ => rfl⟩
theorem zFs3.tr {t k v q : Nat} {σ σ1 σ2 : zS} (h : zFs3 t k v q σ σ1) (g : zFs3 t k v q σ1 σ2) : zFs3 t k v q σ σ2 := ⟨g.1.trans h.1, fun a h1 h2 h3 => (g.2.1 a h1 h2 h3).trans (h.2.1 a h1 h2 h3), fun a h1 => (g.2.2.1 a h1).trans (h.2.2.1 a h1), fun j hj => (g.2.2.2 j hj).trans (h.2.2.2 j hj)⟩
theorem zAd_fr {t k v q n : Nat} {K : Int32} {V : Int64} {Q : Int32} {σ : zS} (hk : k ≠ t) (hq : q ≠ t) : zFs3 t k v q σ (zAd t k v q σ n K V Q) := by
  refine ⟨rfl, fun a h1 h2 h3 => ?_, fun a h1 => ?_, fun j hj => ?_⟩
  · show zu (zu (zu σ.1 k n K) q n Q) t 4 _ a = _
    rw [zu_n _ _ _ h1, zu_n _ _ _ h3, zu_n _ _ _ h2]
  · show zu σ.2.1 v n V a = _
    rw [zu_n _ _ _ h1]
  · show zu (zu (zu σ.1 k n K) q n Q) t 4 _ t j = _
    rw [zu_j _ _ _ _ _ (fun z => hj z.symm), zu_n _ _ _ (fun z => hq z.symm), zu_n _ _ _ (fun z => hk z.symm)]
theorem zAd_at {t k v q n : Nat} {K : Int32} {V : Int64} {Q : Int32} {σ : zS} (hk : k ≠ t) (hq : q ≠ t) (hkq : k ≠ q) (hn : (σ.1 t 4).toInt = n) (hn2 : n < 402) : ((zAd t k v q σ n K V Q).1 t 4).toInt = ((n + 1 : Nat) : Int) ∧ (∀ j, (zAd t k v q σ n K V Q).1 k j = if j = n then K else σ.1 k j) ∧ (∀ j, (zAd t k v q σ n K V Q).1 q j = if j = n then Q else σ.1 q j) ∧ ∀ j, (zAd t k v q σ n K V Q).2.1 v j = if j = n then V else σ.2.1 v j := by
  refine ⟨?_, fun j => ?_, fun j => ?_, fun j => ?_⟩
  · show (zu (zu (zu σ.1 k n K) q n Q) t 4 (σ.1 t 4 + 1) t 4).toInt = _
    rw [zu_s]
    exact zp1 hn (by omega)
  · show zu (zu (zu σ.1 k n K) q n Q) t 4 _ k j = _
    rw [zu_n _ _ _ hk, zu_n _ _ _ hkq, zu_a]
  · show zu (zu (zu σ.1 k n K) q n Q) t 4 _ q j = _
    rw [zu_n _ _ _ hq, zu_a, zu_n _ _ _ (fun z => hkq z.symm)]
  · show zu σ.2.1 v n V v j = _
    rw [zu_a]
theorem zsc_loop {t p1 w k v q n : Nat} {p2 : Int32} (hk : k ≠ t) (hq : q ≠ t) (hkq : k ≠ q) (hp : p1 ≠ t ∧ p1 ≠ k ∧ p1 ≠ q) (hwv : w ≠ v) (hn : p2.toInt = n) (hn2 : n ≤ 2000) : ∀ (N : Nat) (i go at_ : Int32) (σ : zS) (m a : Nat) (E : Nat → Nat), zTl t w k v q σ → (σ.1 t 4).toInt = m → i.toInt = m → m ≤ 401 → at_.toInt = a → a ≤ n → E m = a → zTk (σ.1 p1) n (σ.2.1 w) k v q σ m E → (∀ j, -128 ≤ (σ.1 p1 j).toInt ∧ (σ.1 p1 j).toInt ≤ 127) → (go.toInt ≠ 0 → m ≠ 0 → (σ.1 k (m - 1)).toInt < 33) → (go.toInt = 0 → 0 < m ∧ 33 ≤ (σ.1 k (m - 1)).toInt) → 401 - m < N →
    ∃ (m' : Nat) (E' : Nat → Nat), ((F_X8_scan_13 t p1 p2 N i go at_ σ).1 t 4).toInt = m' ∧ 0 < m' ∧ m' ≤ 401 ∧ zTk (σ.1 p1) n (σ.2.1 w) k v q (F_X8_scan_13 t p1 p2 N i go at_ σ) m' E' ∧ (m' = 401 ∨ 33 ≤ ((F_X8_scan_13 t p1 p2 N i go at_ σ).1 k (m' - 1)).toInt) ∧ zFs3 t k v q σ (F_X8_scan_13 t p1 p2 N i go at_ σ) := by
  intro N
  induction N with
  | zero => intro i go at_ σ m a E _ _ _ _ _ _ _ _ _ _ _ h; exact absurd h (by omega)
  | succ N ih =>
    intro i go at_ σ m a E hl hm hi hm4 ha han hE hT hby hg1 hg0 hf
    have e400 : (400 : Int32).toInt = 400 := by decide
    by_cases c0 : m = 401
    · have e : F_X8_scan_13 t p1 p2 (N + 1) i go at_ σ = σ := by
        rw [F_X8_scan_13]
        simp only [zlt, zlt2]
        rw [if_pos (by rw [e400]; omega)]
      rw [e]
      exact ⟨m, E, hm, by omega, hm4, hT, Or.inl c0, zFs3.rf⟩
    by_cases c1 : go.toInt = 0
    · have e : F_X8_scan_13 t p1 p2 (N + 1) i go at_ σ = σ := by
        rw [F_X8_scan_13]
        simp only [zlt, zlt2]
        rw [if_neg (by rw [e400]; omega), if_pos c1]
      rw [e]
      have h12 := hg0 c1
      exact ⟨m, E, hm, h12.1, hm4, hT, Or.inr h12.2, zFs3.rf⟩
    obtain ⟨K, V, Q, e, en, h1, h2, h3, h4, h5⟩ := zsc_step (i := i) (go := go) (at_ := at_) (N := N) hl hk hq hn hn2 (by omega) c1 ha han hm (by omega) hby
    rw [h5]
    obtain ⟨σ1, hσ1⟩ : ∃ s, s = zAd t k v q σ m K V Q := ⟨_, rfl⟩
    have fr := zAd_fr (n := m) (K := K) (V := V) (Q := Q) (σ := σ) (v := v) hk hq
    obtain ⟨q1, q2, q3, q4⟩ := zAd_at (v := v) (K := K) (V := V) (Q := Q) hk hq hkq hm (by omega)
    rw [← hσ1] at fr q1 q2 q3 q4 ⊢
    have hl1 : zTl t w k v q σ1 := by unfold zTl; rw [fr.1]; exact hl
    have hb1 : σ1.1 p1 = σ.1 p1 := fr.2.1 p1 hp.1 hp.2.1 hp.2.2
    have hw1 : σ1.2.1 w = σ.2.1 w := fr.2.2.1 w hwv
    have hT1 : zTk (σ1.1 p1) n (σ1.2.1 w) k v q σ1 (m + 1) (fun j => if j = m + 1 then en else E j) := by
      rw [hb1, hw1]
      refine ⟨by show (if 0 = m + 1 then en else E 0) = 0; rw [if_neg (by omega)]; exact hT.1, fun j hj => ?_, fun j hj => ?_⟩
      · rw [q2, q3, q4]
        by_cases hjm : j = m
        · subst hjm
          rw [if_pos rfl, if_pos rfl, if_pos rfl]
          simp only [if_pos, if_neg (show ¬ j = j + 1 by omega)]
          rw [hE]
          exact ⟨h3, h2, h4⟩
        · rw [if_neg hjm, if_neg hjm, if_neg hjm]
          simp only [if_neg (show ¬ j = m + 1 by omega), if_neg (show ¬ j + 1 = m + 1 by omega)]
          exact hT.2.1 j (by omega)
      · rw [q2]
        by_cases hjm : j = m
        · exact absurd hj (by omega)
        · rw [if_neg hjm]
          by_cases h9 : j + 1 = m
          · have hg := hg1 c1 (by omega)
            rw [show m - 1 = j by omega] at hg
            exact hg
          · exact hT.2.2 j (by omega)
    have ek : (σ1.2.2 t 1).getD 0 = k := by rw [hl1.2.1]; rfl
    have em : (σ1.1 t 4 - (1 : Int32)).toNatClampNeg = m := by
      have e1 : (1 : Int32).toInt = 1 := by decide
      rw [ztn, zb_sub (by rw [q1, e1]; omega) (by rw [q1, e1]; omega), q1, e1]
      omega
    have kk : σ1.1 k m = K := by rw [q2, if_pos rfl]
    have hby1 : ∀ j, -128 ≤ (σ1.1 p1 j).toInt ∧ (σ1.1 p1 j).toInt ≤ 127 := fun j => by rw [hb1]; exact hby j
    have nx := fun (g2 : Int32) g1 g0 => ih (i + (1 : Int32)) g2 e σ1 (m + 1) en _ hl1 q1 (zp1 hi (by omega)) (by omega) h1 h2 (by simp) hT1 hby1 g1 g0 (by omega)
    have e33 : (33 : Int32).toInt = 33 := by decide
    have fin : ∀ τ : zS, (∃ (m' : Nat) (E' : Nat → Nat), (τ.1 t 4).toInt = m' ∧ 0 < m' ∧ m' ≤ 401 ∧ zTk (σ1.1 p1) n (σ1.2.1 w) k v q τ m' E' ∧ (m' = 401 ∨ 33 ≤ (τ.1 k (m' - 1)).toInt) ∧ zFs3 t k v q σ1 τ) → ∃ (m' : Nat) (E' : Nat → Nat), (τ.1 t 4).toInt = m' ∧ 0 < m' ∧ m' ≤ 401 ∧ zTk (σ.1 p1) n (σ.2.1 w) k v q τ m' E' ∧ (m' = 401 ∨ 33 ≤ (τ.1 k (m' - 1)).toInt) ∧ zFs3 t k v q σ τ := fun τ ⟨m', E', z1, z2, z3, z4, z5, z6⟩ => ⟨m', E', z1, z2, z3, by rw [hb1, hw1] at z4; exact z4, z5, fr.tr z6⟩
    unfold zSt
    rw [if_pos (by rw [q1]; omega), ek, em, kk, e33]
    by_cases c2 : K.toInt < 33
    · rw [if_pos c2]
      refine fin _ (nx 1 (fun _ _ => ?_) (fun z => absurd z (by decide)))
      rw [show m + 1 - 1 = m by omega, kk]; exact c2
    · rw [if_neg c2]
      refine fin _ (nx 0 (fun z => absurd rfl z) (fun _ => ⟨by omega, by rw [show m + 1 - 1 = m by omega, kk]; omega⟩))
theorem zsc_e (t p1 : Nat) (p2 : Int32) (σ : zS) : ∃ N : Nat, 401 < N ∧ F_X8_scan t p1 p2 σ = F_X8_scan_13 t p1 p2 N 0 1 0 (zu σ.1 t 4 (0 : Int32), σ.2.1, σ.2.2) := by
  unfold F_X8_scan
  simp only [zlt]
  exact ⟨10000, by omega, rfl⟩
theorem zsc {t p1 w k v q n : Nat} {p2 : Int32} {σ : zS} (hk : k ≠ t) (hq : q ≠ t) (hkq : k ≠ q) (hp : p1 ≠ t ∧ p1 ≠ k ∧ p1 ≠ q) (hwv : w ≠ v) (hn : p2.toInt = n) (hn2 : n ≤ 2000) (hl : zTl t w k v q σ) (hby : ∀ j, -128 ≤ (σ.1 p1 j).toInt ∧ (σ.1 p1 j).toInt ≤ 127) :
    ∃ (m' : Nat) (E' : Nat → Nat), ((F_X8_scan t p1 p2 σ).1 t 4).toInt = m' ∧ 0 < m' ∧ m' ≤ 401 ∧ zTk (σ.1 p1) n (σ.2.1 w) k v q (F_X8_scan t p1 p2 σ) m' E' ∧ (m' = 401 ∨ 33 ≤ ((F_X8_scan t p1 p2 σ).1 k (m' - 1)).toInt) ∧ zFs3 t k v q σ (F_X8_scan t p1 p2 σ) := by
  obtain ⟨σ0, h0⟩ : ∃ s : zS, s = (zu σ.1 t 4 (0 : Int32), σ.2.1, σ.2.2) := ⟨_, rfl⟩
  have f0 : zFs3 t k v q σ σ0 := by
    rw [h0]
    exact ⟨rfl, fun a h1 _ _ => zu_n _ _ _ h1, fun _ _ => rfl, fun j hj => zu_j _ _ _ _ _ (fun z => hj z.symm)⟩
  obtain ⟨N, hN, e⟩ := zsc_e t p1 p2 σ
  rw [← h0] at e
  have hb0 : σ0.1 p1 = σ.1 p1 := f0.2.1 p1 hp.1 hp.2.1 hp.2.2
  have hw0 : σ0.2.1 w = σ.2.1 w := f0.2.2.1 w hwv
  obtain ⟨m', E', z1, z2, z3, z4, z5, z6⟩ := zsc_loop hk hq hkq hp hwv hn hn2 N 0 1 0 σ0 0 0 (fun _ => 0) (by unfold zTl; rw [f0.1]; exact hl) (by rw [h0]; show (zu σ.1 t 4 (0 : Int32) t 4).toInt = _; rw [zu_s]; decide) (by decide) (by omega) (by decide) (by omega) rfl ⟨rfl, fun j hj => absurd hj (by omega), fun j hj => absurd hj (by omega)⟩ (fun j => by rw [hb0]; exact hby j) (fun _ z => absurd rfl z) (fun z => absurd z (by decide)) (by omega)
  rw [e]
  exact ⟨m', E', z1, z2, z3, by rw [hb0, hw0] at z4; exact z4, z5, f0.tr z6⟩
