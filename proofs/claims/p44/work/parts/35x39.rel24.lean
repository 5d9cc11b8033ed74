theorem ivL {b p iv : Nat} {n : Int} (h0 : 0 ≤ n) (h : iv = 12 * b + (n + 1).toNat) : (p : Int) = n + 1 ↔ 12 * b + p = iv := by omega
theorem ivM {p : Nat} {n : Int} (h : (p : Int) ≤ n + 1) (h2 : ¬ (p : Int) = n + 1) : (p : Int) ≤ n := by omega
section RTG2
variable {a k q v nm nO m b : Nat} {T : zTn} {τ τ' : zS} {s s' : zA} {Y : Nat → Nat} {g : zGa} {R : Nat → Nat → Option Nat}
def zYz (Y : Nat → Nat) (a : Nat) (R : Nat → Nat → Option Nat) : Prop := (∀ j, zQs j → (R a j).getD 0 = Y j ∧ Y j ≠ a) ∧ ∀ i j, zQs i → zQs j → i ≠ j → Y i ≠ Y j
theorem zYz.n (h : zYz Y a R) : (∀ i j, 21 ≤ i → i ≤ 25 → 21 ≤ j → j ≤ 25 → i ≠ j → Y i ≠ Y j) ∧ ∀ i, 21 ≤ i → i ≤ 25 → Y i ≠ a := by
  have q : ∀ i, 21 ≤ i → i ≤ 25 → zQs i := fun i h1 h2 => by unfold zQs; omega
  exact ⟨fun i j h1 h2 h3 h4 h5 => h.2 i j (q i h1 h2) (q j h3 h4) h5, fun i h1 h2 => (h.1 i (q i h1 h2)).2⟩
theorem xRows {t0 t1 t2 t3 t6 F : zS} {v23 x1 x2 x3 : Int32} {iv i : Nat} (n2 : ∀ i j, 21 ≤ i → i ≤ 25 → 21 ≤ j → j ≤ 25 → i ≠ j → Y i ≠ Y j) (n1 : ∀ i, 21 ≤ i → i ≤ 25 → Y i ≠ a) (A1 : zFi (fun c _ => c = a) τ t0) (B1 : zFi (fun c _ => c = a) (zu t0.1 (Y 22) iv v23, t0.2.1, t0.2.2) t1) (B2 : zFi (fun c _ => c = a) (zu t1.1 (Y 23) iv x1, t1.2.1, t1.2.2) t2) (B3 : zFi (fun c _ => c = a) (zu t2.1 (Y 24) iv x2, t2.2.1, t2.2.2) t3) (B4 : zFi (fun c _ => c = a) (zu t3.1 (Y 25) iv x3, t3.2.1, t3.2.2) t6) (hF : zFi (fun c _ => c = a ∨ c = Y 21) t6 F) : F.1 (Y 22) i = (if i = iv then v23 else τ.1 (Y 22) i) ∧ F.1 (Y 23) i = (if i = iv then x1 else τ.1 (Y 23) i) ∧ F.1 (Y 24) i = (if i = iv then x2 else τ.1 (Y 24) i) ∧ F.1 (Y 25) i = (if i = iv then x3 else τ.1 (Y 25) i) ∧ t6.1 (Y 21) = τ.1 (Y 21) := by
  have m22 : ¬ Y 22 = a := n1 22 (by decide) (by decide)
  have m23 : ¬ Y 23 = a := n1 23 (by decide) (by decide)
  have m24 : ¬ Y 24 = a := n1 24 (by decide) (by decide)
  have m25 : ¬ Y 25 = a := n1 25 (by decide) (by decide)
  have D : ∀ j, (j = 22 ∨ j = 23 ∨ j = 24 ∨ j = 25) → F.1 (Y j) i = zu (zu (zu (zu τ.1 (Y 22) iv v23) (Y 23) iv x1) (Y 24) iv x2) (Y 25) iv x3 (Y j) i := fun j hj => by
    have mj : ¬ Y j = a := n1 j (by omega) (by omega)
    have m21 : ¬ Y j = Y 21 := n2 j 21 (by omega) (by omega) (by omega) (by omega) (by omega)
    have e0 : t0.1 (Y j) = τ.1 (Y j) := funext (fun i => A1.2 _ _ mj)
    have w : ∀ {f g : Nat → Nat → Int32} {r : Nat} {v : Int32}, f (Y j) = g (Y j) → zu f r iv v (Y j) = zu g r iv v (Y j) := fun {f g r v} e => by
      funext x
      unfold zu
      rw [e]
    have e1 : t1.1 (Y j) = zu τ.1 (Y 22) iv v23 (Y j) := (funext (fun i => B1.2 _ _ mj)).trans (w e0)
    have e2 : t2.1 (Y j) = zu (zu τ.1 (Y 22) iv v23) (Y 23) iv x1 (Y j) := (funext (fun i => B2.2 _ _ mj)).trans (w e1)
    have e3 : t3.1 (Y j) = zu (zu (zu τ.1 (Y 22) iv v23) (Y 23) iv x1) (Y 24) iv x2 (Y j) := (funext (fun i => B3.2 _ _ mj)).trans (w e2)
    have e6 : t6.1 (Y j) = zu (zu (zu (zu τ.1 (Y 22) iv v23) (Y 23) iv x1) (Y 24) iv x2) (Y 25) iv x3 (Y j) := (funext (fun i => B4.2 _ _ mj)).trans (w e3)
    rw [hF.2 _ _ (fun z => z.elim mj m21), e6]
  have s : ∀ (f : Nat → Nat → Int32) (r : Nat) (v : Int32), zu f r iv v r i = if i = iv then v else f r i := fun f r v => by
    unfold zu
    rw [if_pos rfl]
  have n : ∀ (f : Nat → Nat → Int32) (r r' : Nat) (v : Int32), r ≠ r' → zu f r iv v r' i = f r' i := fun f r r' v h => by rw [zu_n _ _ _ (fun z => h z.symm)]
  have d : ∀ i j, 21 ≤ i ∧ i ≤ 25 ∧ 21 ≤ j ∧ j ≤ 25 ∧ i ≠ j → Y i ≠ Y j := fun i j h => n2 i j h.1 h.2.1 h.2.2.1 h.2.2.2.1 h.2.2.2.2
  refine ⟨?_, ?_, ?_, ?_, ?_⟩
  · rw [D 22 (by decide), n _ _ _ _ (d 25 22 (by decide)), n _ _ _ _ (d 24 22 (by decide)), n _ _ _ _ (d 23 22 (by decide)), s]
  · rw [D 23 (by decide), n _ _ _ _ (d 25 23 (by decide)), n _ _ _ _ (d 24 23 (by decide)), s, n _ _ _ _ (d 22 23 (by decide))]
  · rw [D 24 (by decide), n _ _ _ _ (d 25 24 (by decide)), s, n _ _ _ _ (d 23 24 (by decide)), n _ _ _ _ (d 22 24 (by decide))]
  · rw [D 25 (by decide), s, n _ _ _ _ (d 24 25 (by decide)), n _ _ _ _ (d 23 25 (by decide)), n _ _ _ _ (d 22 25 (by decide))]
  · have m21 : ¬ Y 21 = a := n1 21 (by decide) (by decide)
    have e0 : t0.1 (Y 21) = τ.1 (Y 21) := funext (fun i => A1.2 _ _ m21)
    have e1 : t1.1 (Y 21) = τ.1 (Y 21) := (funext (fun i => B1.2 _ _ m21)).trans ((zu_n _ _ _ (d 21 22 (by decide))).trans e0)
    have e2 : t2.1 (Y 21) = τ.1 (Y 21) := (funext (fun i => B2.2 _ _ m21)).trans ((zu_n _ _ _ (d 21 23 (by decide))).trans e1)
    have e3 : t3.1 (Y 21) = τ.1 (Y 21) := (funext (fun i => B3.2 _ _ m21)).trans ((zu_n _ _ _ (d 21 24 (by decide))).trans e2)
    exact (funext (fun i => B4.2 _ _ m21)).trans ((zu_n _ _ _ (d 21 25 (by decide))).trans e3)
end RTG2
