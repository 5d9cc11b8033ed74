/-! REFERENCES THAT STAY -/
def zRs (R : Nat → Nat → Option Nat) (s : zS) : Prop := s.2.2 = R
def zRp {α : Type} (R : Nat → Nat → Option Nat) (r : α × zS) : Prop := zRs R r.2
section ZRF
variable {R : Nat → Nat → Option Nat} {s : zS} {α β : Type}
theorem zRp.of {r : α × zS} {v : α} (h : zRp R r) (e : (v, s) = r) : zRs R s := by rw [show s = r.2 from congrArg Prod.snd e]; exact h
theorem zRs_let {x : α} {f : α → zS} (h : ∀ v, v = x → zRs R (f v)) : zRs R (zLet x f) := h x rfl
theorem zRs_let2 {x : α × β} {f : α → β → zS} (h : ∀ v s, (v, s) = x → zRs R (f v s)) : zRs R (zLet2 x f) := h x.1 x.2 rfl
theorem zRp_let {x : α} {f : α → β × zS} (h : ∀ v, v = x → zRp R (f v)) : zRp R (zLet x f) := h x rfl
theorem zRp_let2 {γ : Type} {x : α × γ} {f : α → γ → β × zS} (h : ∀ v s, (v, s) = x → zRp R (f v s)) : zRp R (zLet2 x f) := h x.1 x.2 rfl
theorem zRs_if {c : Prop} {i : Decidable c} {x y : zS} (h : c → zRs R x) (g : ¬ c → zRs R y) : zRs R (@ite _ c i x y) := by
  by_cases e : c
  · rw [if_pos e]; exact h e
  · rw [if_neg e]; exact g e
theorem zRp_if {c : Prop} {i : Decidable c} {x y : α × zS} (h : c → zRp R x) (g : ¬ c → zRp R y) : zRp R (@ite _ c i x y) := by
  by_cases e : c
  · rw [if_pos e]; exact h e
  · rw [if_neg e]; exact g e
end ZRF
set_option maxRecDepth 100000 in
theorem rf_X8_pastBlanks_2 {R : Nat → Nat → Option Nat} {p1 : Nat} {p2 : Int32} {p3 : Int32}  : ∀ (n : Nat) (x1 : Int32) (τ2 : zS), zRs R τ2 → zRp R (F_X8_pastBlanks_2 p1 p2 p3 n x1 τ2) := by
  intro n
  induction n with
  | zero => intro x1 τ2 g; exact g
  | succ n ih =>
    intro x1 τ2 g
    rw [F_X8_pastBlanks_2]
    refine zRp_if (fun _ => ?_) (fun _ => ?_)
    · skip
      refine zRp_let (fun v5 _ => ?_)
      refine zRp_let (fun v6 _ => ?_)
      refine zRp_if (fun _ => ?_) (fun _ => ?_)
      · skip
        refine zRp_let (fun v8 _ => ?_)
        exact ih _ _ g
      · skip
        refine zRp_let (fun v9 _ => ?_)
        refine zRp_let (fun v10 _ => ?_)
        refine zRp_if (fun _ => ?_) (fun _ => ?_)
        · skip
          refine zRp_let (fun v12 _ => ?_)
          exact ih _ _ g
        · skip
          refine zRp_let (fun v13 _ => ?_)
          refine zRp_let (fun v14 _ => ?_)
          refine zRp_if (fun _ => ?_) (fun _ => ?_)
          · skip
            refine zRp_let (fun v16 _ => ?_)
            exact ih _ _ g
          · skip
            refine zRp_let (fun v17 _ => ?_)
            refine zRp_let (fun v18 _ => ?_)
            refine zRp_if (fun _ => ?_) (fun _ => ?_)
            · skip
              refine zRp_let (fun v20 _ => ?_)
              exact ih _ _ g
            · skip
              exact g
    · skip
      exact g
set_option maxRecDepth 100000 in
theorem rf_X8_pastBlanks {R : Nat → Nat → Option Nat} {σ0 : zS} {p1 : Nat} {p2 : Int32} {p3 : Int32}  (g : zRs R σ0) : zRp R (F_X8_pastBlanks p1 p2 p3 σ0) := by
  unfold F_X8_pastBlanks
  exact rf_X8_pastBlanks_2  _ _ _ g
set_option maxRecDepth 100000 in
theorem rf_X8_add {R : Nat → Nat → Option Nat} {σ0 : zS} {a0 : Nat} {p1 : Int32} {p2 : Int64} {p3 : Int32}  (g : zRs R σ0) : zRs R (F_X8_add a0 p1 p2 p3 σ0) := by
  unfold F_X8_add
  refine zRs_let (fun v1 _ => ?_)
  refine zRs_let (fun v2 _ => ?_)
  refine zRs_let (fun v3 _ => ?_)
  refine zRs_if (fun _ => ?_) (fun _ => ?_)
  · skip
    refine zRs_let (fun v5 _ => ?_)
    refine zRs_let (fun v6 _ => ?_)
    refine zRs_let (fun s7 es7 => ?_)
    have gs7 : zRs R s7 := by rw [es7]; exact g
    refine zRs_let (fun v9 _ => ?_)
    refine zRs_let (fun v10 _ => ?_)
    refine zRs_let (fun s11 es11 => ?_)
    have gs11 : zRs R s11 := by rw [es11]; exact gs7
    refine zRs_let (fun v13 _ => ?_)
    refine zRs_let (fun v14 _ => ?_)
    refine zRs_let (fun s15 es15 => ?_)
    have gs15 : zRs R s15 := by rw [es15]; exact gs11
    refine zRs_let (fun v17 _ => ?_)
    refine zRs_let (fun v18 _ => ?_)
    refine zRs_let (fun v19 _ => ?_)
    refine zRs_let (fun s20 es20 => ?_)
    have gs20 : zRs R s20 := by rw [es20]; exact gs15
    exact gs20
  · skip
    exact g
set_option maxRecDepth 100000 in
theorem rf_X8_addDigits_6 {R : Nat → Nat → Option Nat} {a0 : Nat} {p1 : Nat} {p2 : Int32} {p3 : Int32}  : ∀ (n : Nat) (x2 : Int32) (x3 : Int32) (τ4 : zS), zRs R τ4 → zRp R (F_X8_addDigits_6 a0 p1 p2 p3 n x2 x3 τ4) := by
  intro n
  induction n with
  | zero => intro x2 x3 τ4 g; exact g
  | succ n ih =>
    intro x2 x3 τ4 g
    rw [F_X8_addDigits_6]
    refine zRp_if (fun _ => ?_) (fun _ => ?_)
    · skip
      refine zRp_let (fun v16 _ => ?_)
      refine zRp_let (fun v17 _ => ?_)
      refine zRp_if (fun _ => ?_) (fun _ => ?_)
      · skip
        refine zRp_let (fun v19 _ => ?_)
        refine zRp_let (fun v20 _ => ?_)
        refine zRp_if (fun _ => ?_) (fun _ => ?_)
        · skip
          refine zRp_let (fun v25 _ => ?_)
          refine zRp_let (fun v26 _ => ?_)
          refine zRp_let (fun s27 es27 => ?_)
          have gs27 : zRs R s27 := by rw [es27]; exact rf_X8_add g
          exact gs27
        · skip
          refine zRp_let (fun v22 _ => ?_)
          refine zRp_let (fun v23 _ => ?_)
          refine zRp_let (fun s24 es24 => ?_)
          have gs24 : zRs R s24 := by rw [es24]; exact rf_X8_add g
          exact gs24
      · skip
        refine zRp_let (fun v28 _ => ?_)
        refine zRp_let (fun v29 _ => ?_)
        refine zRp_if (fun _ => ?_) (fun _ => ?_)
        · skip
          refine zRp_let (fun v33 _ => ?_)
          refine zRp_let (fun v34 _ => ?_)
          refine zRp_let (fun v35 _ => ?_)
          refine zRp_let (fun v36 _ => ?_)
          refine zRp_let (fun v37 _ => ?_)
          refine zRp_let (fun v38 _ => ?_)
          refine zRp_let (fun v39 _ => ?_)
          exact ih _ _ _ g
        · skip
          refine zRp_let (fun v31 _ => ?_)
          refine zRp_let (fun v32 _ => ?_)
          exact ih _ _ _ g
    · skip
      refine zRp_let (fun v7 _ => ?_)
      refine zRp_let (fun v8 _ => ?_)
      refine zRp_if (fun _ => ?_) (fun _ => ?_)
      · skip
        refine zRp_let (fun v13 _ => ?_)
        refine zRp_let (fun v14 _ => ?_)
        refine zRp_let (fun s15 es15 => ?_)
        have gs15 : zRs R s15 := by rw [es15]; exact rf_X8_add g
        exact gs15
      · skip
        refine zRp_let (fun v10 _ => ?_)
        refine zRp_let (fun v11 _ => ?_)
        refine zRp_let (fun s12 es12 => ?_)
        have gs12 : zRs R s12 := by rw [es12]; exact rf_X8_add g
        exact gs12
set_option maxRecDepth 100000 in
theorem rf_X8_addDigits {R : Nat → Nat → Option Nat} {σ0 : zS} {a0 : Nat} {p1 : Nat} {p2 : Int32} {p3 : Int32}  (g : zRs R σ0) : zRp R (F_X8_addDigits a0 p1 p2 p3 σ0) := by
  unfold F_X8_addDigits
  refine zRp_let (fun v1 _ => ?_)
  exact rf_X8_addDigits_6  _ _ _ _ g
set_option maxRecDepth 100000 in
theorem rf_X8_kindOf_6 {R : Nat → Nat → Option Nat} {a0 : Nat} {p1 : Int64}  : ∀ (n : Nat) (x3 : Int32) (x4 : Int32) (τ5 : zS), zRs R τ5 → zRp R (F_X8_kindOf_6 a0 p1 n x3 x4 τ5) := by
  intro n
  induction n with
  | zero => intro x3 x4 τ5 g; exact g
  | succ n ih =>
    intro x3 x4 τ5 g
    rw [F_X8_kindOf_6]
    refine zRp_let (fun v6 _ => ?_)
    refine zRp_if (fun _ => ?_) (fun _ => ?_)
    · skip
      refine zRp_let (fun v8 _ => ?_)
      refine zRp_let (fun v9 _ => ?_)
      refine zRp_let (fun v10 _ => ?_)
      refine zRp_if (fun _ => ?_) (fun _ => ?_)
      · skip
        refine zRp_let (fun v13 _ => ?_)
        exact ih _ _ _ g
      · skip
        refine zRp_let (fun v12 _ => ?_)
        exact ih _ _ _ g
    · skip
      exact g
set_option maxRecDepth 100000 in
theorem rf_X8_kindOf {R : Nat → Nat → Option Nat} {σ0 : zS} {a0 : Nat} {p1 : Int64}  (g : zRs R σ0) : zRp R (F_X8_kindOf a0 p1 σ0) := by
  unfold F_X8_kindOf
  refine zRp_let (fun v1 _ => ?_)
  refine zRp_let (fun v2 _ => ?_)
  exact rf_X8_kindOf_6  _ _ _ _ g
set_option maxRecDepth 100000 in
theorem rf_X8_addLetters_6 {R : Nat → Nat → Option Nat} {a0 : Nat} {p1 : Nat} {p2 : Int32} {p3 : Int32}  : ∀ (n : Nat) (x2 : Int32) (x3 : Int64) (τ4 : zS), zRs R τ4 → zRp R (F_X8_addLetters_6 a0 p1 p2 p3 n x2 x3 τ4) := by
  intro n
  induction n with
  | zero => intro x2 x3 τ4 g; exact g
  | succ n ih =>
    intro x2 x3 τ4 g
    rw [F_X8_addLetters_6]
    refine zRp_if (fun _ => ?_) (fun _ => ?_)
    · skip
      refine zRp_let (fun v15 _ => ?_)
      refine zRp_let (fun v16 _ => ?_)
      refine zRp_if (fun _ => ?_) (fun _ => ?_)
      · skip
        refine zRp_let (fun v18 _ => ?_)
        refine zRp_let (fun v19 _ => ?_)
        refine zRp_if (fun _ => ?_) (fun _ => ?_)
        · skip
          refine zRp_let (fun v24 _ => ?_)
          refine zRp_let (fun s25 es25 => ?_)
          have gs25 : zRs R s25 := by rw [es25]; exact rf_X8_add g
          exact gs25
        · skip
          refine zRp_let2 (fun v21 s22 es22 => ?_)
          have gs22 : zRs R s22 := zRp.of (rf_X8_kindOf g) es22
          refine zRp_let (fun s23 es23 => ?_)
          have gs23 : zRs R s23 := by rw [es23]; exact rf_X8_add gs22
          exact gs23
      · skip
        refine zRp_let (fun v26 _ => ?_)
        refine zRp_let (fun v27 _ => ?_)
        refine zRp_if (fun _ => ?_) (fun _ => ?_)
        · skip
          refine zRp_let (fun v31 _ => ?_)
          refine zRp_let (fun v32 _ => ?_)
          refine zRp_let (fun v33 _ => ?_)
          exact ih _ _ _ g
        · skip
          refine zRp_let (fun v29 _ => ?_)
          refine zRp_let (fun v30 _ => ?_)
          exact ih _ _ _ g
    · skip
      refine zRp_let (fun v7 _ => ?_)
      refine zRp_let (fun v8 _ => ?_)
      refine zRp_if (fun _ => ?_) (fun _ => ?_)
      · skip
        refine zRp_let (fun v13 _ => ?_)
        refine zRp_let (fun s14 es14 => ?_)
        have gs14 : zRs R s14 := by rw [es14]; exact rf_X8_add g
        exact gs14
      · skip
        refine zRp_let2 (fun v10 s11 es11 => ?_)
        have gs11 : zRs R s11 := zRp.of (rf_X8_kindOf g) es11
        refine zRp_let (fun s12 es12 => ?_)
        have gs12 : zRs R s12 := by rw [es12]; exact rf_X8_add gs11
        exact gs12
set_option maxRecDepth 100000 in
theorem rf_X8_addLetters {R : Nat → Nat → Option Nat} {σ0 : zS} {a0 : Nat} {p1 : Nat} {p2 : Int32} {p3 : Int32}  (g : zRs R σ0) : zRp R (F_X8_addLetters a0 p1 p2 p3 σ0) := by
  unfold F_X8_addLetters
  refine zRp_let (fun v1 _ => ?_)
  exact rf_X8_addLetters_6  _ _ _ _ g
set_option maxRecDepth 100000 in
theorem rf_X8_scan_13 {R : Nat → Nat → Option Nat} {a0 : Nat} {p1 : Nat} {p2 : Int32}  : ∀ (n : Nat) (x7 : Int32) (x8 : Int32) (x9 : Int32) (τ10 : zS), zRs R τ10 → zRs R (F_X8_scan_13 a0 p1 p2 n x7 x8 x9 τ10) := by
  intro n
  induction n with
  | zero => intro x7 x8 x9 τ10 g; exact g
  | succ n ih =>
    intro x7 x8 x9 τ10 g
    rw [F_X8_scan_13]
    refine zRs_let (fun v11 _ => ?_)
    refine zRs_if (fun _ => ?_) (fun _ => ?_)
    · skip
      exact g
    · skip
      refine zRs_if (fun _ => ?_) (fun _ => ?_)
      · skip
        exact g
      · skip
        refine zRs_let2 (fun v14 s15 es15 => ?_)
        have gs15 : zRs R s15 := zRp.of (rf_X8_pastBlanks g) es15
        refine zRs_if (fun _ => ?_) (fun _ => ?_)
        · skip
          refine zRs_let (fun v103 _ => ?_)
          refine zRs_if (fun _ => ?_) (fun _ => ?_)
          · skip
            refine zRs_let (fun v105 _ => ?_)
            refine zRs_if (fun _ => ?_) (fun _ => ?_)
            · skip
              refine zRs_let (fun v107 _ => ?_)
              refine zRs_if (fun _ => ?_) (fun _ => ?_)
              · skip
                refine zRs_if (fun _ => ?_) (fun _ => ?_)
                · skip
                  refine zRs_let (fun v132 _ => ?_)
                  refine zRs_let (fun v133 _ => ?_)
                  refine zRs_if (fun _ => ?_) (fun _ => ?_)
                  · skip
                    refine zRs_let (fun v156 _ => ?_)
                    refine zRs_let (fun v157 _ => ?_)
                    refine zRs_let (fun s158 es158 => ?_)
                    have gs158 : zRs R s158 := by rw [es158]; exact rf_X8_add gs15
                    refine zRs_let (fun v159 _ => ?_)
                    refine zRs_let (fun v160 _ => ?_)
                    refine zRs_if (fun _ => ?_) (fun _ => ?_)
                    · skip
                      refine zRs_let (fun v164 _ => ?_)
                      refine zRs_let (fun v165 _ => ?_)
                      refine zRs_let (fun v166 _ => ?_)
                      refine zRs_let (fun v167 _ => ?_)
                      refine zRs_let (fun v168 _ => ?_)
                      refine zRs_let (fun v169 _ => ?_)
                      refine zRs_if (fun _ => ?_) (fun _ => ?_)
                      · skip
                        refine zRs_let (fun v174 _ => ?_)
                        refine zRs_let (fun v175 _ => ?_)
                        exact ih _ _ _ _ gs158
                      · skip
                        refine zRs_let (fun v172 _ => ?_)
                        refine zRs_let (fun v173 _ => ?_)
                        exact ih _ _ _ _ gs158
                    · skip
                      refine zRs_let (fun v162 _ => ?_)
                      refine zRs_let (fun v163 _ => ?_)
                      exact ih _ _ _ _ gs158
                  · skip
                    refine zRs_let (fun v135 _ => ?_)
                    refine zRs_let (fun v136 _ => ?_)
                    refine zRs_let (fun v137 _ => ?_)
                    refine zRs_let (fun s138 es138 => ?_)
                    have gs138 : zRs R s138 := by rw [es138]; exact rf_X8_add gs15
                    refine zRs_let (fun v139 _ => ?_)
                    refine zRs_let (fun v140 _ => ?_)
                    refine zRs_if (fun _ => ?_) (fun _ => ?_)
                    · skip
                      refine zRs_let (fun v144 _ => ?_)
                      refine zRs_let (fun v145 _ => ?_)
                      refine zRs_let (fun v146 _ => ?_)
                      refine zRs_let (fun v147 _ => ?_)
                      refine zRs_let (fun v148 _ => ?_)
                      refine zRs_let (fun v149 _ => ?_)
                      refine zRs_if (fun _ => ?_) (fun _ => ?_)
                      · skip
                        refine zRs_let (fun v154 _ => ?_)
                        refine zRs_let (fun v155 _ => ?_)
                        exact ih _ _ _ _ gs138
                      · skip
                        refine zRs_let (fun v152 _ => ?_)
                        refine zRs_let (fun v153 _ => ?_)
                        exact ih _ _ _ _ gs138
                    · skip
                      refine zRs_let (fun v142 _ => ?_)
                      refine zRs_let (fun v143 _ => ?_)
                      exact ih _ _ _ _ gs138
                · skip
                  refine zRs_let (fun v110 _ => ?_)
                  refine zRs_if (fun _ => ?_) (fun _ => ?_)
                  · skip
                    refine zRs_let (fun v112 _ => ?_)
                    refine zRs_let (fun v113 _ => ?_)
                    refine zRs_let (fun s114 es114 => ?_)
                    have gs114 : zRs R s114 := by rw [es114]; exact rf_X8_add gs15
                    refine zRs_let (fun v115 _ => ?_)
                    refine zRs_let (fun v116 _ => ?_)
                    refine zRs_if (fun _ => ?_) (fun _ => ?_)
                    · skip
                      refine zRs_let (fun v120 _ => ?_)
                      refine zRs_let (fun v121 _ => ?_)
                      refine zRs_let (fun v122 _ => ?_)
                      refine zRs_let (fun v123 _ => ?_)
                      refine zRs_let (fun v124 _ => ?_)
                      refine zRs_let (fun v125 _ => ?_)
                      refine zRs_if (fun _ => ?_) (fun _ => ?_)
                      · skip
                        refine zRs_let (fun v130 _ => ?_)
                        refine zRs_let (fun v131 _ => ?_)
                        exact ih _ _ _ _ gs114
                      · skip
                        refine zRs_let (fun v128 _ => ?_)
                        refine zRs_let (fun v129 _ => ?_)
                        exact ih _ _ _ _ gs114
                    · skip
                      refine zRs_let (fun v118 _ => ?_)
                      refine zRs_let (fun v119 _ => ?_)
                      exact ih _ _ _ _ gs114
                  · skip
                    exact gs15
              · skip
                refine zRs_let2 (fun v176 s177 es177 => ?_)
                have gs177 : zRs R s177 := zRp.of (rf_X8_addDigits gs15) es177
                refine zRs_let (fun v178 _ => ?_)
                refine zRs_if (fun _ => ?_) (fun _ => ?_)
                · skip
                  refine zRs_let (fun v182 _ => ?_)
                  refine zRs_let (fun v183 _ => ?_)
                  refine zRs_let (fun v184 _ => ?_)
                  refine zRs_let (fun v185 _ => ?_)
                  refine zRs_let (fun v186 _ => ?_)
                  refine zRs_let (fun v187 _ => ?_)
                  refine zRs_if (fun _ => ?_) (fun _ => ?_)
                  · skip
                    refine zRs_let (fun v192 _ => ?_)
                    refine zRs_let (fun v193 _ => ?_)
                    exact ih _ _ _ _ gs177
                  · skip
                    refine zRs_let (fun v190 _ => ?_)
                    refine zRs_let (fun v191 _ => ?_)
                    exact ih _ _ _ _ gs177
                · skip
                  refine zRs_let (fun v180 _ => ?_)
                  refine zRs_let (fun v181 _ => ?_)
                  exact ih _ _ _ _ gs177
            · skip
              refine zRs_let2 (fun v194 s195 es195 => ?_)
              have gs195 : zRs R s195 := zRp.of (rf_X8_addLetters gs15) es195
              refine zRs_let (fun v196 _ => ?_)
              refine zRs_if (fun _ => ?_) (fun _ => ?_)
              · skip
                refine zRs_let (fun v200 _ => ?_)
                refine zRs_let (fun v201 _ => ?_)
                refine zRs_let (fun v202 _ => ?_)
                refine zRs_let (fun v203 _ => ?_)
                refine zRs_let (fun v204 _ => ?_)
                refine zRs_let (fun v205 _ => ?_)
                refine zRs_if (fun _ => ?_) (fun _ => ?_)
                · skip
                  refine zRs_let (fun v210 _ => ?_)
                  refine zRs_let (fun v211 _ => ?_)
                  exact ih _ _ _ _ gs195
                · skip
                  refine zRs_let (fun v208 _ => ?_)
                  refine zRs_let (fun v209 _ => ?_)
                  exact ih _ _ _ _ gs195
              · skip
                refine zRs_let (fun v198 _ => ?_)
                refine zRs_let (fun v199 _ => ?_)
                exact ih _ _ _ _ gs195
          · skip
            refine zRs_let (fun v212 _ => ?_)
            refine zRs_let (fun v213 _ => ?_)
            refine zRs_let (fun s214 es214 => ?_)
            have gs214 : zRs R s214 := by rw [es214]; exact rf_X8_add gs15
            refine zRs_let (fun v215 _ => ?_)
            refine zRs_if (fun _ => ?_) (fun _ => ?_)
            · skip
              refine zRs_let (fun v219 _ => ?_)
              refine zRs_let (fun v220 _ => ?_)
              refine zRs_let (fun v221 _ => ?_)
              refine zRs_let (fun v222 _ => ?_)
              refine zRs_let (fun v223 _ => ?_)
              refine zRs_let (fun v224 _ => ?_)
              refine zRs_if (fun _ => ?_) (fun _ => ?_)
              · skip
                refine zRs_let (fun v229 _ => ?_)
                refine zRs_let (fun v230 _ => ?_)
                exact ih _ _ _ _ gs214
              · skip
                refine zRs_let (fun v227 _ => ?_)
                refine zRs_let (fun v228 _ => ?_)
                exact ih _ _ _ _ gs214
            · skip
              refine zRs_let (fun v217 _ => ?_)
              refine zRs_let (fun v218 _ => ?_)
              exact ih _ _ _ _ gs214
        · skip
          refine zRs_let (fun v18 _ => ?_)
          refine zRs_if (fun _ => ?_) (fun _ => ?_)
          · skip
            refine zRs_let (fun v21 _ => ?_)
            refine zRs_if (fun _ => ?_) (fun _ => ?_)
            · skip
              refine zRs_let (fun v23 _ => ?_)
              refine zRs_if (fun _ => ?_) (fun _ => ?_)
              · skip
                refine zRs_if (fun _ => ?_) (fun _ => ?_)
                · skip
                  exact gs15
                · skip
                  refine zRs_let (fun v26 _ => ?_)
                  refine zRs_if (fun _ => ?_) (fun _ => ?_)
                  · skip
                    refine zRs_let (fun v28 _ => ?_)
                    refine zRs_let (fun v29 _ => ?_)
                    refine zRs_let (fun s30 es30 => ?_)
                    have gs30 : zRs R s30 := by rw [es30]; exact rf_X8_add gs15
                    refine zRs_let (fun v31 _ => ?_)
                    refine zRs_let (fun v32 _ => ?_)
                    refine zRs_if (fun _ => ?_) (fun _ => ?_)
                    · skip
                      refine zRs_let (fun v36 _ => ?_)
                      refine zRs_let (fun v37 _ => ?_)
                      refine zRs_let (fun v38 _ => ?_)
                      refine zRs_let (fun v39 _ => ?_)
                      refine zRs_let (fun v40 _ => ?_)
                      refine zRs_let (fun v41 _ => ?_)
                      refine zRs_if (fun _ => ?_) (fun _ => ?_)
                      · skip
                        refine zRs_let (fun v46 _ => ?_)
                        refine zRs_let (fun v47 _ => ?_)
                        exact ih _ _ _ _ gs30
                      · skip
                        refine zRs_let (fun v44 _ => ?_)
                        refine zRs_let (fun v45 _ => ?_)
                        exact ih _ _ _ _ gs30
                    · skip
                      refine zRs_let (fun v34 _ => ?_)
                      refine zRs_let (fun v35 _ => ?_)
                      exact ih _ _ _ _ gs30
                  · skip
                    exact gs15
              · skip
                refine zRs_let2 (fun v48 s49 es49 => ?_)
                have gs49 : zRs R s49 := zRp.of (rf_X8_addDigits gs15) es49
                refine zRs_let (fun v50 _ => ?_)
                refine zRs_if (fun _ => ?_) (fun _ => ?_)
                · skip
                  refine zRs_let (fun v54 _ => ?_)
                  refine zRs_let (fun v55 _ => ?_)
                  refine zRs_let (fun v56 _ => ?_)
                  refine zRs_let (fun v57 _ => ?_)
                  refine zRs_let (fun v58 _ => ?_)
                  refine zRs_let (fun v59 _ => ?_)
                  refine zRs_if (fun _ => ?_) (fun _ => ?_)
                  · skip
                    refine zRs_let (fun v64 _ => ?_)
                    refine zRs_let (fun v65 _ => ?_)
                    exact ih _ _ _ _ gs49
                  · skip
                    refine zRs_let (fun v62 _ => ?_)
                    refine zRs_let (fun v63 _ => ?_)
                    exact ih _ _ _ _ gs49
                · skip
                  refine zRs_let (fun v52 _ => ?_)
                  refine zRs_let (fun v53 _ => ?_)
                  exact ih _ _ _ _ gs49
            · skip
              refine zRs_let2 (fun v66 s67 es67 => ?_)
              have gs67 : zRs R s67 := zRp.of (rf_X8_addLetters gs15) es67
              refine zRs_let (fun v68 _ => ?_)
              refine zRs_if (fun _ => ?_) (fun _ => ?_)
              · skip
                refine zRs_let (fun v72 _ => ?_)
                refine zRs_let (fun v73 _ => ?_)
                refine zRs_let (fun v74 _ => ?_)
                refine zRs_let (fun v75 _ => ?_)
                refine zRs_let (fun v76 _ => ?_)
                refine zRs_let (fun v77 _ => ?_)
                refine zRs_if (fun _ => ?_) (fun _ => ?_)
                · skip
                  refine zRs_let (fun v82 _ => ?_)
                  refine zRs_let (fun v83 _ => ?_)
                  exact ih _ _ _ _ gs67
                · skip
                  refine zRs_let (fun v80 _ => ?_)
                  refine zRs_let (fun v81 _ => ?_)
                  exact ih _ _ _ _ gs67
              · skip
                refine zRs_let (fun v70 _ => ?_)
                refine zRs_let (fun v71 _ => ?_)
                exact ih _ _ _ _ gs67
          · skip
            refine zRs_let (fun v84 _ => ?_)
            refine zRs_let (fun v85 _ => ?_)
            refine zRs_let (fun s86 es86 => ?_)
            have gs86 : zRs R s86 := by rw [es86]; exact rf_X8_add gs15
            refine zRs_let (fun v87 _ => ?_)
            refine zRs_if (fun _ => ?_) (fun _ => ?_)
            · skip
              refine zRs_let (fun v91 _ => ?_)
              refine zRs_let (fun v92 _ => ?_)
              refine zRs_let (fun v93 _ => ?_)
              refine zRs_let (fun v94 _ => ?_)
              refine zRs_let (fun v95 _ => ?_)
              refine zRs_let (fun v96 _ => ?_)
              refine zRs_if (fun _ => ?_) (fun _ => ?_)
              · skip
                refine zRs_let (fun v101 _ => ?_)
                refine zRs_let (fun v102 _ => ?_)
                exact ih _ _ _ _ gs86
              · skip
                refine zRs_let (fun v99 _ => ?_)
                refine zRs_let (fun v100 _ => ?_)
                exact ih _ _ _ _ gs86
            · skip
              refine zRs_let (fun v89 _ => ?_)
              refine zRs_let (fun v90 _ => ?_)
              exact ih _ _ _ _ gs86
set_option maxRecDepth 100000 in
theorem rf_X8_scan {R : Nat → Nat → Option Nat} {σ0 : zS} {a0 : Nat} {p1 : Nat} {p2 : Int32}  (g : zRs R σ0) : zRs R (F_X8_scan a0 p1 p2 σ0) := by
  unfold F_X8_scan
  refine zRs_let (fun v1 _ => ?_)
  refine zRs_let (fun s2 es2 => ?_)
  have gs2 : zRs R s2 := by rw [es2]; exact g
  refine zRs_let (fun v4 _ => ?_)
  refine zRs_let (fun v5 _ => ?_)
  refine zRs_let (fun v6 _ => ?_)
  exact rf_X8_scan_13  _ _ _ _ _ gs2
set_option maxRecDepth 100000 in
theorem rf_X9_addStep {R : Nat → Nat → Option Nat} {σ0 : zS} {a0 : Nat} {p1 : Int32} {p2 : Int32}  (g : zRs R σ0) : zRs R (F_X9_addStep a0 p1 p2 σ0) := by
  unfold F_X9_addStep
  refine zRs_let (fun v1 _ => ?_)
  refine zRs_let (fun v2 _ => ?_)
  refine zRs_if (fun _ => ?_) (fun _ => ?_)
  · skip
    refine zRs_let (fun v4 _ => ?_)
    refine zRs_let (fun v5 _ => ?_)
    refine zRs_let (fun s6 es6 => ?_)
    have gs6 : zRs R s6 := by rw [es6]; exact g
    refine zRs_let (fun v8 _ => ?_)
    refine zRs_let (fun v9 _ => ?_)
    refine zRs_let (fun s10 es10 => ?_)
    have gs10 : zRs R s10 := by rw [es10]; exact gs6
    refine zRs_let (fun v12 _ => ?_)
    refine zRs_let (fun v13 _ => ?_)
    refine zRs_let (fun v14 _ => ?_)
    refine zRs_let (fun s15 es15 => ?_)
    have gs15 : zRs R s15 := by rw [es15]; exact gs10
    exact gs15
  · skip
    exact g
set_option maxRecDepth 100000 in
theorem rf_X9_clear_12 {R : Nat → Nat → Option Nat} {a0 : Nat}  : ∀ (n : Nat) (x6 : Int32) (τ7 : zS), zRs R τ7 → zRs R (F_X9_clear_12 a0 n x6 τ7) := by
  intro n
  induction n with
  | zero => intro x6 τ7 g; exact g
  | succ n ih =>
    intro x6 τ7 g
    rw [F_X9_clear_12]
    refine zRs_let (fun v8 _ => ?_)
    refine zRs_if (fun _ => ?_) (fun _ => ?_)
    · skip
      refine zRs_let (fun v19 _ => ?_)
      refine zRs_let (fun v20 _ => ?_)
      refine zRs_let (fun v21 _ => ?_)
      refine zRs_let (fun s22 es22 => ?_)
      have gs22 : zRs R s22 := by rw [es22]; exact g
      refine zRs_let (fun v23 _ => ?_)
      refine zRs_if (fun _ => ?_) (fun _ => ?_)
      · skip
        refine zRs_let (fun v39 _ => ?_)
        refine zRs_let (fun v40 _ => ?_)
        refine zRs_if (fun _ => ?_) (fun _ => ?_)
        · skip
          refine zRs_let (fun v42 _ => ?_)
          refine zRs_let (fun s43 es43 => ?_)
          have gs43 : zRs R s43 := by rw [es43]; exact rf_X9_addStep gs22
          refine zRs_let (fun v44 _ => ?_)
          refine zRs_let (fun v45 _ => ?_)
          refine zRs_let (fun s46 es46 => ?_)
          have gs46 : zRs R s46 := by rw [es46]; exact rf_X9_addStep gs43
          refine zRs_let (fun v47 _ => ?_)
          exact ih _ _ gs46
        · skip
          exact gs22
      · skip
        refine zRs_let (fun v25 _ => ?_)
        refine zRs_let (fun v26 _ => ?_)
        refine zRs_if (fun _ => ?_) (fun _ => ?_)
        · skip
          refine zRs_let (fun v33 _ => ?_)
          refine zRs_let (fun s34 es34 => ?_)
          have gs34 : zRs R s34 := by rw [es34]; exact rf_X9_addStep gs22
          refine zRs_let (fun v35 _ => ?_)
          refine zRs_let (fun v36 _ => ?_)
          refine zRs_let (fun s37 es37 => ?_)
          have gs37 : zRs R s37 := by rw [es37]; exact rf_X9_addStep gs34
          refine zRs_let (fun v38 _ => ?_)
          exact ih _ _ gs37
        · skip
          refine zRs_let (fun s28 es28 => ?_)
          have gs28 : zRs R s28 := by rw [es28]; exact rf_X9_addStep gs22
          refine zRs_let (fun v29 _ => ?_)
          refine zRs_let (fun v30 _ => ?_)
          refine zRs_let (fun s31 es31 => ?_)
          have gs31 : zRs R s31 := by rw [es31]; exact rf_X9_addStep gs28
          refine zRs_let (fun v32 _ => ?_)
          exact ih _ _ gs31
    · skip
      refine zRs_let (fun v10 _ => ?_)
      refine zRs_let (fun s11 es11 => ?_)
      have gs11 : zRs R s11 := by rw [es11]; exact g
      refine zRs_let (fun v12 _ => ?_)
      refine zRs_let (fun s13 es13 => ?_)
      have gs13 : zRs R s13 := by rw [es13]; exact gs11
      refine zRs_let (fun v14 _ => ?_)
      refine zRs_let (fun s15 es15 => ?_)
      have gs15 : zRs R s15 := by rw [es15]; exact gs13
      refine zRs_let (fun v16 _ => ?_)
      refine zRs_let (fun s17 es17 => ?_)
      have gs17 : zRs R s17 := by rw [es17]; exact gs15
      exact gs17
set_option maxRecDepth 100000 in
theorem rf_X9_clear {R : Nat → Nat → Option Nat} {σ0 : zS} {a0 : Nat}  (g : zRs R σ0) : zRs R (F_X9_clear a0 σ0) := by
  unfold F_X9_clear
  refine zRs_let (fun v1 _ => ?_)
  refine zRs_let (fun s2 es2 => ?_)
  have gs2 : zRs R s2 := by rw [es2]; exact g
  refine zRs_let (fun v3 _ => ?_)
  refine zRs_let (fun s4 es4 => ?_)
  have gs4 : zRs R s4 := by rw [es4]; exact gs2
  refine zRs_let (fun v5 _ => ?_)
  exact rf_X9_clear_12  _ _ _ gs4
set_option maxRecDepth 100000 in
theorem rf_X3_goTo {R : Nat → Nat → Option Nat} {σ0 : zS} {a0 : Nat} {p1 : Int32}  (g : zRs R σ0) : zRs R (F_X3_goTo a0 p1 σ0) := by
  unfold F_X3_goTo
  refine zRs_if (fun _ => ?_) (fun _ => ?_)
  · skip
    refine zRs_let (fun v2 _ => ?_)
    refine zRs_let (fun s3 es3 => ?_)
    have gs3 : zRs R s3 := by rw [es3]; exact g
    refine zRs_if (fun _ => ?_) (fun _ => ?_)
    · skip
      refine zRs_let (fun v5 _ => ?_)
      refine zRs_let (fun s6 es6 => ?_)
      have gs6 : zRs R s6 := by rw [es6]; exact gs3
      refine zRs_if (fun _ => ?_) (fun _ => ?_)
      · skip
        refine zRs_let (fun v8 _ => ?_)
        refine zRs_let (fun s9 es9 => ?_)
        have gs9 : zRs R s9 := by rw [es9]; exact gs6
        refine zRs_if (fun _ => ?_) (fun _ => ?_)
        · skip
          refine zRs_let (fun v11 _ => ?_)
          refine zRs_let (fun s12 es12 => ?_)
          have gs12 : zRs R s12 := by rw [es12]; exact gs9
          exact gs12
        · skip
          exact gs9
      · skip
        exact gs6
    · skip
      exact gs3
  · skip
    refine zRs_let (fun v13 _ => ?_)
    refine zRs_let (fun v14 _ => ?_)
    refine zRs_if (fun _ => ?_) (fun _ => ?_)
    · skip
      refine zRs_let (fun v28 _ => ?_)
      refine zRs_let (fun s29 es29 => ?_)
      have gs29 : zRs R s29 := by rw [es29]; exact g
      refine zRs_if (fun _ => ?_) (fun _ => ?_)
      · skip
        exact gs29
      · skip
        refine zRs_let (fun v31 _ => ?_)
        refine zRs_let (fun v32 _ => ?_)
        refine zRs_let (fun v33 _ => ?_)
        refine zRs_let (fun s34 es34 => ?_)
        have gs34 : zRs R s34 := by rw [es34]; exact gs29
        refine zRs_if (fun _ => ?_) (fun _ => ?_)
        · skip
          exact gs34
        · skip
          refine zRs_let (fun v36 _ => ?_)
          refine zRs_let (fun v37 _ => ?_)
          refine zRs_let (fun v38 _ => ?_)
          refine zRs_let (fun s39 es39 => ?_)
          have gs39 : zRs R s39 := by rw [es39]; exact gs34
          refine zRs_if (fun _ => ?_) (fun _ => ?_)
          · skip
            exact gs39
          · skip
            refine zRs_let (fun v41 _ => ?_)
            refine zRs_let (fun v42 _ => ?_)
            refine zRs_let (fun v43 _ => ?_)
            refine zRs_let (fun s44 es44 => ?_)
            have gs44 : zRs R s44 := by rw [es44]; exact gs39
            exact gs44
    · skip
      refine zRs_let (fun v17 _ => ?_)
      refine zRs_let (fun s18 es18 => ?_)
      have gs18 : zRs R s18 := by rw [es18]; exact g
      refine zRs_if (fun _ => ?_) (fun _ => ?_)
      · skip
        refine zRs_let (fun v20 _ => ?_)
        refine zRs_let (fun s21 es21 => ?_)
        have gs21 : zRs R s21 := by rw [es21]; exact gs18
        refine zRs_if (fun _ => ?_) (fun _ => ?_)
        · skip
          refine zRs_let (fun v23 _ => ?_)
          refine zRs_let (fun s24 es24 => ?_)
          have gs24 : zRs R s24 := by rw [es24]; exact gs21
          refine zRs_if (fun _ => ?_) (fun _ => ?_)
          · skip
            refine zRs_let (fun v26 _ => ?_)
            refine zRs_let (fun s27 es27 => ?_)
            have gs27 : zRs R s27 := by rw [es27]; exact gs24
            exact gs27
          · skip
            exact gs24
        · skip
          exact gs21
      · skip
        exact gs18
set_option maxRecDepth 100000 in
theorem rf_X3_fail {R : Nat → Nat → Option Nat} {σ0 : zS} {a0 : Nat} {p1 : Int32}  (g : zRs R σ0) : zRs R (F_X3_fail a0 p1 σ0) := by
  unfold F_X3_fail
  refine zRs_let (fun v1 _ => ?_)
  refine zRs_if (fun _ => ?_) (fun _ => ?_)
  · skip
    refine zRs_let (fun s3 es3 => ?_)
    have gs3 : zRs R s3 := by rw [es3]; exact g
    refine zRs_let (fun v4 _ => ?_)
    refine zRs_let (fun s5 es5 => ?_)
    have gs5 : zRs R s5 := by rw [es5]; exact gs3
    refine zRs_let (fun v6 _ => ?_)
    refine zRs_let (fun s7 es7 => ?_)
    have gs7 : zRs R s7 := by rw [es7]; exact gs5
    exact gs7
  · skip
    exact g
set_option maxRecDepth 100000 in
theorem rf_X3_take {R : Nat → Nat → Option Nat} {σ0 : zS} {a0 : Nat} {p1 : Int32}  (g : zRs R σ0) : zRs R (F_X3_take a0 p1 σ0) := by
  unfold F_X3_take
  refine zRs_let (fun v1 _ => ?_)
  refine zRs_if (fun _ => ?_) (fun _ => ?_)
  · skip
    refine zRs_let (fun v3 _ => ?_)
    refine zRs_let (fun v4 _ => ?_)
    refine zRs_if (fun _ => ?_) (fun _ => ?_)
    · skip
      refine zRs_let (fun v7 _ => ?_)
      refine zRs_let (fun v8 _ => ?_)
      refine zRs_let (fun v9 _ => ?_)
      refine zRs_let (fun s10 es10 => ?_)
      have gs10 : zRs R s10 := by rw [es10]; exact rf_X3_goTo g
      exact gs10
    · skip
      refine zRs_let (fun v11 _ => ?_)
      refine zRs_let (fun s12 es12 => ?_)
      have gs12 : zRs R s12 := by rw [es12]; exact rf_X3_fail g
      exact gs12
  · skip
    refine zRs_let (fun v13 _ => ?_)
    refine zRs_let (fun s14 es14 => ?_)
    have gs14 : zRs R s14 := by rw [es14]; exact rf_X3_fail g
    exact gs14
set_option maxRecDepth 100000 in
theorem rf_X3_placeNamed_13 {R : Nat → Nat → Option Nat} {a0 : Nat} {p1 : Int64}  : ∀ (n : Nat) (x4 : Int32) (τ5 : zS), zRs R τ5 → zRp R (F_X3_placeNamed_13 a0 p1 n x4 τ5) := by
  intro n
  induction n with
  | zero => intro x4 τ5 g; exact g
  | succ n ih =>
    intro x4 τ5 g
    rw [F_X3_placeNamed_13]
    refine zRp_let (fun v6 _ => ?_)
    refine zRp_if (fun _ => ?_) (fun _ => ?_)
    · skip
      refine zRp_let (fun v8 _ => ?_)
      exact g
    · skip
      refine zRp_let (fun v9 _ => ?_)
      refine zRp_if (fun _ => ?_) (fun _ => ?_)
      · skip
        refine zRp_let (fun v11 _ => ?_)
        refine zRp_let (fun v12 _ => ?_)
        refine zRp_let (fun v13 _ => ?_)
        refine zRp_let (fun v14 _ => ?_)
        refine zRp_if (fun _ => ?_) (fun _ => ?_)
        · skip
          exact g
        · skip
          refine zRp_let (fun v16 _ => ?_)
          exact ih _ _ g
      · skip
        exact g
set_option maxRecDepth 100000 in
theorem rf_X3_placeNamed_13_1 {R : Nat → Nat → Option Nat} {a0 : Nat} {p1 : Int64}  : ∀ (n : Nat) (x18 : Int32) (τ19 : zS), zRs R τ19 → zRp R (F_X3_placeNamed_13_1 a0 p1 n x18 τ19) := by
  intro n
  induction n with
  | zero => intro x18 τ19 g; exact g
  | succ n ih =>
    intro x18 τ19 g
    rw [F_X3_placeNamed_13_1]
    refine zRp_let (fun v20 _ => ?_)
    refine zRp_if (fun _ => ?_) (fun _ => ?_)
    · skip
      refine zRp_let (fun v22 _ => ?_)
      exact g
    · skip
      refine zRp_let (fun v23 _ => ?_)
      refine zRp_if (fun _ => ?_) (fun _ => ?_)
      · skip
        refine zRp_let (fun v25 _ => ?_)
        refine zRp_let (fun v26 _ => ?_)
        refine zRp_let (fun v27 _ => ?_)
        refine zRp_let (fun v28 _ => ?_)
        refine zRp_if (fun _ => ?_) (fun _ => ?_)
        · skip
          exact g
        · skip
          refine zRp_let (fun v30 _ => ?_)
          exact ih _ _ g
      · skip
        exact g
set_option maxRecDepth 100000 in
theorem rf_X3_placeNamed {R : Nat → Nat → Option Nat} {σ0 : zS} {a0 : Nat} {p1 : Int64}  (g : zRs R σ0) : zRp R (F_X3_placeNamed a0 p1 σ0) := by
  unfold F_X3_placeNamed
  refine zRp_let (fun v1 _ => ?_)
  refine zRp_if (fun _ => ?_) (fun _ => ?_)
  · skip
    refine zRp_let (fun v3 _ => ?_)
    exact rf_X3_placeNamed_13  _ _ _ g
  · skip
    refine zRp_let (fun v17 _ => ?_)
    exact rf_X3_placeNamed_13_1  _ _ _ g
set_option maxRecDepth 100000 in
theorem rf_X3_failLate {R : Nat → Nat → Option Nat} {σ0 : zS} {a0 : Nat} {p1 : Int32}  (g : zRs R σ0) : zRs R (F_X3_failLate a0 p1 σ0) := by
  unfold F_X3_failLate
  refine zRs_let (fun v1 _ => ?_)
  refine zRs_if (fun _ => ?_) (fun _ => ?_)
  · skip
    refine zRs_let (fun s3 es3 => ?_)
    have gs3 : zRs R s3 := by rw [es3]; exact g
    refine zRs_let (fun v4 _ => ?_)
    refine zRs_let (fun s5 es5 => ?_)
    have gs5 : zRs R s5 := by rw [es5]; exact gs3
    exact gs5
  · skip
    exact g
set_option maxRecDepth 100000 in
theorem rf_X3_newName {R : Nat → Nat → Option Nat} {σ0 : zS} {a0 : Nat}  (g : zRs R σ0) : zRp R (F_X3_newName a0 σ0) := by
  unfold F_X3_newName
  refine zRp_let (fun v1 _ => ?_)
  refine zRp_let (fun v2 _ => ?_)
  refine zRp_let (fun v3 _ => ?_)
  refine zRp_if (fun _ => ?_) (fun _ => ?_)
  · skip
    refine zRp_let2 (fun v7 s8 es8 => ?_)
    have gs8 : zRs R s8 := zRp.of (rf_X3_placeNamed g) es8
    refine zRp_let (fun v9 _ => ?_)
    refine zRp_if (fun _ => ?_) (fun _ => ?_)
    · skip
      refine zRp_let (fun v11 _ => ?_)
      refine zRp_let (fun s12 es12 => ?_)
      have gs12 : zRs R s12 := by rw [es12]; exact rf_X3_take gs8
      exact gs12
    · skip
      refine zRp_let (fun v13 _ => ?_)
      refine zRp_let (fun s14 es14 => ?_)
      have gs14 : zRs R s14 := by rw [es14]; exact rf_X3_failLate gs8
      refine zRp_let (fun v15 _ => ?_)
      refine zRp_let (fun s16 es16 => ?_)
      have gs16 : zRs R s16 := by rw [es16]; exact rf_X3_take gs14
      exact gs16
  · skip
    refine zRp_let (fun v5 _ => ?_)
    refine zRp_let (fun s6 es6 => ?_)
    have gs6 : zRs R s6 := by rw [es6]; exact rf_X3_take g
    exact gs6
set_option maxRecDepth 100000 in
theorem rf_X9_setPlace {R : Nat → Nat → Option Nat} {σ0 : zS} {a0 : Nat} {p1 : Int32} {p2 : Int32} {p3 : Int32} {p4 : Int32} {p5 : Int32}  (g : zRs R σ0) : zRs R (F_X9_setPlace a0 p1 p2 p3 p4 p5 σ0) := by
  unfold F_X9_setPlace
  refine zRs_if (fun _ => ?_) (fun _ => ?_)
  · skip
    exact g
  · skip
    refine zRs_let (fun v2 _ => ?_)
    refine zRs_if (fun _ => ?_) (fun _ => ?_)
    · skip
      refine zRs_let (fun v5 _ => ?_)
      refine zRs_let (fun s6 es6 => ?_)
      have gs6 : zRs R s6 := by rw [es6]; exact g
      refine zRs_let (fun v7 _ => ?_)
      refine zRs_let (fun s8 es8 => ?_)
      have gs8 : zRs R s8 := by rw [es8]; exact gs6
      refine zRs_let (fun v9 _ => ?_)
      refine zRs_let (fun s10 es10 => ?_)
      have gs10 : zRs R s10 := by rw [es10]; exact gs8
      refine zRs_let (fun v11 _ => ?_)
      refine zRs_let (fun s12 es12 => ?_)
      have gs12 : zRs R s12 := by rw [es12]; exact gs10
      exact gs12
    · skip
      exact g
set_option maxRecDepth 100000 in
theorem rf_X3_mouth {R : Nat → Nat → Option Nat} {σ0 : zS} {a0 : Nat}  (g : zRs R σ0) : zRs R (F_X3_mouth a0 σ0) := by
  unfold F_X3_mouth
  refine zRs_let (fun v1 _ => ?_)
  refine zRs_if (fun _ => ?_) (fun _ => ?_)
  · skip
    refine zRs_let (fun v3 _ => ?_)
    refine zRs_let (fun s4 es4 => ?_)
    have gs4 : zRs R s4 := by rw [es4]; exact rf_X3_take g
    refine zRs_let2 (fun v5 s6 es6 => ?_)
    have gs6 : zRs R s6 := zRp.of (rf_X3_newName gs4) es6
    refine zRs_let (fun v7 _ => ?_)
    refine zRs_if (fun _ => ?_) (fun _ => ?_)
    · skip
      refine zRs_let (fun v9 _ => ?_)
      refine zRs_let (fun s10 es10 => ?_)
      have gs10 : zRs R s10 := by rw [es10]; exact gs6
      refine zRs_let (fun v11 _ => ?_)
      refine zRs_let (fun v12 _ => ?_)
      refine zRs_let (fun v13 _ => ?_)
      refine zRs_let (fun s14 es14 => ?_)
      have gs14 : zRs R s14 := by rw [es14]; exact gs10
      refine zRs_let (fun v15 _ => ?_)
      refine zRs_let (fun v16 _ => ?_)
      refine zRs_let (fun v17 _ => ?_)
      refine zRs_let (fun v18 _ => ?_)
      refine zRs_let (fun v19 _ => ?_)
      refine zRs_let (fun v20 _ => ?_)
      refine zRs_let (fun s21 es21 => ?_)
      have gs21 : zRs R s21 := by rw [es21]; exact rf_X9_setPlace gs14
      exact gs21
    · skip
      exact gs6
  · skip
    refine zRs_let (fun v22 _ => ?_)
    refine zRs_let (fun s23 es23 => ?_)
    have gs23 : zRs R s23 := by rw [es23]; exact rf_X3_fail g
    refine zRs_let (fun v24 _ => ?_)
    refine zRs_let (fun s25 es25 => ?_)
    have gs25 : zRs R s25 := by rw [es25]; exact rf_X3_take gs23
    refine zRs_let2 (fun v26 s27 es27 => ?_)
    have gs27 : zRs R s27 := zRp.of (rf_X3_newName gs25) es27
    refine zRs_let (fun v28 _ => ?_)
    refine zRs_if (fun _ => ?_) (fun _ => ?_)
    · skip
      refine zRs_let (fun v30 _ => ?_)
      refine zRs_let (fun s31 es31 => ?_)
      have gs31 : zRs R s31 := by rw [es31]; exact gs27
      refine zRs_let (fun v32 _ => ?_)
      refine zRs_let (fun v33 _ => ?_)
      refine zRs_let (fun v34 _ => ?_)
      refine zRs_let (fun s35 es35 => ?_)
      have gs35 : zRs R s35 := by rw [es35]; exact gs31
      refine zRs_let (fun v36 _ => ?_)
      refine zRs_let (fun v37 _ => ?_)
      refine zRs_let (fun v38 _ => ?_)
      refine zRs_let (fun v39 _ => ?_)
      refine zRs_let (fun v40 _ => ?_)
      refine zRs_let (fun v41 _ => ?_)
      refine zRs_let (fun s42 es42 => ?_)
      have gs42 : zRs R s42 := by rw [es42]; exact rf_X9_setPlace gs35
      exact gs42
    · skip
      exact gs27
set_option maxRecDepth 100000 in
theorem rf_X3_knownName {R : Nat → Nat → Option Nat} {σ0 : zS} {a0 : Nat}  (g : zRs R σ0) : zRp R (F_X3_knownName a0 σ0) := by
  unfold F_X3_knownName
  refine zRp_let (fun v1 _ => ?_)
  refine zRp_let2 (fun v2 s3 es3 => ?_)
  have gs3 : zRs R s3 := zRp.of (rf_X3_placeNamed g) es3
  refine zRp_let (fun v4 _ => ?_)
  refine zRp_let (fun v5 _ => ?_)
  refine zRp_if (fun _ => ?_) (fun _ => ?_)
  · skip
    refine zRp_let (fun v11 _ => ?_)
    refine zRp_if (fun _ => ?_) (fun _ => ?_)
    · skip
      refine zRp_let (fun v17 _ => ?_)
      refine zRp_let (fun s18 es18 => ?_)
      have gs18 : zRs R s18 := by rw [es18]; exact rf_X3_failLate gs3
      refine zRp_let (fun v19 _ => ?_)
      refine zRp_let (fun s20 es20 => ?_)
      have gs20 : zRs R s20 := by rw [es20]; exact rf_X3_take gs18
      refine zRp_let (fun v21 _ => ?_)
      refine zRp_let (fun v22 _ => ?_)
      exact gs20
    · skip
      refine zRp_let (fun v13 _ => ?_)
      refine zRp_let (fun s14 es14 => ?_)
      have gs14 : zRs R s14 := by rw [es14]; exact rf_X3_take gs3
      refine zRp_let (fun v15 _ => ?_)
      refine zRp_let (fun v16 _ => ?_)
      exact gs14
  · skip
    refine zRp_let (fun v7 _ => ?_)
    refine zRp_let (fun s8 es8 => ?_)
    have gs8 : zRs R s8 := by rw [es8]; exact rf_X3_take gs3
    refine zRp_let (fun v9 _ => ?_)
    refine zRp_let (fun v10 _ => ?_)
    exact gs8
set_option maxRecDepth 100000 in
theorem rf_X3_number {R : Nat → Nat → Option Nat} {σ0 : zS} {a0 : Nat} {p1 : Int32} {p2 : Int32}  (g : zRs R σ0) : zRp R (F_X3_number a0 p1 p2 σ0) := by
  unfold F_X3_number
  refine zRp_let (fun v1 _ => ?_)
  refine zRp_let (fun v2 _ => ?_)
  refine zRp_let (fun v3 _ => ?_)
  refine zRp_let (fun v4 _ => ?_)
  refine zRp_if (fun _ => ?_) (fun _ => ?_)
  · skip
    refine zRp_let (fun v8 _ => ?_)
    refine zRp_if (fun _ => ?_) (fun _ => ?_)
    · skip
      refine zRp_let (fun v12 _ => ?_)
      refine zRp_let (fun s13 es13 => ?_)
      have gs13 : zRs R s13 := by rw [es13]; exact rf_X3_failLate g
      refine zRp_let (fun v14 _ => ?_)
      refine zRp_let (fun s15 es15 => ?_)
      have gs15 : zRs R s15 := by rw [es15]; exact rf_X3_take gs13
      exact gs15
    · skip
      refine zRp_let (fun v10 _ => ?_)
      refine zRp_let (fun s11 es11 => ?_)
      have gs11 : zRs R s11 := by rw [es11]; exact rf_X3_take g
      exact gs11
  · skip
    refine zRp_let (fun v6 _ => ?_)
    refine zRp_let (fun s7 es7 => ?_)
    have gs7 : zRs R s7 := by rw [es7]; exact rf_X3_take g
    exact gs7
set_option maxRecDepth 100000 in
theorem rf_X3_newPlace {R : Nat → Nat → Option Nat} {σ0 : zS} {a0 : Nat}  (g : zRs R σ0) : zRs R (F_X3_newPlace a0 σ0) := by
  unfold F_X3_newPlace
  refine zRs_let (fun v1 _ => ?_)
  refine zRs_let (fun v2 _ => ?_)
  refine zRs_if (fun _ => ?_) (fun _ => ?_)
  · skip
    refine zRs_let (fun v4 _ => ?_)
    refine zRs_let (fun s5 es5 => ?_)
    have gs5 : zRs R s5 := by rw [es5]; exact rf_X3_take g
    refine zRs_let2 (fun v6 s7 es7 => ?_)
    have gs7 : zRs R s7 := zRp.of (rf_X3_newName gs5) es7
    refine zRs_let2 (fun v8 s9 es9 => ?_)
    have gs9 : zRs R s9 := zRp.of (rf_X3_knownName gs7) es9
    refine zRs_let (fun v10 _ => ?_)
    refine zRs_let (fun v11 _ => ?_)
    refine zRs_let2 (fun v12 s13 es13 => ?_)
    have gs13 : zRs R s13 := zRp.of (rf_X3_number gs9) es13
    refine zRs_let (fun v14 _ => ?_)
    refine zRs_let (fun v15 _ => ?_)
    refine zRs_let2 (fun v16 s17 es17 => ?_)
    have gs17 : zRs R s17 := zRp.of (rf_X3_number gs13) es17
    refine zRs_let (fun v18 _ => ?_)
    refine zRs_let (fun v19 _ => ?_)
    refine zRs_let2 (fun v20 s21 es21 => ?_)
    have gs21 : zRs R s21 := zRp.of (rf_X3_number gs17) es21
    refine zRs_let (fun v22 _ => ?_)
    refine zRs_if (fun _ => ?_) (fun _ => ?_)
    · skip
      refine zRs_let (fun v24 _ => ?_)
      refine zRs_let (fun v25 _ => ?_)
      refine zRs_if (fun _ => ?_) (fun _ => ?_)
      · skip
        refine zRs_let (fun v27 _ => ?_)
        refine zRs_let (fun v28 _ => ?_)
        refine zRs_let (fun v29 _ => ?_)
        refine zRs_let (fun s30 es30 => ?_)
        have gs30 : zRs R s30 := by rw [es30]; exact gs21
        refine zRs_let (fun v33 _ => ?_)
        refine zRs_let (fun v34 _ => ?_)
        refine zRs_let (fun v35 _ => ?_)
        refine zRs_let (fun s36 es36 => ?_)
        have gs36 : zRs R s36 := by rw [es36]; exact gs30
        refine zRs_let (fun v38 _ => ?_)
        refine zRs_let (fun v39 _ => ?_)
        refine zRs_let (fun s40 es40 => ?_)
        have gs40 : zRs R s40 := by rw [es40]; exact rf_X9_setPlace gs36
        exact gs40
      · skip
        exact gs21
    · skip
      exact gs21
  · skip
    refine zRs_let (fun v41 _ => ?_)
    refine zRs_let (fun s42 es42 => ?_)
    have gs42 : zRs R s42 := by rw [es42]; exact rf_X3_fail g
    refine zRs_let (fun v43 _ => ?_)
    refine zRs_let (fun s44 es44 => ?_)
    have gs44 : zRs R s44 := by rw [es44]; exact rf_X3_take gs42
    refine zRs_let2 (fun v45 s46 es46 => ?_)
    have gs46 : zRs R s46 := zRp.of (rf_X3_newName gs44) es46
    refine zRs_let2 (fun v47 s48 es48 => ?_)
    have gs48 : zRs R s48 := zRp.of (rf_X3_knownName gs46) es48
    refine zRs_let (fun v49 _ => ?_)
    refine zRs_let (fun v50 _ => ?_)
    refine zRs_let2 (fun v51 s52 es52 => ?_)
    have gs52 : zRs R s52 := zRp.of (rf_X3_number gs48) es52
    refine zRs_let (fun v53 _ => ?_)
    refine zRs_let (fun v54 _ => ?_)
    refine zRs_let2 (fun v55 s56 es56 => ?_)
    have gs56 : zRs R s56 := zRp.of (rf_X3_number gs52) es56
    refine zRs_let (fun v57 _ => ?_)
    refine zRs_let (fun v58 _ => ?_)
    refine zRs_let2 (fun v59 s60 es60 => ?_)
    have gs60 : zRs R s60 := zRp.of (rf_X3_number gs56) es60
    refine zRs_let (fun v61 _ => ?_)
    refine zRs_if (fun _ => ?_) (fun _ => ?_)
    · skip
      refine zRs_let (fun v63 _ => ?_)
      refine zRs_let (fun v64 _ => ?_)
      refine zRs_if (fun _ => ?_) (fun _ => ?_)
      · skip
        refine zRs_let (fun v66 _ => ?_)
        refine zRs_let (fun v67 _ => ?_)
        refine zRs_let (fun v68 _ => ?_)
        refine zRs_let (fun s69 es69 => ?_)
        have gs69 : zRs R s69 := by rw [es69]; exact gs60
        refine zRs_let (fun v72 _ => ?_)
        refine zRs_let (fun v73 _ => ?_)
        refine zRs_let (fun v74 _ => ?_)
        refine zRs_let (fun s75 es75 => ?_)
        have gs75 : zRs R s75 := by rw [es75]; exact gs69
        refine zRs_let (fun v77 _ => ?_)
        refine zRs_let (fun v78 _ => ?_)
        refine zRs_let (fun s79 es79 => ?_)
        have gs79 : zRs R s79 := by rw [es79]; exact rf_X9_setPlace gs75
        exact gs79
      · skip
        exact gs60
    · skip
      exact gs60
set_option maxRecDepth 100000 in
theorem rf_X3_unit_o6 {R : Nat → Nat → Option Nat} {σ0 : zS} {a0 : Nat} {p1 : Int32}  (g : zRs R σ0) : zRs R (F_X3_unit_o6 a0 p1 σ0) := by
  unfold F_X3_unit_o6
  refine zRs_let (fun v1 _ => ?_)
  refine zRs_let (fun v2 _ => ?_)
  refine zRs_if (fun _ => ?_) (fun _ => ?_)
  · skip
    refine zRs_let (fun v45 _ => ?_)
    refine zRs_let (fun v46 _ => ?_)
    refine zRs_let (fun v47 _ => ?_)
    refine zRs_let (fun v48 _ => ?_)
    refine zRs_let (fun s49 es49 => ?_)
    have gs49 : zRs R s49 := by rw [es49]; exact rf_X9_addStep g
    refine zRs_let (fun v50 _ => ?_)
    refine zRs_let (fun s51 es51 => ?_)
    have gs51 : zRs R s51 := by rw [es51]; exact rf_X3_take gs49
    exact gs51
  · skip
    refine zRs_let (fun v4 _ => ?_)
    refine zRs_let (fun v5 _ => ?_)
    refine zRs_if (fun _ => ?_) (fun _ => ?_)
    · skip
      refine zRs_let (fun v8 _ => ?_)
      refine zRs_let (fun v9 _ => ?_)
      refine zRs_if (fun _ => ?_) (fun _ => ?_)
      · skip
        exact g
      · skip
        refine zRs_let (fun v11 _ => ?_)
        refine zRs_let (fun v12 _ => ?_)
        refine zRs_if (fun _ => ?_) (fun _ => ?_)
        · skip
          exact g
        · skip
          refine zRs_let (fun v14 _ => ?_)
          refine zRs_let (fun s15 es15 => ?_)
          have gs15 : zRs R s15 := by rw [es15]; exact rf_X3_fail g
          exact gs15
    · skip
      refine zRs_let (fun v16 _ => ?_)
      refine zRs_let (fun v17 _ => ?_)
      refine zRs_if (fun _ => ?_) (fun _ => ?_)
      · skip
        refine zRs_let (fun v37 _ => ?_)
        refine zRs_let (fun v38 _ => ?_)
        refine zRs_let (fun v39 _ => ?_)
        refine zRs_let (fun v40 _ => ?_)
        refine zRs_let (fun v41 _ => ?_)
        refine zRs_let (fun s42 es42 => ?_)
        have gs42 : zRs R s42 := by rw [es42]; exact rf_X9_addStep g
        refine zRs_let (fun v43 _ => ?_)
        refine zRs_let (fun s44 es44 => ?_)
        have gs44 : zRs R s44 := by rw [es44]; exact rf_X3_take gs42
        exact gs44
      · skip
        refine zRs_let (fun v20 _ => ?_)
        refine zRs_let (fun v21 _ => ?_)
        refine zRs_if (fun _ => ?_) (fun _ => ?_)
        · skip
          refine zRs_let (fun v30 _ => ?_)
          refine zRs_if (fun _ => ?_) (fun _ => ?_)
          · skip
            exact g
          · skip
            refine zRs_let (fun v32 _ => ?_)
            refine zRs_let (fun v33 _ => ?_)
            refine zRs_if (fun _ => ?_) (fun _ => ?_)
            · skip
              refine zRs_let (fun v35 _ => ?_)
              refine zRs_let (fun s36 es36 => ?_)
              have gs36 : zRs R s36 := by rw [es36]; exact rf_X3_fail g
              exact gs36
            · skip
              exact g
        · skip
          refine zRs_let (fun v23 _ => ?_)
          refine zRs_let (fun v24 _ => ?_)
          refine zRs_if (fun _ => ?_) (fun _ => ?_)
          · skip
            refine zRs_let (fun v28 _ => ?_)
            refine zRs_let (fun s29 es29 => ?_)
            have gs29 : zRs R s29 := by rw [es29]; exact rf_X3_fail g
            exact gs29
          · skip
            refine zRs_let (fun v26 _ => ?_)
            refine zRs_let (fun s27 es27 => ?_)
            have gs27 : zRs R s27 := by rw [es27]; exact rf_X3_fail g
            exact gs27
set_option maxRecDepth 100000 in
theorem rf_X3_product_o6_7 {R : Nat → Nat → Option Nat} {a0 : Nat} {p1 : Int32}  : ∀ (n : Nat) (x3 : Int32) (τ4 : zS), zRs R τ4 → zRs R (F_X3_product_o6_7 a0 p1 n x3 τ4) := by
  intro n
  induction n with
  | zero => intro x3 τ4 g; exact g
  | succ n ih =>
    intro x3 τ4 g
    rw [F_X3_product_o6_7]
    refine zRs_let (fun v5 _ => ?_)
    refine zRs_if (fun _ => ?_) (fun _ => ?_)
    · skip
      exact g
    · skip
      refine zRs_let (fun v7 _ => ?_)
      refine zRs_let (fun v8 _ => ?_)
      refine zRs_let (fun v9 _ => ?_)
      refine zRs_let (fun v10 _ => ?_)
      refine zRs_if (fun _ => ?_) (fun _ => ?_)
      · skip
        exact g
      · skip
        refine zRs_let (fun v12 _ => ?_)
        refine zRs_let (fun s13 es13 => ?_)
        have gs13 : zRs R s13 := by rw [es13]; exact rf_X3_take g
        refine zRs_let (fun s14 es14 => ?_)
        have gs14 : zRs R s14 := by rw [es14]; exact rf_X3_unit_o6 gs13
        refine zRs_let (fun v15 _ => ?_)
        refine zRs_let (fun v16 _ => ?_)
        refine zRs_if (fun _ => ?_) (fun _ => ?_)
        · skip
          refine zRs_let (fun v22 _ => ?_)
          refine zRs_let (fun v23 _ => ?_)
          refine zRs_let (fun s24 es24 => ?_)
          have gs24 : zRs R s24 := by rw [es24]; exact rf_X9_addStep gs14
          refine zRs_let (fun v25 _ => ?_)
          exact ih _ _ gs24
        · skip
          refine zRs_let (fun v18 _ => ?_)
          refine zRs_let (fun v19 _ => ?_)
          refine zRs_let (fun s20 es20 => ?_)
          have gs20 : zRs R s20 := by rw [es20]; exact rf_X9_addStep gs14
          refine zRs_let (fun v21 _ => ?_)
          exact ih _ _ gs20
set_option maxRecDepth 100000 in
theorem rf_X3_product_o6 {R : Nat → Nat → Option Nat} {σ0 : zS} {a0 : Nat} {p1 : Int32}  (g : zRs R σ0) : zRs R (F_X3_product_o6 a0 p1 σ0) := by
  unfold F_X3_product_o6
  refine zRs_let (fun s1 es1 => ?_)
  have gs1 : zRs R s1 := by rw [es1]; exact rf_X3_unit_o6 g
  refine zRs_let (fun v2 _ => ?_)
  exact rf_X3_product_o6_7  _ _ _ gs1
set_option maxRecDepth 100000 in
theorem rf_X3_sum_o6_7 {R : Nat → Nat → Option Nat} {a0 : Nat} {p1 : Int32}  : ∀ (n : Nat) (x3 : Int32) (τ4 : zS), zRs R τ4 → zRs R (F_X3_sum_o6_7 a0 p1 n x3 τ4) := by
  intro n
  induction n with
  | zero => intro x3 τ4 g; exact g
  | succ n ih =>
    intro x3 τ4 g
    rw [F_X3_sum_o6_7]
    refine zRs_let (fun v5 _ => ?_)
    refine zRs_if (fun _ => ?_) (fun _ => ?_)
    · skip
      exact g
    · skip
      refine zRs_let (fun v7 _ => ?_)
      refine zRs_let (fun v8 _ => ?_)
      refine zRs_let (fun v9 _ => ?_)
      refine zRs_let (fun v10 _ => ?_)
      refine zRs_if (fun _ => ?_) (fun _ => ?_)
      · skip
        exact g
      · skip
        refine zRs_let (fun v12 _ => ?_)
        refine zRs_let (fun s13 es13 => ?_)
        have gs13 : zRs R s13 := by rw [es13]; exact rf_X3_take g
        refine zRs_let (fun s14 es14 => ?_)
        have gs14 : zRs R s14 := by rw [es14]; exact rf_X3_product_o6 gs13
        refine zRs_let (fun v15 _ => ?_)
        refine zRs_let (fun v16 _ => ?_)
        refine zRs_if (fun _ => ?_) (fun _ => ?_)
        · skip
          refine zRs_let (fun v22 _ => ?_)
          refine zRs_let (fun v23 _ => ?_)
          refine zRs_let (fun s24 es24 => ?_)
          have gs24 : zRs R s24 := by rw [es24]; exact rf_X9_addStep gs14
          refine zRs_let (fun v25 _ => ?_)
          exact ih _ _ gs24
        · skip
          refine zRs_let (fun v18 _ => ?_)
          refine zRs_let (fun v19 _ => ?_)
          refine zRs_let (fun s20 es20 => ?_)
          have gs20 : zRs R s20 := by rw [es20]; exact rf_X9_addStep gs14
          refine zRs_let (fun v21 _ => ?_)
          exact ih _ _ gs20
set_option maxRecDepth 100000 in
theorem rf_X3_sum_o6 {R : Nat → Nat → Option Nat} {σ0 : zS} {a0 : Nat} {p1 : Int32}  (g : zRs R σ0) : zRs R (F_X3_sum_o6 a0 p1 σ0) := by
  unfold F_X3_sum_o6
  refine zRs_let (fun s1 es1 => ?_)
  have gs1 : zRs R s1 := by rw [es1]; exact rf_X3_product_o6 g
  refine zRs_let (fun v2 _ => ?_)
  exact rf_X3_sum_o6_7  _ _ _ gs1
set_option maxRecDepth 100000 in
theorem rf_X3_unit_o5 {R : Nat → Nat → Option Nat} {σ0 : zS} {a0 : Nat} {p1 : Int32}  (g : zRs R σ0) : zRs R (F_X3_unit_o5 a0 p1 σ0) := by
  unfold F_X3_unit_o5
  refine zRs_let (fun v1 _ => ?_)
  refine zRs_let (fun v2 _ => ?_)
  refine zRs_if (fun _ => ?_) (fun _ => ?_)
  · skip
    refine zRs_let (fun v47 _ => ?_)
    refine zRs_let (fun v48 _ => ?_)
    refine zRs_let (fun v49 _ => ?_)
    refine zRs_let (fun v50 _ => ?_)
    refine zRs_let (fun s51 es51 => ?_)
    have gs51 : zRs R s51 := by rw [es51]; exact rf_X9_addStep g
    refine zRs_let (fun v52 _ => ?_)
    refine zRs_let (fun s53 es53 => ?_)
    have gs53 : zRs R s53 := by rw [es53]; exact rf_X3_take gs51
    exact gs53
  · skip
    refine zRs_let (fun v4 _ => ?_)
    refine zRs_let (fun v5 _ => ?_)
    refine zRs_if (fun _ => ?_) (fun _ => ?_)
    · skip
      refine zRs_let (fun v8 _ => ?_)
      refine zRs_let (fun v9 _ => ?_)
      refine zRs_if (fun _ => ?_) (fun _ => ?_)
      · skip
        exact g
      · skip
        refine zRs_let (fun v11 _ => ?_)
        refine zRs_let (fun v12 _ => ?_)
        refine zRs_if (fun _ => ?_) (fun _ => ?_)
        · skip
          exact g
        · skip
          refine zRs_let (fun v14 _ => ?_)
          refine zRs_let (fun s15 es15 => ?_)
          have gs15 : zRs R s15 := by rw [es15]; exact rf_X3_fail g
          exact gs15
    · skip
      refine zRs_let (fun v16 _ => ?_)
      refine zRs_let (fun v17 _ => ?_)
      refine zRs_if (fun _ => ?_) (fun _ => ?_)
      · skip
        refine zRs_let (fun v39 _ => ?_)
        refine zRs_let (fun v40 _ => ?_)
        refine zRs_let (fun v41 _ => ?_)
        refine zRs_let (fun v42 _ => ?_)
        refine zRs_let (fun v43 _ => ?_)
        refine zRs_let (fun s44 es44 => ?_)
        have gs44 : zRs R s44 := by rw [es44]; exact rf_X9_addStep g
        refine zRs_let (fun v45 _ => ?_)
        refine zRs_let (fun s46 es46 => ?_)
        have gs46 : zRs R s46 := by rw [es46]; exact rf_X3_take gs44
        exact gs46
      · skip
        refine zRs_let (fun v20 _ => ?_)
        refine zRs_let (fun v21 _ => ?_)
        refine zRs_if (fun _ => ?_) (fun _ => ?_)
        · skip
          refine zRs_let (fun v30 _ => ?_)
          refine zRs_if (fun _ => ?_) (fun _ => ?_)
          · skip
            refine zRs_let (fun v32 _ => ?_)
            refine zRs_let (fun s33 es33 => ?_)
            have gs33 : zRs R s33 := by rw [es33]; exact rf_X3_take g
            refine zRs_let (fun v34 _ => ?_)
            refine zRs_let (fun v35 _ => ?_)
            refine zRs_let (fun s36 es36 => ?_)
            have gs36 : zRs R s36 := by rw [es36]; exact rf_X3_sum_o6 gs33
            refine zRs_let (fun v37 _ => ?_)
            refine zRs_let (fun s38 es38 => ?_)
            have gs38 : zRs R s38 := by rw [es38]; exact rf_X3_take gs36
            exact gs38
          · skip
            exact g
        · skip
          refine zRs_let (fun v23 _ => ?_)
          refine zRs_let (fun v24 _ => ?_)
          refine zRs_if (fun _ => ?_) (fun _ => ?_)
          · skip
            refine zRs_let (fun v28 _ => ?_)
            refine zRs_let (fun s29 es29 => ?_)
            have gs29 : zRs R s29 := by rw [es29]; exact rf_X3_fail g
            exact gs29
          · skip
            refine zRs_let (fun v26 _ => ?_)
            refine zRs_let (fun s27 es27 => ?_)
            have gs27 : zRs R s27 := by rw [es27]; exact rf_X3_fail g
            exact gs27
set_option maxRecDepth 100000 in
theorem rf_X3_product_o5_7 {R : Nat → Nat → Option Nat} {a0 : Nat} {p1 : Int32}  : ∀ (n : Nat) (x3 : Int32) (τ4 : zS), zRs R τ4 → zRs R (F_X3_product_o5_7 a0 p1 n x3 τ4) := by
  intro n
  induction n with
  | zero => intro x3 τ4 g; exact g
  | succ n ih =>
    intro x3 τ4 g
    rw [F_X3_product_o5_7]
    refine zRs_let (fun v5 _ => ?_)
    refine zRs_if (fun _ => ?_) (fun _ => ?_)
    · skip
      exact g
    · skip
      refine zRs_let (fun v7 _ => ?_)
      refine zRs_let (fun v8 _ => ?_)
      refine zRs_let (fun v9 _ => ?_)
      refine zRs_let (fun v10 _ => ?_)
      refine zRs_if (fun _ => ?_) (fun _ => ?_)
      · skip
        exact g
      · skip
        refine zRs_let (fun v12 _ => ?_)
        refine zRs_let (fun s13 es13 => ?_)
        have gs13 : zRs R s13 := by rw [es13]; exact rf_X3_take g
        refine zRs_let (fun s14 es14 => ?_)
        have gs14 : zRs R s14 := by rw [es14]; exact rf_X3_unit_o5 gs13
        refine zRs_let (fun v15 _ => ?_)
        refine zRs_let (fun v16 _ => ?_)
        refine zRs_if (fun _ => ?_) (fun _ => ?_)
        · skip
          refine zRs_let (fun v22 _ => ?_)
          refine zRs_let (fun v23 _ => ?_)
          refine zRs_let (fun s24 es24 => ?_)
          have gs24 : zRs R s24 := by rw [es24]; exact rf_X9_addStep gs14
          refine zRs_let (fun v25 _ => ?_)
          exact ih _ _ gs24
        · skip
          refine zRs_let (fun v18 _ => ?_)
          refine zRs_let (fun v19 _ => ?_)
          refine zRs_let (fun s20 es20 => ?_)
          have gs20 : zRs R s20 := by rw [es20]; exact rf_X9_addStep gs14
          refine zRs_let (fun v21 _ => ?_)
          exact ih _ _ gs20
set_option maxRecDepth 100000 in
theorem rf_X3_product_o5 {R : Nat → Nat → Option Nat} {σ0 : zS} {a0 : Nat} {p1 : Int32}  (g : zRs R σ0) : zRs R (F_X3_product_o5 a0 p1 σ0) := by
  unfold F_X3_product_o5
  refine zRs_let (fun s1 es1 => ?_)
  have gs1 : zRs R s1 := by rw [es1]; exact rf_X3_unit_o5 g
  refine zRs_let (fun v2 _ => ?_)
  exact rf_X3_product_o5_7  _ _ _ gs1
set_option maxRecDepth 100000 in
theorem rf_X3_sum_o5_7 {R : Nat → Nat → Option Nat} {a0 : Nat} {p1 : Int32}  : ∀ (n : Nat) (x3 : Int32) (τ4 : zS), zRs R τ4 → zRs R (F_X3_sum_o5_7 a0 p1 n x3 τ4) := by
  intro n
  induction n with
  | zero => intro x3 τ4 g; exact g
  | succ n ih =>
    intro x3 τ4 g
    rw [F_X3_sum_o5_7]
    refine zRs_let (fun v5 _ => ?_)
    refine zRs_if (fun _ => ?_) (fun _ => ?_)
    · skip
      exact g
    · skip
      refine zRs_let (fun v7 _ => ?_)
      refine zRs_let (fun v8 _ => ?_)
      refine zRs_let (fun v9 _ => ?_)
      refine zRs_let (fun v10 _ => ?_)
      refine zRs_if (fun _ => ?_) (fun _ => ?_)
      · skip
        exact g
      · skip
        refine zRs_let (fun v12 _ => ?_)
        refine zRs_let (fun s13 es13 => ?_)
        have gs13 : zRs R s13 := by rw [es13]; exact rf_X3_take g
        refine zRs_let (fun s14 es14 => ?_)
        have gs14 : zRs R s14 := by rw [es14]; exact rf_X3_product_o5 gs13
        refine zRs_let (fun v15 _ => ?_)
        refine zRs_let (fun v16 _ => ?_)
        refine zRs_if (fun _ => ?_) (fun _ => ?_)
        · skip
          refine zRs_let (fun v22 _ => ?_)
          refine zRs_let (fun v23 _ => ?_)
          refine zRs_let (fun s24 es24 => ?_)
          have gs24 : zRs R s24 := by rw [es24]; exact rf_X9_addStep gs14
          refine zRs_let (fun v25 _ => ?_)
          exact ih _ _ gs24
        · skip
          refine zRs_let (fun v18 _ => ?_)
          refine zRs_let (fun v19 _ => ?_)
          refine zRs_let (fun s20 es20 => ?_)
          have gs20 : zRs R s20 := by rw [es20]; exact rf_X9_addStep gs14
          refine zRs_let (fun v21 _ => ?_)
          exact ih _ _ gs20
set_option maxRecDepth 100000 in
theorem rf_X3_sum_o5 {R : Nat → Nat → Option Nat} {σ0 : zS} {a0 : Nat} {p1 : Int32}  (g : zRs R σ0) : zRs R (F_X3_sum_o5 a0 p1 σ0) := by
  unfold F_X3_sum_o5
  refine zRs_let (fun s1 es1 => ?_)
  have gs1 : zRs R s1 := by rw [es1]; exact rf_X3_product_o5 g
  refine zRs_let (fun v2 _ => ?_)
  exact rf_X3_sum_o5_7  _ _ _ gs1
set_option maxRecDepth 100000 in
theorem rf_X3_unit_o4 {R : Nat → Nat → Option Nat} {σ0 : zS} {a0 : Nat} {p1 : Int32}  (g : zRs R σ0) : zRs R (F_X3_unit_o4 a0 p1 σ0) := by
  unfold F_X3_unit_o4
  refine zRs_let (fun v1 _ => ?_)
  refine zRs_let (fun v2 _ => ?_)
  refine zRs_if (fun _ => ?_) (fun _ => ?_)
  · skip
    refine zRs_let (fun v47 _ => ?_)
    refine zRs_let (fun v48 _ => ?_)
    refine zRs_let (fun v49 _ => ?_)
    refine zRs_let (fun v50 _ => ?_)
    refine zRs_let (fun s51 es51 => ?_)
    have gs51 : zRs R s51 := by rw [es51]; exact rf_X9_addStep g
    refine zRs_let (fun v52 _ => ?_)
    refine zRs_let (fun s53 es53 => ?_)
    have gs53 : zRs R s53 := by rw [es53]; exact rf_X3_take gs51
    exact gs53
  · skip
    refine zRs_let (fun v4 _ => ?_)
    refine zRs_let (fun v5 _ => ?_)
    refine zRs_if (fun _ => ?_) (fun _ => ?_)
    · skip
      refine zRs_let (fun v8 _ => ?_)
      refine zRs_let (fun v9 _ => ?_)
      refine zRs_if (fun _ => ?_) (fun _ => ?_)
      · skip
        exact g
      · skip
        refine zRs_let (fun v11 _ => ?_)
        refine zRs_let (fun v12 _ => ?_)
        refine zRs_if (fun _ => ?_) (fun _ => ?_)
        · skip
          exact g
        · skip
          refine zRs_let (fun v14 _ => ?_)
          refine zRs_let (fun s15 es15 => ?_)
          have gs15 : zRs R s15 := by rw [es15]; exact rf_X3_fail g
          exact gs15
    · skip
      refine zRs_let (fun v16 _ => ?_)
      refine zRs_let (fun v17 _ => ?_)
      refine zRs_if (fun _ => ?_) (fun _ => ?_)
      · skip
        refine zRs_let (fun v39 _ => ?_)
        refine zRs_let (fun v40 _ => ?_)
        refine zRs_let (fun v41 _ => ?_)
        refine zRs_let (fun v42 _ => ?_)
        refine zRs_let (fun v43 _ => ?_)
        refine zRs_let (fun s44 es44 => ?_)
        have gs44 : zRs R s44 := by rw [es44]; exact rf_X9_addStep g
        refine zRs_let (fun v45 _ => ?_)
        refine zRs_let (fun s46 es46 => ?_)
        have gs46 : zRs R s46 := by rw [es46]; exact rf_X3_take gs44
        exact gs46
      · skip
        refine zRs_let (fun v20 _ => ?_)
        refine zRs_let (fun v21 _ => ?_)
        refine zRs_if (fun _ => ?_) (fun _ => ?_)
        · skip
          refine zRs_let (fun v30 _ => ?_)
          refine zRs_if (fun _ => ?_) (fun _ => ?_)
          · skip
            refine zRs_let (fun v32 _ => ?_)
            refine zRs_let (fun s33 es33 => ?_)
            have gs33 : zRs R s33 := by rw [es33]; exact rf_X3_take g
            refine zRs_let (fun v34 _ => ?_)
            refine zRs_let (fun v35 _ => ?_)
            refine zRs_let (fun s36 es36 => ?_)
            have gs36 : zRs R s36 := by rw [es36]; exact rf_X3_sum_o5 gs33
            refine zRs_let (fun v37 _ => ?_)
            refine zRs_let (fun s38 es38 => ?_)
            have gs38 : zRs R s38 := by rw [es38]; exact rf_X3_take gs36
            exact gs38
          · skip
            exact g
        · skip
          refine zRs_let (fun v23 _ => ?_)
          refine zRs_let (fun v24 _ => ?_)
          refine zRs_if (fun _ => ?_) (fun _ => ?_)
          · skip
            refine zRs_let (fun v28 _ => ?_)
            refine zRs_let (fun s29 es29 => ?_)
            have gs29 : zRs R s29 := by rw [es29]; exact rf_X3_fail g
            exact gs29
          · skip
            refine zRs_let (fun v26 _ => ?_)
            refine zRs_let (fun s27 es27 => ?_)
            have gs27 : zRs R s27 := by rw [es27]; exact rf_X3_fail g
            exact gs27
set_option maxRecDepth 100000 in
theorem rf_X3_product_o4_7 {R : Nat → Nat → Option Nat} {a0 : Nat} {p1 : Int32}  : ∀ (n : Nat) (x3 : Int32) (τ4 : zS), zRs R τ4 → zRs R (F_X3_product_o4_7 a0 p1 n x3 τ4) := by
  intro n
  induction n with
  | zero => intro x3 τ4 g; exact g
  | succ n ih =>
    intro x3 τ4 g
    rw [F_X3_product_o4_7]
    refine zRs_let (fun v5 _ => ?_)
    refine zRs_if (fun _ => ?_) (fun _ => ?_)
    · skip
      exact g
    · skip
      refine zRs_let (fun v7 _ => ?_)
      refine zRs_let (fun v8 _ => ?_)
      refine zRs_let (fun v9 _ => ?_)
      refine zRs_let (fun v10 _ => ?_)
      refine zRs_if (fun _ => ?_) (fun _ => ?_)
      · skip
        exact g
      · skip
        refine zRs_let (fun v12 _ => ?_)
        refine zRs_let (fun s13 es13 => ?_)
        have gs13 : zRs R s13 := by rw [es13]; exact rf_X3_take g
        refine zRs_let (fun s14 es14 => ?_)
        have gs14 : zRs R s14 := by rw [es14]; exact rf_X3_unit_o4 gs13
        refine zRs_let (fun v15 _ => ?_)
        refine zRs_let (fun v16 _ => ?_)
        refine zRs_if (fun _ => ?_) (fun _ => ?_)
        · skip
          refine zRs_let (fun v22 _ => ?_)
          refine zRs_let (fun v23 _ => ?_)
          refine zRs_let (fun s24 es24 => ?_)
          have gs24 : zRs R s24 := by rw [es24]; exact rf_X9_addStep gs14
          refine zRs_let (fun v25 _ => ?_)
          exact ih _ _ gs24
        · skip
          refine zRs_let (fun v18 _ => ?_)
          refine zRs_let (fun v19 _ => ?_)
          refine zRs_let (fun s20 es20 => ?_)
          have gs20 : zRs R s20 := by rw [es20]; exact rf_X9_addStep gs14
          refine zRs_let (fun v21 _ => ?_)
          exact ih _ _ gs20
set_option maxRecDepth 100000 in
theorem rf_X3_product_o4 {R : Nat → Nat → Option Nat} {σ0 : zS} {a0 : Nat} {p1 : Int32}  (g : zRs R σ0) : zRs R (F_X3_product_o4 a0 p1 σ0) := by
  unfold F_X3_product_o4
  refine zRs_let (fun s1 es1 => ?_)
  have gs1 : zRs R s1 := by rw [es1]; exact rf_X3_unit_o4 g
  refine zRs_let (fun v2 _ => ?_)
  exact rf_X3_product_o4_7  _ _ _ gs1
set_option maxRecDepth 100000 in
theorem rf_X3_sum_o4_7 {R : Nat → Nat → Option Nat} {a0 : Nat} {p1 : Int32}  : ∀ (n : Nat) (x3 : Int32) (τ4 : zS), zRs R τ4 → zRs R (F_X3_sum_o4_7 a0 p1 n x3 τ4) := by
  intro n
  induction n with
  | zero => intro x3 τ4 g; exact g
  | succ n ih =>
    intro x3 τ4 g
    rw [F_X3_sum_o4_7]
    refine zRs_let (fun v5 _ => ?_)
    refine zRs_if (fun _ => ?_) (fun _ => ?_)
    · skip
      exact g
    · skip
      refine zRs_let (fun v7 _ => ?_)
      refine zRs_let (fun v8 _ => ?_)
      refine zRs_let (fun v9 _ => ?_)
      refine zRs_let (fun v10 _ => ?_)
      refine zRs_if (fun _ => ?_) (fun _ => ?_)
      · skip
        exact g
      · skip
        refine zRs_let (fun v12 _ => ?_)
        refine zRs_let (fun s13 es13 => ?_)
        have gs13 : zRs R s13 := by rw [es13]; exact rf_X3_take g
        refine zRs_let (fun s14 es14 => ?_)
        have gs14 : zRs R s14 := by rw [es14]; exact rf_X3_product_o4 gs13
        refine zRs_let (fun v15 _ => ?_)
        refine zRs_let (fun v16 _ => ?_)
        refine zRs_if (fun _ => ?_) (fun _ => ?_)
        · skip
          refine zRs_let (fun v22 _ => ?_)
          refine zRs_let (fun v23 _ => ?_)
          refine zRs_let (fun s24 es24 => ?_)
          have gs24 : zRs R s24 := by rw [es24]; exact rf_X9_addStep gs14
          refine zRs_let (fun v25 _ => ?_)
          exact ih _ _ gs24
        · skip
          refine zRs_let (fun v18 _ => ?_)
          refine zRs_let (fun v19 _ => ?_)
          refine zRs_let (fun s20 es20 => ?_)
          have gs20 : zRs R s20 := by rw [es20]; exact rf_X9_addStep gs14
          refine zRs_let (fun v21 _ => ?_)
          exact ih _ _ gs20
set_option maxRecDepth 100000 in
theorem rf_X3_sum_o4 {R : Nat → Nat → Option Nat} {σ0 : zS} {a0 : Nat} {p1 : Int32}  (g : zRs R σ0) : zRs R (F_X3_sum_o4 a0 p1 σ0) := by
  unfold F_X3_sum_o4
  refine zRs_let (fun s1 es1 => ?_)
  have gs1 : zRs R s1 := by rw [es1]; exact rf_X3_product_o4 g
  refine zRs_let (fun v2 _ => ?_)
  exact rf_X3_sum_o4_7  _ _ _ gs1
set_option maxRecDepth 100000 in
theorem rf_X3_unit_o3 {R : Nat → Nat → Option Nat} {σ0 : zS} {a0 : Nat} {p1 : Int32}  (g : zRs R σ0) : zRs R (F_X3_unit_o3 a0 p1 σ0) := by
  unfold F_X3_unit_o3
  refine zRs_let (fun v1 _ => ?_)
  refine zRs_let (fun v2 _ => ?_)
  refine zRs_if (fun _ => ?_) (fun _ => ?_)
  · skip
    refine zRs_let (fun v47 _ => ?_)
    refine zRs_let (fun v48 _ => ?_)
    refine zRs_let (fun v49 _ => ?_)
    refine zRs_let (fun v50 _ => ?_)
    refine zRs_let (fun s51 es51 => ?_)
    have gs51 : zRs R s51 := by rw [es51]; exact rf_X9_addStep g
    refine zRs_let (fun v52 _ => ?_)
    refine zRs_let (fun s53 es53 => ?_)
    have gs53 : zRs R s53 := by rw [es53]; exact rf_X3_take gs51
    exact gs53
  · skip
    refine zRs_let (fun v4 _ => ?_)
    refine zRs_let (fun v5 _ => ?_)
    refine zRs_if (fun _ => ?_) (fun _ => ?_)
    · skip
      refine zRs_let (fun v8 _ => ?_)
      refine zRs_let (fun v9 _ => ?_)
      refine zRs_if (fun _ => ?_) (fun _ => ?_)
      · skip
        exact g
      · skip
        refine zRs_let (fun v11 _ => ?_)
        refine zRs_let (fun v12 _ => ?_)
        refine zRs_if (fun _ => ?_) (fun _ => ?_)
        · skip
          exact g
        · skip
          refine zRs_let (fun v14 _ => ?_)
          refine zRs_let (fun s15 es15 => ?_)
          have gs15 : zRs R s15 := by rw [es15]; exact rf_X3_fail g
          exact gs15
    · skip
      refine zRs_let (fun v16 _ => ?_)
      refine zRs_let (fun v17 _ => ?_)
      refine zRs_if (fun _ => ?_) (fun _ => ?_)
      · skip
        refine zRs_let (fun v39 _ => ?_)
        refine zRs_let (fun v40 _ => ?_)
        refine zRs_let (fun v41 _ => ?_)
        refine zRs_let (fun v42 _ => ?_)
        refine zRs_let (fun v43 _ => ?_)
        refine zRs_let (fun s44 es44 => ?_)
        have gs44 : zRs R s44 := by rw [es44]; exact rf_X9_addStep g
        refine zRs_let (fun v45 _ => ?_)
        refine zRs_let (fun s46 es46 => ?_)
        have gs46 : zRs R s46 := by rw [es46]; exact rf_X3_take gs44
        exact gs46
      · skip
        refine zRs_let (fun v20 _ => ?_)
        refine zRs_let (fun v21 _ => ?_)
        refine zRs_if (fun _ => ?_) (fun _ => ?_)
        · skip
          refine zRs_let (fun v30 _ => ?_)
          refine zRs_if (fun _ => ?_) (fun _ => ?_)
          · skip
            refine zRs_let (fun v32 _ => ?_)
            refine zRs_let (fun s33 es33 => ?_)
            have gs33 : zRs R s33 := by rw [es33]; exact rf_X3_take g
            refine zRs_let (fun v34 _ => ?_)
            refine zRs_let (fun v35 _ => ?_)
            refine zRs_let (fun s36 es36 => ?_)
            have gs36 : zRs R s36 := by rw [es36]; exact rf_X3_sum_o4 gs33
            refine zRs_let (fun v37 _ => ?_)
            refine zRs_let (fun s38 es38 => ?_)
            have gs38 : zRs R s38 := by rw [es38]; exact rf_X3_take gs36
            exact gs38
          · skip
            exact g
        · skip
          refine zRs_let (fun v23 _ => ?_)
          refine zRs_let (fun v24 _ => ?_)
          refine zRs_if (fun _ => ?_) (fun _ => ?_)
          · skip
            refine zRs_let (fun v28 _ => ?_)
            refine zRs_let (fun s29 es29 => ?_)
            have gs29 : zRs R s29 := by rw [es29]; exact rf_X3_fail g
            exact gs29
          · skip
            refine zRs_let (fun v26 _ => ?_)
            refine zRs_let (fun s27 es27 => ?_)
            have gs27 : zRs R s27 := by rw [es27]; exact rf_X3_fail g
            exact gs27
set_option maxRecDepth 100000 in
theorem rf_X3_product_o3_7 {R : Nat → Nat → Option Nat} {a0 : Nat} {p1 : Int32}  : ∀ (n : Nat) (x3 : Int32) (τ4 : zS), zRs R τ4 → zRs R (F_X3_product_o3_7 a0 p1 n x3 τ4) := by
  intro n
  induction n with
  | zero => intro x3 τ4 g; exact g
  | succ n ih =>
    intro x3 τ4 g
    rw [F_X3_product_o3_7]
    refine zRs_let (fun v5 _ => ?_)
    refine zRs_if (fun _ => ?_) (fun _ => ?_)
    · skip
      exact g
    · skip
      refine zRs_let (fun v7 _ => ?_)
      refine zRs_let (fun v8 _ => ?_)
      refine zRs_let (fun v9 _ => ?_)
      refine zRs_let (fun v10 _ => ?_)
      refine zRs_if (fun _ => ?_) (fun _ => ?_)
      · skip
        exact g
      · skip
        refine zRs_let (fun v12 _ => ?_)
        refine zRs_let (fun s13 es13 => ?_)
        have gs13 : zRs R s13 := by rw [es13]; exact rf_X3_take g
        refine zRs_let (fun s14 es14 => ?_)
        have gs14 : zRs R s14 := by rw [es14]; exact rf_X3_unit_o3 gs13
        refine zRs_let (fun v15 _ => ?_)
        refine zRs_let (fun v16 _ => ?_)
        refine zRs_if (fun _ => ?_) (fun _ => ?_)
        · skip
          refine zRs_let (fun v22 _ => ?_)
          refine zRs_let (fun v23 _ => ?_)
          refine zRs_let (fun s24 es24 => ?_)
          have gs24 : zRs R s24 := by rw [es24]; exact rf_X9_addStep gs14
          refine zRs_let (fun v25 _ => ?_)
          exact ih _ _ gs24
        · skip
          refine zRs_let (fun v18 _ => ?_)
          refine zRs_let (fun v19 _ => ?_)
          refine zRs_let (fun s20 es20 => ?_)
          have gs20 : zRs R s20 := by rw [es20]; exact rf_X9_addStep gs14
          refine zRs_let (fun v21 _ => ?_)
          exact ih _ _ gs20
set_option maxRecDepth 100000 in
theorem rf_X3_product_o3 {R : Nat → Nat → Option Nat} {σ0 : zS} {a0 : Nat} {p1 : Int32}  (g : zRs R σ0) : zRs R (F_X3_product_o3 a0 p1 σ0) := by
  unfold F_X3_product_o3
  refine zRs_let (fun s1 es1 => ?_)
  have gs1 : zRs R s1 := by rw [es1]; exact rf_X3_unit_o3 g
  refine zRs_let (fun v2 _ => ?_)
  exact rf_X3_product_o3_7  _ _ _ gs1
set_option maxRecDepth 100000 in
theorem rf_X3_sum_o3_7 {R : Nat → Nat → Option Nat} {a0 : Nat} {p1 : Int32}  : ∀ (n : Nat) (x3 : Int32) (τ4 : zS), zRs R τ4 → zRs R (F_X3_sum_o3_7 a0 p1 n x3 τ4) := by
  intro n
  induction n with
  | zero => intro x3 τ4 g; exact g
  | succ n ih =>
    intro x3 τ4 g
    rw [F_X3_sum_o3_7]
    refine zRs_let (fun v5 _ => ?_)
    refine zRs_if (fun _ => ?_) (fun _ => ?_)
    · skip
      exact g
    · skip
      refine zRs_let (fun v7 _ => ?_)
      refine zRs_let (fun v8 _ => ?_)
      refine zRs_let (fun v9 _ => ?_)
      refine zRs_let (fun v10 _ => ?_)
      refine zRs_if (fun _ => ?_) (fun _ => ?_)
      · skip
        exact g
      · skip
        refine zRs_let (fun v12 _ => ?_)
        refine zRs_let (fun s13 es13 => ?_)
        have gs13 : zRs R s13 := by rw [es13]; exact rf_X3_take g
        refine zRs_let (fun s14 es14 => ?_)
        have gs14 : zRs R s14 := by rw [es14]; exact rf_X3_product_o3 gs13
        refine zRs_let (fun v15 _ => ?_)
        refine zRs_let (fun v16 _ => ?_)
        refine zRs_if (fun _ => ?_) (fun _ => ?_)
        · skip
          refine zRs_let (fun v22 _ => ?_)
          refine zRs_let (fun v23 _ => ?_)
          refine zRs_let (fun s24 es24 => ?_)
          have gs24 : zRs R s24 := by rw [es24]; exact rf_X9_addStep gs14
          refine zRs_let (fun v25 _ => ?_)
          exact ih _ _ gs24
        · skip
          refine zRs_let (fun v18 _ => ?_)
          refine zRs_let (fun v19 _ => ?_)
          refine zRs_let (fun s20 es20 => ?_)
          have gs20 : zRs R s20 := by rw [es20]; exact rf_X9_addStep gs14
          refine zRs_let (fun v21 _ => ?_)
          exact ih _ _ gs20
set_option maxRecDepth 100000 in
theorem rf_X3_sum_o3 {R : Nat → Nat → Option Nat} {σ0 : zS} {a0 : Nat} {p1 : Int32}  (g : zRs R σ0) : zRs R (F_X3_sum_o3 a0 p1 σ0) := by
  unfold F_X3_sum_o3
  refine zRs_let (fun s1 es1 => ?_)
  have gs1 : zRs R s1 := by rw [es1]; exact rf_X3_product_o3 g
  refine zRs_let (fun v2 _ => ?_)
  exact rf_X3_sum_o3_7  _ _ _ gs1
set_option maxRecDepth 100000 in
theorem rf_X3_unit_o2 {R : Nat → Nat → Option Nat} {σ0 : zS} {a0 : Nat} {p1 : Int32}  (g : zRs R σ0) : zRs R (F_X3_unit_o2 a0 p1 σ0) := by
  unfold F_X3_unit_o2
  refine zRs_let (fun v1 _ => ?_)
  refine zRs_let (fun v2 _ => ?_)
  refine zRs_if (fun _ => ?_) (fun _ => ?_)
  · skip
    refine zRs_let (fun v47 _ => ?_)
    refine zRs_let (fun v48 _ => ?_)
    refine zRs_let (fun v49 _ => ?_)
    refine zRs_let (fun v50 _ => ?_)
    refine zRs_let (fun s51 es51 => ?_)
    have gs51 : zRs R s51 := by rw [es51]; exact rf_X9_addStep g
    refine zRs_let (fun v52 _ => ?_)
    refine zRs_let (fun s53 es53 => ?_)
    have gs53 : zRs R s53 := by rw [es53]; exact rf_X3_take gs51
    exact gs53
  · skip
    refine zRs_let (fun v4 _ => ?_)
    refine zRs_let (fun v5 _ => ?_)
    refine zRs_if (fun _ => ?_) (fun _ => ?_)
    · skip
      refine zRs_let (fun v8 _ => ?_)
      refine zRs_let (fun v9 _ => ?_)
      refine zRs_if (fun _ => ?_) (fun _ => ?_)
      · skip
        exact g
      · skip
        refine zRs_let (fun v11 _ => ?_)
        refine zRs_let (fun v12 _ => ?_)
        refine zRs_if (fun _ => ?_) (fun _ => ?_)
        · skip
          exact g
        · skip
          refine zRs_let (fun v14 _ => ?_)
          refine zRs_let (fun s15 es15 => ?_)
          have gs15 : zRs R s15 := by rw [es15]; exact rf_X3_fail g
          exact gs15
    · skip
      refine zRs_let (fun v16 _ => ?_)
      refine zRs_let (fun v17 _ => ?_)
      refine zRs_if (fun _ => ?_) (fun _ => ?_)
      · skip
        refine zRs_let (fun v39 _ => ?_)
        refine zRs_let (fun v40 _ => ?_)
        refine zRs_let (fun v41 _ => ?_)
        refine zRs_let (fun v42 _ => ?_)
        refine zRs_let (fun v43 _ => ?_)
        refine zRs_let (fun s44 es44 => ?_)
        have gs44 : zRs R s44 := by rw [es44]; exact rf_X9_addStep g
        refine zRs_let (fun v45 _ => ?_)
        refine zRs_let (fun s46 es46 => ?_)
        have gs46 : zRs R s46 := by rw [es46]; exact rf_X3_take gs44
        exact gs46
      · skip
        refine zRs_let (fun v20 _ => ?_)
        refine zRs_let (fun v21 _ => ?_)
        refine zRs_if (fun _ => ?_) (fun _ => ?_)
        · skip
          refine zRs_let (fun v30 _ => ?_)
          refine zRs_if (fun _ => ?_) (fun _ => ?_)
          · skip
            refine zRs_let (fun v32 _ => ?_)
            refine zRs_let (fun s33 es33 => ?_)
            have gs33 : zRs R s33 := by rw [es33]; exact rf_X3_take g
            refine zRs_let (fun v34 _ => ?_)
            refine zRs_let (fun v35 _ => ?_)
            refine zRs_let (fun s36 es36 => ?_)
            have gs36 : zRs R s36 := by rw [es36]; exact rf_X3_sum_o3 gs33
            refine zRs_let (fun v37 _ => ?_)
            refine zRs_let (fun s38 es38 => ?_)
            have gs38 : zRs R s38 := by rw [es38]; exact rf_X3_take gs36
            exact gs38
          · skip
            exact g
        · skip
          refine zRs_let (fun v23 _ => ?_)
          refine zRs_let (fun v24 _ => ?_)
          refine zRs_if (fun _ => ?_) (fun _ => ?_)
          · skip
            refine zRs_let (fun v28 _ => ?_)
            refine zRs_let (fun s29 es29 => ?_)
            have gs29 : zRs R s29 := by rw [es29]; exact rf_X3_fail g
            exact gs29
          · skip
            refine zRs_let (fun v26 _ => ?_)
            refine zRs_let (fun s27 es27 => ?_)
            have gs27 : zRs R s27 := by rw [es27]; exact rf_X3_fail g
            exact gs27
set_option maxRecDepth 100000 in
theorem rf_X3_product_o2_7 {R : Nat → Nat → Option Nat} {a0 : Nat} {p1 : Int32}  : ∀ (n : Nat) (x3 : Int32) (τ4 : zS), zRs R τ4 → zRs R (F_X3_product_o2_7 a0 p1 n x3 τ4) := by
  intro n
  induction n with
  | zero => intro x3 τ4 g; exact g
  | succ n ih =>
    intro x3 τ4 g
    rw [F_X3_product_o2_7]
    refine zRs_let (fun v5 _ => ?_)
    refine zRs_if (fun _ => ?_) (fun _ => ?_)
    · skip
      exact g
    · skip
      refine zRs_let (fun v7 _ => ?_)
      refine zRs_let (fun v8 _ => ?_)
      refine zRs_let (fun v9 _ => ?_)
      refine zRs_let (fun v10 _ => ?_)
      refine zRs_if (fun _ => ?_) (fun _ => ?_)
      · skip
        exact g
      · skip
        refine zRs_let (fun v12 _ => ?_)
        refine zRs_let (fun s13 es13 => ?_)
        have gs13 : zRs R s13 := by rw [es13]; exact rf_X3_take g
        refine zRs_let (fun s14 es14 => ?_)
        have gs14 : zRs R s14 := by rw [es14]; exact rf_X3_unit_o2 gs13
        refine zRs_let (fun v15 _ => ?_)
        refine zRs_let (fun v16 _ => ?_)
        refine zRs_if (fun _ => ?_) (fun _ => ?_)
        · skip
          refine zRs_let (fun v22 _ => ?_)
          refine zRs_let (fun v23 _ => ?_)
          refine zRs_let (fun s24 es24 => ?_)
          have gs24 : zRs R s24 := by rw [es24]; exact rf_X9_addStep gs14
          refine zRs_let (fun v25 _ => ?_)
          exact ih _ _ gs24
        · skip
          refine zRs_let (fun v18 _ => ?_)
          refine zRs_let (fun v19 _ => ?_)
          refine zRs_let (fun s20 es20 => ?_)
          have gs20 : zRs R s20 := by rw [es20]; exact rf_X9_addStep gs14
          refine zRs_let (fun v21 _ => ?_)
          exact ih _ _ gs20
set_option maxRecDepth 100000 in
theorem rf_X3_product_o2 {R : Nat → Nat → Option Nat} {σ0 : zS} {a0 : Nat} {p1 : Int32}  (g : zRs R σ0) : zRs R (F_X3_product_o2 a0 p1 σ0) := by
  unfold F_X3_product_o2
  refine zRs_let (fun s1 es1 => ?_)
  have gs1 : zRs R s1 := by rw [es1]; exact rf_X3_unit_o2 g
  refine zRs_let (fun v2 _ => ?_)
  exact rf_X3_product_o2_7  _ _ _ gs1
set_option maxRecDepth 100000 in
theorem rf_X3_sum_o2_7 {R : Nat → Nat → Option Nat} {a0 : Nat} {p1 : Int32}  : ∀ (n : Nat) (x3 : Int32) (τ4 : zS), zRs R τ4 → zRs R (F_X3_sum_o2_7 a0 p1 n x3 τ4) := by
  intro n
  induction n with
  | zero => intro x3 τ4 g; exact g
  | succ n ih =>
    intro x3 τ4 g
    rw [F_X3_sum_o2_7]
    refine zRs_let (fun v5 _ => ?_)
    refine zRs_if (fun _ => ?_) (fun _ => ?_)
    · skip
      exact g
    · skip
      refine zRs_let (fun v7 _ => ?_)
      refine zRs_let (fun v8 _ => ?_)
      refine zRs_let (fun v9 _ => ?_)
      refine zRs_let (fun v10 _ => ?_)
      refine zRs_if (fun _ => ?_) (fun _ => ?_)
      · skip
        exact g
      · skip
        refine zRs_let (fun v12 _ => ?_)
        refine zRs_let (fun s13 es13 => ?_)
        have gs13 : zRs R s13 := by rw [es13]; exact rf_X3_take g
        refine zRs_let (fun s14 es14 => ?_)
        have gs14 : zRs R s14 := by rw [es14]; exact rf_X3_product_o2 gs13
        refine zRs_let (fun v15 _ => ?_)
        refine zRs_let (fun v16 _ => ?_)
        refine zRs_if (fun _ => ?_) (fun _ => ?_)
        · skip
          refine zRs_let (fun v22 _ => ?_)
          refine zRs_let (fun v23 _ => ?_)
          refine zRs_let (fun s24 es24 => ?_)
          have gs24 : zRs R s24 := by rw [es24]; exact rf_X9_addStep gs14
          refine zRs_let (fun v25 _ => ?_)
          exact ih _ _ gs24
        · skip
          refine zRs_let (fun v18 _ => ?_)
          refine zRs_let (fun v19 _ => ?_)
          refine zRs_let (fun s20 es20 => ?_)
          have gs20 : zRs R s20 := by rw [es20]; exact rf_X9_addStep gs14
          refine zRs_let (fun v21 _ => ?_)
          exact ih _ _ gs20
set_option maxRecDepth 100000 in
theorem rf_X3_sum_o2 {R : Nat → Nat → Option Nat} {σ0 : zS} {a0 : Nat} {p1 : Int32}  (g : zRs R σ0) : zRs R (F_X3_sum_o2 a0 p1 σ0) := by
  unfold F_X3_sum_o2
  refine zRs_let (fun s1 es1 => ?_)
  have gs1 : zRs R s1 := by rw [es1]; exact rf_X3_product_o2 g
  refine zRs_let (fun v2 _ => ?_)
  exact rf_X3_sum_o2_7  _ _ _ gs1
set_option maxRecDepth 100000 in
theorem rf_X3_unit_o1 {R : Nat → Nat → Option Nat} {σ0 : zS} {a0 : Nat} {p1 : Int32}  (g : zRs R σ0) : zRs R (F_X3_unit_o1 a0 p1 σ0) := by
  unfold F_X3_unit_o1
  refine zRs_let (fun v1 _ => ?_)
  refine zRs_let (fun v2 _ => ?_)
  refine zRs_if (fun _ => ?_) (fun _ => ?_)
  · skip
    refine zRs_let (fun v47 _ => ?_)
    refine zRs_let (fun v48 _ => ?_)
    refine zRs_let (fun v49 _ => ?_)
    refine zRs_let (fun v50 _ => ?_)
    refine zRs_let (fun s51 es51 => ?_)
    have gs51 : zRs R s51 := by rw [es51]; exact rf_X9_addStep g
    refine zRs_let (fun v52 _ => ?_)
    refine zRs_let (fun s53 es53 => ?_)
    have gs53 : zRs R s53 := by rw [es53]; exact rf_X3_take gs51
    exact gs53
  · skip
    refine zRs_let (fun v4 _ => ?_)
    refine zRs_let (fun v5 _ => ?_)
    refine zRs_if (fun _ => ?_) (fun _ => ?_)
    · skip
      refine zRs_let (fun v8 _ => ?_)
      refine zRs_let (fun v9 _ => ?_)
      refine zRs_if (fun _ => ?_) (fun _ => ?_)
      · skip
        exact g
      · skip
        refine zRs_let (fun v11 _ => ?_)
        refine zRs_let (fun v12 _ => ?_)
        refine zRs_if (fun _ => ?_) (fun _ => ?_)
        · skip
          exact g
        · skip
          refine zRs_let (fun v14 _ => ?_)
          refine zRs_let (fun s15 es15 => ?_)
          have gs15 : zRs R s15 := by rw [es15]; exact rf_X3_fail g
          exact gs15
    · skip
      refine zRs_let (fun v16 _ => ?_)
      refine zRs_let (fun v17 _ => ?_)
      refine zRs_if (fun _ => ?_) (fun _ => ?_)
      · skip
        refine zRs_let (fun v39 _ => ?_)
        refine zRs_let (fun v40 _ => ?_)
        refine zRs_let (fun v41 _ => ?_)
        refine zRs_let (fun v42 _ => ?_)
        refine zRs_let (fun v43 _ => ?_)
        refine zRs_let (fun s44 es44 => ?_)
        have gs44 : zRs R s44 := by rw [es44]; exact rf_X9_addStep g
        refine zRs_let (fun v45 _ => ?_)
        refine zRs_let (fun s46 es46 => ?_)
        have gs46 : zRs R s46 := by rw [es46]; exact rf_X3_take gs44
        exact gs46
      · skip
        refine zRs_let (fun v20 _ => ?_)
        refine zRs_let (fun v21 _ => ?_)
        refine zRs_if (fun _ => ?_) (fun _ => ?_)
        · skip
          refine zRs_let (fun v30 _ => ?_)
          refine zRs_if (fun _ => ?_) (fun _ => ?_)
          · skip
            refine zRs_let (fun v32 _ => ?_)
            refine zRs_let (fun s33 es33 => ?_)
            have gs33 : zRs R s33 := by rw [es33]; exact rf_X3_take g
            refine zRs_let (fun v34 _ => ?_)
            refine zRs_let (fun v35 _ => ?_)
            refine zRs_let (fun s36 es36 => ?_)
            have gs36 : zRs R s36 := by rw [es36]; exact rf_X3_sum_o2 gs33
            refine zRs_let (fun v37 _ => ?_)
            refine zRs_let (fun s38 es38 => ?_)
            have gs38 : zRs R s38 := by rw [es38]; exact rf_X3_take gs36
            exact gs38
          · skip
            exact g
        · skip
          refine zRs_let (fun v23 _ => ?_)
          refine zRs_let (fun v24 _ => ?_)
          refine zRs_if (fun _ => ?_) (fun _ => ?_)
          · skip
            refine zRs_let (fun v28 _ => ?_)
            refine zRs_let (fun s29 es29 => ?_)
            have gs29 : zRs R s29 := by rw [es29]; exact rf_X3_fail g
            exact gs29
          · skip
            refine zRs_let (fun v26 _ => ?_)
            refine zRs_let (fun s27 es27 => ?_)
            have gs27 : zRs R s27 := by rw [es27]; exact rf_X3_fail g
            exact gs27
set_option maxRecDepth 100000 in
theorem rf_X3_product_o1_7 {R : Nat → Nat → Option Nat} {a0 : Nat} {p1 : Int32}  : ∀ (n : Nat) (x3 : Int32) (τ4 : zS), zRs R τ4 → zRs R (F_X3_product_o1_7 a0 p1 n x3 τ4) := by
  intro n
  induction n with
  | zero => intro x3 τ4 g; exact g
  | succ n ih =>
    intro x3 τ4 g
    rw [F_X3_product_o1_7]
    refine zRs_let (fun v5 _ => ?_)
    refine zRs_if (fun _ => ?_) (fun _ => ?_)
    · skip
      exact g
    · skip
      refine zRs_let (fun v7 _ => ?_)
      refine zRs_let (fun v8 _ => ?_)
      refine zRs_let (fun v9 _ => ?_)
      refine zRs_let (fun v10 _ => ?_)
      refine zRs_if (fun _ => ?_) (fun _ => ?_)
      · skip
        exact g
      · skip
        refine zRs_let (fun v12 _ => ?_)
        refine zRs_let (fun s13 es13 => ?_)
        have gs13 : zRs R s13 := by rw [es13]; exact rf_X3_take g
        refine zRs_let (fun s14 es14 => ?_)
        have gs14 : zRs R s14 := by rw [es14]; exact rf_X3_unit_o1 gs13
        refine zRs_let (fun v15 _ => ?_)
        refine zRs_let (fun v16 _ => ?_)
        refine zRs_if (fun _ => ?_) (fun _ => ?_)
        · skip
          refine zRs_let (fun v22 _ => ?_)
          refine zRs_let (fun v23 _ => ?_)
          refine zRs_let (fun s24 es24 => ?_)
          have gs24 : zRs R s24 := by rw [es24]; exact rf_X9_addStep gs14
          refine zRs_let (fun v25 _ => ?_)
          exact ih _ _ gs24
        · skip
          refine zRs_let (fun v18 _ => ?_)
          refine zRs_let (fun v19 _ => ?_)
          refine zRs_let (fun s20 es20 => ?_)
          have gs20 : zRs R s20 := by rw [es20]; exact rf_X9_addStep gs14
          refine zRs_let (fun v21 _ => ?_)
          exact ih _ _ gs20
set_option maxRecDepth 100000 in
theorem rf_X3_product_o1 {R : Nat → Nat → Option Nat} {σ0 : zS} {a0 : Nat} {p1 : Int32}  (g : zRs R σ0) : zRs R (F_X3_product_o1 a0 p1 σ0) := by
  unfold F_X3_product_o1
  refine zRs_let (fun s1 es1 => ?_)
  have gs1 : zRs R s1 := by rw [es1]; exact rf_X3_unit_o1 g
  refine zRs_let (fun v2 _ => ?_)
  exact rf_X3_product_o1_7  _ _ _ gs1
set_option maxRecDepth 100000 in
theorem rf_X3_sum_o1_7 {R : Nat → Nat → Option Nat} {a0 : Nat} {p1 : Int32}  : ∀ (n : Nat) (x3 : Int32) (τ4 : zS), zRs R τ4 → zRs R (F_X3_sum_o1_7 a0 p1 n x3 τ4) := by
  intro n
  induction n with
  | zero => intro x3 τ4 g; exact g
  | succ n ih =>
    intro x3 τ4 g
    rw [F_X3_sum_o1_7]
    refine zRs_let (fun v5 _ => ?_)
    refine zRs_if (fun _ => ?_) (fun _ => ?_)
    · skip
      exact g
    · skip
      refine zRs_let (fun v7 _ => ?_)
      refine zRs_let (fun v8 _ => ?_)
      refine zRs_let (fun v9 _ => ?_)
      refine zRs_let (fun v10 _ => ?_)
      refine zRs_if (fun _ => ?_) (fun _ => ?_)
      · skip
        exact g
      · skip
        refine zRs_let (fun v12 _ => ?_)
        refine zRs_let (fun s13 es13 => ?_)
        have gs13 : zRs R s13 := by rw [es13]; exact rf_X3_take g
        refine zRs_let (fun s14 es14 => ?_)
        have gs14 : zRs R s14 := by rw [es14]; exact rf_X3_product_o1 gs13
        refine zRs_let (fun v15 _ => ?_)
        refine zRs_let (fun v16 _ => ?_)
        refine zRs_if (fun _ => ?_) (fun _ => ?_)
        · skip
          refine zRs_let (fun v22 _ => ?_)
          refine zRs_let (fun v23 _ => ?_)
          refine zRs_let (fun s24 es24 => ?_)
          have gs24 : zRs R s24 := by rw [es24]; exact rf_X9_addStep gs14
          refine zRs_let (fun v25 _ => ?_)
          exact ih _ _ gs24
        · skip
          refine zRs_let (fun v18 _ => ?_)
          refine zRs_let (fun v19 _ => ?_)
          refine zRs_let (fun s20 es20 => ?_)
          have gs20 : zRs R s20 := by rw [es20]; exact rf_X9_addStep gs14
          refine zRs_let (fun v21 _ => ?_)
          exact ih _ _ gs20
set_option maxRecDepth 100000 in
theorem rf_X3_sum_o1 {R : Nat → Nat → Option Nat} {σ0 : zS} {a0 : Nat} {p1 : Int32}  (g : zRs R σ0) : zRs R (F_X3_sum_o1 a0 p1 σ0) := by
  unfold F_X3_sum_o1
  refine zRs_let (fun s1 es1 => ?_)
  have gs1 : zRs R s1 := by rw [es1]; exact rf_X3_product_o1 g
  refine zRs_let (fun v2 _ => ?_)
  exact rf_X3_sum_o1_7  _ _ _ gs1
set_option maxRecDepth 100000 in
theorem rf_X3_unit_o0 {R : Nat → Nat → Option Nat} {σ0 : zS} {a0 : Nat} {p1 : Int32}  (g : zRs R σ0) : zRs R (F_X3_unit_o0 a0 p1 σ0) := by
  unfold F_X3_unit_o0
  refine zRs_let (fun v1 _ => ?_)
  refine zRs_let (fun v2 _ => ?_)
  refine zRs_if (fun _ => ?_) (fun _ => ?_)
  · skip
    refine zRs_let (fun v47 _ => ?_)
    refine zRs_let (fun v48 _ => ?_)
    refine zRs_let (fun v49 _ => ?_)
    refine zRs_let (fun v50 _ => ?_)
    refine zRs_let (fun s51 es51 => ?_)
    have gs51 : zRs R s51 := by rw [es51]; exact rf_X9_addStep g
    refine zRs_let (fun v52 _ => ?_)
    refine zRs_let (fun s53 es53 => ?_)
    have gs53 : zRs R s53 := by rw [es53]; exact rf_X3_take gs51
    exact gs53
  · skip
    refine zRs_let (fun v4 _ => ?_)
    refine zRs_let (fun v5 _ => ?_)
    refine zRs_if (fun _ => ?_) (fun _ => ?_)
    · skip
      refine zRs_let (fun v8 _ => ?_)
      refine zRs_let (fun v9 _ => ?_)
      refine zRs_if (fun _ => ?_) (fun _ => ?_)
      · skip
        exact g
      · skip
        refine zRs_let (fun v11 _ => ?_)
        refine zRs_let (fun v12 _ => ?_)
        refine zRs_if (fun _ => ?_) (fun _ => ?_)
        · skip
          exact g
        · skip
          refine zRs_let (fun v14 _ => ?_)
          refine zRs_let (fun s15 es15 => ?_)
          have gs15 : zRs R s15 := by rw [es15]; exact rf_X3_fail g
          exact gs15
    · skip
      refine zRs_let (fun v16 _ => ?_)
      refine zRs_let (fun v17 _ => ?_)
      refine zRs_if (fun _ => ?_) (fun _ => ?_)
      · skip
        refine zRs_let (fun v39 _ => ?_)
        refine zRs_let (fun v40 _ => ?_)
        refine zRs_let (fun v41 _ => ?_)
        refine zRs_let (fun v42 _ => ?_)
        refine zRs_let (fun v43 _ => ?_)
        refine zRs_let (fun s44 es44 => ?_)
        have gs44 : zRs R s44 := by rw [es44]; exact rf_X9_addStep g
        refine zRs_let (fun v45 _ => ?_)
        refine zRs_let (fun s46 es46 => ?_)
        have gs46 : zRs R s46 := by rw [es46]; exact rf_X3_take gs44
        exact gs46
      · skip
        refine zRs_let (fun v20 _ => ?_)
        refine zRs_let (fun v21 _ => ?_)
        refine zRs_if (fun _ => ?_) (fun _ => ?_)
        · skip
          refine zRs_let (fun v30 _ => ?_)
          refine zRs_if (fun _ => ?_) (fun _ => ?_)
          · skip
            refine zRs_let (fun v32 _ => ?_)
            refine zRs_let (fun s33 es33 => ?_)
            have gs33 : zRs R s33 := by rw [es33]; exact rf_X3_take g
            refine zRs_let (fun v34 _ => ?_)
            refine zRs_let (fun v35 _ => ?_)
            refine zRs_let (fun s36 es36 => ?_)
            have gs36 : zRs R s36 := by rw [es36]; exact rf_X3_sum_o1 gs33
            refine zRs_let (fun v37 _ => ?_)
            refine zRs_let (fun s38 es38 => ?_)
            have gs38 : zRs R s38 := by rw [es38]; exact rf_X3_take gs36
            exact gs38
          · skip
            exact g
        · skip
          refine zRs_let (fun v23 _ => ?_)
          refine zRs_let (fun v24 _ => ?_)
          refine zRs_if (fun _ => ?_) (fun _ => ?_)
          · skip
            refine zRs_let (fun v28 _ => ?_)
            refine zRs_let (fun s29 es29 => ?_)
            have gs29 : zRs R s29 := by rw [es29]; exact rf_X3_fail g
            exact gs29
          · skip
            refine zRs_let (fun v26 _ => ?_)
            refine zRs_let (fun s27 es27 => ?_)
            have gs27 : zRs R s27 := by rw [es27]; exact rf_X3_fail g
            exact gs27
set_option maxRecDepth 100000 in
theorem rf_X3_product_o0_7 {R : Nat → Nat → Option Nat} {a0 : Nat} {p1 : Int32}  : ∀ (n : Nat) (x3 : Int32) (τ4 : zS), zRs R τ4 → zRs R (F_X3_product_o0_7 a0 p1 n x3 τ4) := by
  intro n
  induction n with
  | zero => intro x3 τ4 g; exact g
  | succ n ih =>
    intro x3 τ4 g
    rw [F_X3_product_o0_7]
    refine zRs_let (fun v5 _ => ?_)
    refine zRs_if (fun _ => ?_) (fun _ => ?_)
    · skip
      exact g
    · skip
      refine zRs_let (fun v7 _ => ?_)
      refine zRs_let (fun v8 _ => ?_)
      refine zRs_let (fun v9 _ => ?_)
      refine zRs_let (fun v10 _ => ?_)
      refine zRs_if (fun _ => ?_) (fun _ => ?_)
      · skip
        exact g
      · skip
        refine zRs_let (fun v12 _ => ?_)
        refine zRs_let (fun s13 es13 => ?_)
        have gs13 : zRs R s13 := by rw [es13]; exact rf_X3_take g
        refine zRs_let (fun s14 es14 => ?_)
        have gs14 : zRs R s14 := by rw [es14]; exact rf_X3_unit_o0 gs13
        refine zRs_let (fun v15 _ => ?_)
        refine zRs_let (fun v16 _ => ?_)
        refine zRs_if (fun _ => ?_) (fun _ => ?_)
        · skip
          refine zRs_let (fun v22 _ => ?_)
          refine zRs_let (fun v23 _ => ?_)
          refine zRs_let (fun s24 es24 => ?_)
          have gs24 : zRs R s24 := by rw [es24]; exact rf_X9_addStep gs14
          refine zRs_let (fun v25 _ => ?_)
          exact ih _ _ gs24
        · skip
          refine zRs_let (fun v18 _ => ?_)
          refine zRs_let (fun v19 _ => ?_)
          refine zRs_let (fun s20 es20 => ?_)
          have gs20 : zRs R s20 := by rw [es20]; exact rf_X9_addStep gs14
          refine zRs_let (fun v21 _ => ?_)
          exact ih _ _ gs20
set_option maxRecDepth 100000 in
theorem rf_X3_product_o0 {R : Nat → Nat → Option Nat} {σ0 : zS} {a0 : Nat} {p1 : Int32}  (g : zRs R σ0) : zRs R (F_X3_product_o0 a0 p1 σ0) := by
  unfold F_X3_product_o0
  refine zRs_let (fun s1 es1 => ?_)
  have gs1 : zRs R s1 := by rw [es1]; exact rf_X3_unit_o0 g
  refine zRs_let (fun v2 _ => ?_)
  exact rf_X3_product_o0_7  _ _ _ gs1
set_option maxRecDepth 100000 in
theorem rf_X3_sum_o0_7 {R : Nat → Nat → Option Nat} {a0 : Nat} {p1 : Int32}  : ∀ (n : Nat) (x3 : Int32) (τ4 : zS), zRs R τ4 → zRs R (F_X3_sum_o0_7 a0 p1 n x3 τ4) := by
  intro n
  induction n with
  | zero => intro x3 τ4 g; exact g
  | succ n ih =>
    intro x3 τ4 g
    rw [F_X3_sum_o0_7]
    refine zRs_let (fun v5 _ => ?_)
    refine zRs_if (fun _ => ?_) (fun _ => ?_)
    · skip
      exact g
    · skip
      refine zRs_let (fun v7 _ => ?_)
      refine zRs_let (fun v8 _ => ?_)
      refine zRs_let (fun v9 _ => ?_)
      refine zRs_let (fun v10 _ => ?_)
      refine zRs_if (fun _ => ?_) (fun _ => ?_)
      · skip
        exact g
      · skip
        refine zRs_let (fun v12 _ => ?_)
        refine zRs_let (fun s13 es13 => ?_)
        have gs13 : zRs R s13 := by rw [es13]; exact rf_X3_take g
        refine zRs_let (fun s14 es14 => ?_)
        have gs14 : zRs R s14 := by rw [es14]; exact rf_X3_product_o0 gs13
        refine zRs_let (fun v15 _ => ?_)
        refine zRs_let (fun v16 _ => ?_)
        refine zRs_if (fun _ => ?_) (fun _ => ?_)
        · skip
          refine zRs_let (fun v22 _ => ?_)
          refine zRs_let (fun v23 _ => ?_)
          refine zRs_let (fun s24 es24 => ?_)
          have gs24 : zRs R s24 := by rw [es24]; exact rf_X9_addStep gs14
          refine zRs_let (fun v25 _ => ?_)
          exact ih _ _ gs24
        · skip
          refine zRs_let (fun v18 _ => ?_)
          refine zRs_let (fun v19 _ => ?_)
          refine zRs_let (fun s20 es20 => ?_)
          have gs20 : zRs R s20 := by rw [es20]; exact rf_X9_addStep gs14
          refine zRs_let (fun v21 _ => ?_)
          exact ih _ _ gs20
set_option maxRecDepth 100000 in
theorem rf_X3_sum_o0 {R : Nat → Nat → Option Nat} {σ0 : zS} {a0 : Nat} {p1 : Int32}  (g : zRs R σ0) : zRs R (F_X3_sum_o0 a0 p1 σ0) := by
  unfold F_X3_sum_o0
  refine zRs_let (fun s1 es1 => ?_)
  have gs1 : zRs R s1 := by rw [es1]; exact rf_X3_product_o0 g
  refine zRs_let (fun v2 _ => ?_)
  exact rf_X3_sum_o0_7  _ _ _ gs1
set_option maxRecDepth 100000 in
theorem rf_X9_setValue {R : Nat → Nat → Option Nat} {σ0 : zS} {a0 : Nat} {p1 : Int32} {p2 : Int32}  (g : zRs R σ0) : zRs R (F_X9_setValue a0 p1 p2 σ0) := by
  unfold F_X9_setValue
  refine zRs_if (fun _ => ?_) (fun _ => ?_)
  · skip
    exact g
  · skip
    refine zRs_let (fun v2 _ => ?_)
    refine zRs_if (fun _ => ?_) (fun _ => ?_)
    · skip
      refine zRs_let (fun v5 _ => ?_)
      refine zRs_let (fun s6 es6 => ?_)
      have gs6 : zRs R s6 := by rw [es6]; exact g
      exact gs6
    · skip
      exact g
set_option maxRecDepth 100000 in
theorem rf_X3_law_23 {R : Nat → Nat → Option Nat} {v7 : Int32} {a0 : Nat} {p1 : Int32}  : ∀ (n : Nat) (x9 : Int32) (τ10 : zS), zRs R τ10 → zRs R (F_X3_law_23 v7 a0 p1 n x9 τ10) := by
  intro n
  induction n with
  | zero => intro x9 τ10 g; exact g
  | succ n ih =>
    intro x9 τ10 g
    rw [F_X3_law_23]
    refine zRs_let (fun v11 _ => ?_)
    refine zRs_if (fun _ => ?_) (fun _ => ?_)
    · skip
      refine zRs_let (fun v13 _ => ?_)
      refine zRs_let (fun s14 es14 => ?_)
      have gs14 : zRs R s14 := by rw [es14]; exact rf_X3_sum_o0 g
      refine zRs_let (fun v15 _ => ?_)
      refine zRs_let (fun v16 _ => ?_)
      refine zRs_let (fun v17 _ => ?_)
      refine zRs_let (fun s18 es18 => ?_)
      have gs18 : zRs R s18 := by rw [es18]; exact rf_X9_addStep gs14
      refine zRs_let (fun v19 _ => ?_)
      refine zRs_let (fun v20 _ => ?_)
      refine zRs_let (fun s21 es21 => ?_)
      have gs21 : zRs R s21 := by rw [es21]; exact gs18
      exact gs21
    · skip
      refine zRs_let (fun v22 _ => ?_)
      refine zRs_let (fun v23 _ => ?_)
      refine zRs_if (fun _ => ?_) (fun _ => ?_)
      · skip
        refine zRs_let (fun v34 _ => ?_)
        refine zRs_if (fun _ => ?_) (fun _ => ?_)
        · skip
          refine zRs_let (fun v65 _ => ?_)
          refine zRs_let (fun s66 es66 => ?_)
          have gs66 : zRs R s66 := by rw [es66]; exact rf_X3_fail g
          refine zRs_let (fun v67 _ => ?_)
          refine zRs_let (fun s68 es68 => ?_)
          have gs68 : zRs R s68 := by rw [es68]; exact rf_X3_take gs66
          refine zRs_let (fun v69 _ => ?_)
          refine zRs_let (fun s70 es70 => ?_)
          have gs70 : zRs R s70 := by rw [es70]; exact rf_X3_sum_o0 gs68
          refine zRs_let (fun v71 _ => ?_)
          refine zRs_let (fun s72 es72 => ?_)
          have gs72 : zRs R s72 := by rw [es72]; exact rf_X3_take gs70
          refine zRs_let (fun v73 _ => ?_)
          refine zRs_let (fun s74 es74 => ?_)
          have gs74 : zRs R s74 := by rw [es74]; exact rf_X3_sum_o0 gs72
          refine zRs_let (fun v75 _ => ?_)
          refine zRs_let (fun s76 es76 => ?_)
          have gs76 : zRs R s76 := by rw [es76]; exact rf_X3_take gs74
          refine zRs_let (fun v77 _ => ?_)
          refine zRs_let (fun v78 _ => ?_)
          refine zRs_let (fun v79 _ => ?_)
          refine zRs_let (fun v80 _ => ?_)
          refine zRs_let (fun v81 _ => ?_)
          refine zRs_let (fun s82 es82 => ?_)
          have gs82 : zRs R s82 := by rw [es82]; exact rf_X9_addStep gs76
          refine zRs_let (fun v83 _ => ?_)
          refine zRs_let (fun s84 es84 => ?_)
          have gs84 : zRs R s84 := by rw [es84]; exact rf_X3_sum_o0 gs82
          refine zRs_let (fun v85 _ => ?_)
          refine zRs_let (fun s86 es86 => ?_)
          have gs86 : zRs R s86 := by rw [es86]; exact rf_X3_take gs84
          refine zRs_let (fun v87 _ => ?_)
          refine zRs_let (fun v88 _ => ?_)
          refine zRs_let (fun v89 _ => ?_)
          refine zRs_let (fun s90 es90 => ?_)
          have gs90 : zRs R s90 := by rw [es90]; exact rf_X9_addStep gs86
          refine zRs_let (fun v91 _ => ?_)
          refine zRs_let (fun v92 _ => ?_)
          refine zRs_let (fun v93 _ => ?_)
          refine zRs_let (fun s94 es94 => ?_)
          have gs94 : zRs R s94 := by rw [es94]; exact rf_X9_setValue gs90
          refine zRs_let (fun v95 _ => ?_)
          exact ih _ _ gs94
        · skip
          refine zRs_let (fun v36 _ => ?_)
          refine zRs_let (fun s37 es37 => ?_)
          have gs37 : zRs R s37 := by rw [es37]; exact rf_X3_take g
          refine zRs_let (fun v38 _ => ?_)
          refine zRs_let (fun s39 es39 => ?_)
          have gs39 : zRs R s39 := by rw [es39]; exact rf_X3_sum_o0 gs37
          refine zRs_let (fun v40 _ => ?_)
          refine zRs_let (fun s41 es41 => ?_)
          have gs41 : zRs R s41 := by rw [es41]; exact rf_X3_take gs39
          refine zRs_let (fun v42 _ => ?_)
          refine zRs_let (fun s43 es43 => ?_)
          have gs43 : zRs R s43 := by rw [es43]; exact rf_X3_sum_o0 gs41
          refine zRs_let (fun v44 _ => ?_)
          refine zRs_let (fun s45 es45 => ?_)
          have gs45 : zRs R s45 := by rw [es45]; exact rf_X3_take gs43
          refine zRs_let (fun v46 _ => ?_)
          refine zRs_let (fun v47 _ => ?_)
          refine zRs_let (fun v48 _ => ?_)
          refine zRs_let (fun v49 _ => ?_)
          refine zRs_let (fun v50 _ => ?_)
          refine zRs_let (fun s51 es51 => ?_)
          have gs51 : zRs R s51 := by rw [es51]; exact rf_X9_addStep gs45
          refine zRs_let (fun v52 _ => ?_)
          refine zRs_let (fun s53 es53 => ?_)
          have gs53 : zRs R s53 := by rw [es53]; exact rf_X3_sum_o0 gs51
          refine zRs_let (fun v54 _ => ?_)
          refine zRs_let (fun s55 es55 => ?_)
          have gs55 : zRs R s55 := by rw [es55]; exact rf_X3_take gs53
          refine zRs_let (fun v56 _ => ?_)
          refine zRs_let (fun v57 _ => ?_)
          refine zRs_let (fun v58 _ => ?_)
          refine zRs_let (fun s59 es59 => ?_)
          have gs59 : zRs R s59 := by rw [es59]; exact rf_X9_addStep gs55
          refine zRs_let (fun v60 _ => ?_)
          refine zRs_let (fun v61 _ => ?_)
          refine zRs_let (fun v62 _ => ?_)
          refine zRs_let (fun s63 es63 => ?_)
          have gs63 : zRs R s63 := by rw [es63]; exact rf_X9_setValue gs59
          refine zRs_let (fun v64 _ => ?_)
          exact ih _ _ gs63
      · skip
        refine zRs_let (fun v25 _ => ?_)
        refine zRs_let (fun s26 es26 => ?_)
        have gs26 : zRs R s26 := by rw [es26]; exact rf_X3_sum_o0 g
        refine zRs_let (fun v27 _ => ?_)
        refine zRs_let (fun v28 _ => ?_)
        refine zRs_let (fun v29 _ => ?_)
        refine zRs_let (fun s30 es30 => ?_)
        have gs30 : zRs R s30 := by rw [es30]; exact rf_X9_addStep gs26
        refine zRs_let (fun v31 _ => ?_)
        refine zRs_let (fun v32 _ => ?_)
        refine zRs_let (fun s33 es33 => ?_)
        have gs33 : zRs R s33 := by rw [es33]; exact gs30
        exact gs33
set_option maxRecDepth 100000 in
theorem rf_X3_law {R : Nat → Nat → Option Nat} {σ0 : zS} {a0 : Nat} {p1 : Int32}  (g : zRs R σ0) : zRs R (F_X3_law a0 p1 σ0) := by
  unfold F_X3_law
  refine zRs_let (fun v1 _ => ?_)
  refine zRs_let (fun v2 _ => ?_)
  refine zRs_let (fun s3 es3 => ?_)
  have gs3 : zRs R s3 := by rw [es3]; exact rf_X3_take g
  refine zRs_let (fun v4 _ => ?_)
  refine zRs_let (fun s5 es5 => ?_)
  have gs5 : zRs R s5 := by rw [es5]; exact rf_X3_take gs3
  refine zRs_let (fun v6 _ => ?_)
  refine zRs_let (fun v7 _ => ?_)
  refine zRs_let (fun v8 _ => ?_)
  exact rf_X3_law_23  _ _ _ gs5
set_option maxRecDepth 100000 in
theorem rf_X3_telling {R : Nat → Nat → Option Nat} {σ0 : zS} {a0 : Nat}  (g : zRs R σ0) : zRs R (F_X3_telling a0 σ0) := by
  unfold F_X3_telling
  refine zRs_let (fun v1 _ => ?_)
  refine zRs_if (fun _ => ?_) (fun _ => ?_)
  · skip
    refine zRs_let (fun s69 es69 => ?_)
    have gs69 : zRs R s69 := by rw [es69]; exact rf_X3_mouth g
    refine zRs_let (fun v70 _ => ?_)
    refine zRs_let (fun s71 es71 => ?_)
    have gs71 : zRs R s71 := by rw [es71]; exact rf_X3_take gs69
    exact gs71
  · skip
    refine zRs_let (fun v3 _ => ?_)
    refine zRs_let (fun v4 _ => ?_)
    refine zRs_if (fun _ => ?_) (fun _ => ?_)
    · skip
      refine zRs_let (fun s66 es66 => ?_)
      have gs66 : zRs R s66 := by rw [es66]; exact rf_X3_newPlace g
      refine zRs_let (fun v67 _ => ?_)
      refine zRs_let (fun s68 es68 => ?_)
      have gs68 : zRs R s68 := by rw [es68]; exact rf_X3_take gs66
      exact gs68
    · skip
      refine zRs_let (fun v6 _ => ?_)
      refine zRs_let (fun v7 _ => ?_)
      refine zRs_let (fun v8 _ => ?_)
      refine zRs_let (fun v9 _ => ?_)
      refine zRs_if (fun _ => ?_) (fun _ => ?_)
      · skip
        refine zRs_let (fun v11 _ => ?_)
        refine zRs_let (fun v12 _ => ?_)
        refine zRs_if (fun _ => ?_) (fun _ => ?_)
        · skip
          refine zRs_let (fun v44 _ => ?_)
          refine zRs_let (fun s45 es45 => ?_)
          have gs45 : zRs R s45 := by rw [es45]; exact rf_X3_take g
          refine zRs_let (fun v46 _ => ?_)
          refine zRs_let (fun v47 _ => ?_)
          refine zRs_let (fun v48 _ => ?_)
          refine zRs_let2 (fun v49 s50 es50 => ?_)
          have gs50 : zRs R s50 := zRp.of (rf_X3_number gs45) es50
          refine zRs_let (fun s51 es51 => ?_)
          have gs51 : zRs R s51 := by rw [es51]; exact gs50
          refine zRs_let (fun v52 _ => ?_)
          refine zRs_let (fun v53 _ => ?_)
          refine zRs_let (fun v54 _ => ?_)
          refine zRs_let2 (fun v55 s56 es56 => ?_)
          have gs56 : zRs R s56 := zRp.of (rf_X3_number gs51) es56
          refine zRs_let (fun s57 es57 => ?_)
          have gs57 : zRs R s57 := by rw [es57]; exact gs56
          refine zRs_let (fun v58 _ => ?_)
          refine zRs_let (fun s59 es59 => ?_)
          have gs59 : zRs R s59 := by rw [es59]; exact rf_X3_take gs57
          exact gs59
        · skip
          refine zRs_let (fun v14 _ => ?_)
          refine zRs_let (fun v15 _ => ?_)
          refine zRs_if (fun _ => ?_) (fun _ => ?_)
          · skip
            refine zRs_let (fun v34 _ => ?_)
            refine zRs_let (fun s35 es35 => ?_)
            have gs35 : zRs R s35 := by rw [es35]; exact rf_X3_take g
            refine zRs_let (fun v36 _ => ?_)
            refine zRs_let (fun v37 _ => ?_)
            refine zRs_let (fun v38 _ => ?_)
            refine zRs_let2 (fun v39 s40 es40 => ?_)
            have gs40 : zRs R s40 := zRp.of (rf_X3_number gs35) es40
            refine zRs_let (fun s41 es41 => ?_)
            have gs41 : zRs R s41 := by rw [es41]; exact gs40
            refine zRs_let (fun v42 _ => ?_)
            refine zRs_let (fun s43 es43 => ?_)
            have gs43 : zRs R s43 := by rw [es43]; exact rf_X3_take gs41
            exact gs43
          · skip
            refine zRs_let (fun v17 _ => ?_)
            refine zRs_let (fun v18 _ => ?_)
            refine zRs_if (fun _ => ?_) (fun _ => ?_)
            · skip
              refine zRs_let (fun v24 _ => ?_)
              refine zRs_let (fun s25 es25 => ?_)
              have gs25 : zRs R s25 := by rw [es25]; exact rf_X3_take g
              refine zRs_let (fun v26 _ => ?_)
              refine zRs_let (fun v27 _ => ?_)
              refine zRs_let (fun v28 _ => ?_)
              refine zRs_let2 (fun v29 s30 es30 => ?_)
              have gs30 : zRs R s30 := zRp.of (rf_X3_number gs25) es30
              refine zRs_let (fun s31 es31 => ?_)
              have gs31 : zRs R s31 := by rw [es31]; exact gs30
              refine zRs_let (fun v32 _ => ?_)
              refine zRs_let (fun s33 es33 => ?_)
              have gs33 : zRs R s33 := by rw [es33]; exact rf_X3_take gs31
              exact gs33
            · skip
              refine zRs_let (fun v20 _ => ?_)
              refine zRs_let (fun s21 es21 => ?_)
              have gs21 : zRs R s21 := by rw [es21]; exact rf_X3_fail g
              refine zRs_let (fun v22 _ => ?_)
              refine zRs_let (fun s23 es23 => ?_)
              have gs23 : zRs R s23 := by rw [es23]; exact rf_X3_take gs21
              exact gs23
      · skip
        refine zRs_let (fun v60 _ => ?_)
        refine zRs_let (fun v61 _ => ?_)
        refine zRs_let (fun v62 _ => ?_)
        refine zRs_let (fun s63 es63 => ?_)
        have gs63 : zRs R s63 := by rw [es63]; exact rf_X3_law g
        refine zRs_let (fun v64 _ => ?_)
        refine zRs_let (fun s65 es65 => ?_)
        have gs65 : zRs R s65 := by rw [es65]; exact rf_X3_take gs63
        exact gs65
set_option maxRecDepth 100000 in
theorem rf_X3_parse_59 {R : Nat → Nat → Option Nat} {a0 : Nat} {p1 : Nat} {p2 : Int32} {p3 : Nat}  : ∀ (n : Nat) (x25 : Int32) (τ26 : zS), zRs R τ26 → zRp R (F_X3_parse_59 a0 p1 p2 p3 n x25 τ26) := by
  intro n
  induction n with
  | zero => intro x25 τ26 g; exact g
  | succ n ih =>
    intro x25 τ26 g
    rw [F_X3_parse_59]
    refine zRp_let (fun v27 _ => ?_)
    refine zRp_if (fun _ => ?_) (fun _ => ?_)
    · skip
      refine zRp_let (fun v29 _ => ?_)
      refine zRp_if (fun _ => ?_) (fun _ => ?_)
      · skip
        refine zRp_let (fun v44 _ => ?_)
        refine zRp_let (fun s45 es45 => ?_)
        have gs45 : zRs R s45 := by rw [es45]; exact g
        refine zRp_let (fun v48 _ => ?_)
        refine zRp_let (fun s49 es49 => ?_)
        have gs49 : zRs R s49 := by rw [es49]; exact gs45
        refine zRp_let (fun v51 _ => ?_)
        refine zRp_let (fun v52 _ => ?_)
        refine zRp_if (fun _ => ?_) (fun _ => ?_)
        · skip
          refine zRp_let (fun v54 _ => ?_)
          refine zRp_let (fun s55 es55 => ?_)
          have gs55 : zRs R s55 := by rw [es55]; exact gs49
          refine zRp_let (fun v57 _ => ?_)
          exact gs55
        · skip
          refine zRp_let (fun v58 _ => ?_)
          refine zRp_let (fun v59 _ => ?_)
          refine zRp_let (fun v60 _ => ?_)
          refine zRp_let (fun s61 es61 => ?_)
          have gs61 : zRs R s61 := by rw [es61]; exact gs49
          refine zRp_let (fun v63 _ => ?_)
          exact gs61
      · skip
        refine zRp_let (fun v31 _ => ?_)
        refine zRp_let (fun v32 _ => ?_)
        refine zRp_if (fun _ => ?_) (fun _ => ?_)
        · skip
          refine zRp_let (fun v34 _ => ?_)
          refine zRp_let (fun s35 es35 => ?_)
          have gs35 : zRs R s35 := by rw [es35]; exact g
          refine zRp_let (fun v37 _ => ?_)
          exact gs35
        · skip
          refine zRp_let (fun v38 _ => ?_)
          refine zRp_let (fun v39 _ => ?_)
          refine zRp_let (fun v40 _ => ?_)
          refine zRp_let (fun s41 es41 => ?_)
          have gs41 : zRs R s41 := by rw [es41]; exact g
          refine zRp_let (fun v43 _ => ?_)
          exact gs41
    · skip
      refine zRp_let (fun v64 _ => ?_)
      refine zRp_if (fun _ => ?_) (fun _ => ?_)
      · skip
        refine zRp_let (fun v101 _ => ?_)
        refine zRp_let (fun v102 _ => ?_)
        refine zRp_if (fun _ => ?_) (fun _ => ?_)
        · skip
          refine zRp_let (fun v104 _ => ?_)
          refine zRp_if (fun _ => ?_) (fun _ => ?_)
          · skip
            refine zRp_let (fun v106 _ => ?_)
            refine zRp_let (fun s107 es107 => ?_)
            have gs107 : zRs R s107 := by rw [es107]; exact g
            refine zRp_let (fun v110 _ => ?_)
            refine zRp_let (fun s111 es111 => ?_)
            have gs111 : zRs R s111 := by rw [es111]; exact gs107
            refine zRp_let (fun v113 _ => ?_)
            refine zRp_let (fun v114 _ => ?_)
            refine zRp_if (fun _ => ?_) (fun _ => ?_)
            · skip
              refine zRp_let (fun v116 _ => ?_)
              refine zRp_let (fun s117 es117 => ?_)
              have gs117 : zRs R s117 := by rw [es117]; exact gs111
              refine zRp_let (fun v119 _ => ?_)
              exact gs117
            · skip
              refine zRp_let (fun v120 _ => ?_)
              refine zRp_let (fun v121 _ => ?_)
              refine zRp_let (fun v122 _ => ?_)
              refine zRp_let (fun s123 es123 => ?_)
              have gs123 : zRs R s123 := by rw [es123]; exact gs111
              refine zRp_let (fun v125 _ => ?_)
              exact gs123
          · skip
            exact g
        · skip
          refine zRp_let (fun s126 es126 => ?_)
          have gs126 : zRs R s126 := by rw [es126]; exact rf_X3_telling g
          refine zRp_let (fun v127 _ => ?_)
          exact ih _ _ gs126
      · skip
        refine zRp_let (fun v66 _ => ?_)
        refine zRp_if (fun _ => ?_) (fun _ => ?_)
        · skip
          refine zRp_let (fun v81 _ => ?_)
          refine zRp_let (fun s82 es82 => ?_)
          have gs82 : zRs R s82 := by rw [es82]; exact g
          refine zRp_let (fun v85 _ => ?_)
          refine zRp_let (fun s86 es86 => ?_)
          have gs86 : zRs R s86 := by rw [es86]; exact gs82
          refine zRp_let (fun v88 _ => ?_)
          refine zRp_let (fun v89 _ => ?_)
          refine zRp_if (fun _ => ?_) (fun _ => ?_)
          · skip
            refine zRp_let (fun v91 _ => ?_)
            refine zRp_let (fun s92 es92 => ?_)
            have gs92 : zRs R s92 := by rw [es92]; exact gs86
            refine zRp_let (fun v94 _ => ?_)
            exact gs92
          · skip
            refine zRp_let (fun v95 _ => ?_)
            refine zRp_let (fun v96 _ => ?_)
            refine zRp_let (fun v97 _ => ?_)
            refine zRp_let (fun s98 es98 => ?_)
            have gs98 : zRs R s98 := by rw [es98]; exact gs86
            refine zRp_let (fun v100 _ => ?_)
            exact gs98
        · skip
          refine zRp_let (fun v68 _ => ?_)
          refine zRp_let (fun v69 _ => ?_)
          refine zRp_if (fun _ => ?_) (fun _ => ?_)
          · skip
            refine zRp_let (fun v71 _ => ?_)
            refine zRp_let (fun s72 es72 => ?_)
            have gs72 : zRs R s72 := by rw [es72]; exact g
            refine zRp_let (fun v74 _ => ?_)
            exact gs72
          · skip
            refine zRp_let (fun v75 _ => ?_)
            refine zRp_let (fun v76 _ => ?_)
            refine zRp_let (fun v77 _ => ?_)
            refine zRp_let (fun s78 es78 => ?_)
            have gs78 : zRs R s78 := by rw [es78]; exact g
            refine zRp_let (fun v80 _ => ?_)
            exact gs78
