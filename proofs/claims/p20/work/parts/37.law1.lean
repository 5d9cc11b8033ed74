set_option maxHeartbeats 40000000 in
set_option maxRecDepth 100000 in
theorem zl_loop {p : Program} {e : Env} {s : State} {m : MethodId} {below : List Frame} {meth : Method} {c : Code} (l : Launch) (d : zD2) {A : Nat → Prop} {Q : State → Prop} {b N : Nat} {xs : Nat → Int32} (hL : N ≤ 3072) (X : zX d [] (fun _ => 0) A 4 p s m #[Value.ref b] c cL_law RL) (hX : va_X b N xs s s.heap) (hbl : b < s.heap.size) (hbA : ¬ A b) (L1 L2 : List Nat) (kd1 kd2 : Nat → Nat) (x0 m0 : Nat) (hx0 : zT L1 kd1 x0 10) (hm0 : zT L2 kd2 m0 11)
    (fin : ∀ {rs : va_W} {L : List Nat} {kd : Nat → Nat} {σ : zS} (pc : Nat) (lv : List (Nat × Value)), decode cL_law pc = .ok (.ireturn, 1) → zGc rs 276 18999 d L kd A 4 p l e room_1 s m #[Value.ref b] below meth c Q σ pc lv [.int 1]) :
    ∀ (n : Nat) (κ : Int) (σ1 σ2 : zS) (x : Int32), zI κ 0 L1 kd1 σ1 → zJ κ L2 kd2 σ2 → zRP κ L1 kd1 L2 kd2 x0 m0 σ1 σ2 → gN m0 σ2 → gH m0 σ2 → gE m0 σ2 → gL m0 σ2 → gK m0 σ2 → 0 ≤ x.toInt ∧ x.toInt ≤ 3072 → 3072 - x.toInt < (n : Int) → zGc (zW d.2.2 L2 kd2 σ2) 276 18999 d L1 kd1 A 4 p l e room_1 s m #[Value.ref b] below meth c Q σ1 18 [(3, .int x), (2, .ref m0), (1, .ref x0), (0, .ref b)] [] := by
  intro n
  induction n with
  | zero => intro κ σ1 σ2 x hI1 hI2 hM hgN hgH hgE hgL hgK hx hm; exact absurd hm (by omega)
  | succ n ihLp =>
    intro κ σ1 σ2 x hI1 hI2 hM hgN hgH hgE hgL hgK hx hm
    have X : zX d L1 kd1 A 4 p s m #[Value.ref b] c cL_law RL := X
    refine zg_iload_n X 0 rfl dL_law_18 ?_
    refine zg_aload_n X 3 rfl dL_law_19 ?_
    refine zg_slenX X hX hbl hbA hL dL_law_20 (fun v1 hv1 => ?_)
    refine zg_bipush X 6 dL_law_21 (by decide) (fun v2 _ hv2 => ?_)
    refine zg_isub X dL_law_23 (by omega) (by omega) (fun v3 ev3 hv3 => ?_)
    refine zg_icmp_gt X 1447 dL_law_24 (by decide) (fun c4 => ?_) (fun c4 => ?_)
    · skip
      refine zg_iconst X 1 dL_law_1447 (by decide) (fun v5 _ hv5 => ?_)
      have e1 : v5 = 1 := Int32.toInt_inj.mp (by rw [hv5]; rfl)
      subst e1
      exact fin _ _ dL_law_1448
    · skip
      refine zg_aload_n X 3 rfl dL_law_27 ?_
      refine zg_iload_n X 0 rfl dL_law_28 ?_
      refine zg_sld X hX hbl hbA (by omega) (by omega) dL_law_29 (fun v6 ev6 => ?_)
      refine zg_bipush X 63 dL_law_30 (by decide) (fun v7 _ hv7 => ?_)
      refine zg_iandW X dL_law_32 (fun v8 ev8 => ?_)
      by_cases q9 : v8.toInt = 0
      · refine zg_tabIn X 220 0 dL_law_33 q9 (by decide) (by decide) rfl (by decide) ?_
        refine zg_aload_n X 2 rfl dL_law_220 ?_
        refine zg_aload_n X 3 rfl dL_law_221 ?_
        refine zg_iload_n X 0 rfl dL_law_222 ?_
        refine zg_iconst X 1 dL_law_223 (by decide) (fun v10 _ hv10 => ?_)
        refine zg_iadd X dL_law_224 (by omega) (by omega) (fun v11 ev11 hv11 => ?_)
        refine zg_sld X hX hbl hbA (by omega) (by omega) dL_law_225 (fun v12 ev12 => ?_)
        refine zg_aload_n X 3 rfl dL_law_226 ?_
        refine zg_iload_n X 0 rfl dL_law_227 ?_
        refine zg_iconst X 2 dL_law_228 (by decide) (fun v13 _ hv13 => ?_)
        refine zg_iadd X dL_law_229 (by omega) (by omega) (fun v14 ev14 hv14 => ?_)
        refine zg_sld X hX hbl hbA (by omega) (by omega) dL_law_230 (fun v15 ev15 => ?_)
        refine zg_aload_n X 3 rfl dL_law_231 ?_
        refine zg_iload_n X 0 rfl dL_law_232 ?_
        refine zg_iconst X 3 dL_law_233 (by decide) (fun v16 _ hv16 => ?_)
        refine zg_iadd X dL_law_234 (by omega) (by omega) (fun v17 ev17 hv17 => ?_)
        refine zg_sld X hX hbl hbA (by omega) (by omega) dL_law_235 (fun v18 ev18 => ?_)
        refine zg_aload_n X 3 rfl dL_law_236 ?_
        refine zg_iload_n X 0 rfl dL_law_237 ?_
        refine zg_iconst X 4 dL_law_238 (by decide) (fun v19 _ hv19 => ?_)
        refine zg_iadd X dL_law_239 (by omega) (by omega) (fun v20 ev20 hv20 => ?_)
        refine zg_sld X hX hbl hbA (by omega) (by omega) dL_law_240 (fun v21 ev21 => ?_)
        refine zg_aload_n X 3 rfl dL_law_241 ?_
        refine zg_iload_n X 0 rfl dL_law_242 ?_
        refine zg_iconst X 5 dL_law_243 (by decide) (fun v22 _ hv22 => ?_)
        refine zg_iadd X dL_law_244 (by omega) (by omega) (fun v23 ev23 hv23 => ?_)
        refine zg_sld X hX hbl hbA (by omega) (by omega) dL_law_245 (fun v24 ev24 => ?_)
        refine zg_cVi (As := [.int v12, .int v15, .int v18, .int v21, .int v24]) (st := []) X hx0 rfl (by decide) rfl (t_X10_feed l d L1 kd1 κ _ hI1 x0 hx0 v12 v15 v18 v21 v24 ) mk_L_13 mc_X10_feed mz_X10 mi_X10_feed ml_X10_feed (na := 5) ⟨md_X10.1, md_X10.2, by decide +kernel⟩ rfl ⟨by decide, by decide⟩ (Nat.le_of_ble_eq_true rfl) dL_law_246 (fun v25 s26 hq => ?_)
        obtain ⟨hFs26, hSs26, hq⟩ := hq
        obtain ⟨ks26, h27, fxs26⟩ : ∃ k : Int, zI k 0 L1 kd1 s26 ∧ ((v25.toInt = -1 ∧ 2000 < κ + 20 ∧ k = κ) ∨ (v25.toInt = κ + 20 ∧ κ + 20 ≤ 2000 ∧ k = κ + 20)) := by
          rcases hq with ⟨q1, q2, q3⟩ | ⟨q1, q2, q3⟩
          · exact ⟨_, q3, Or.inl ⟨q1, q2, rfl⟩⟩
          · exact ⟨_, q3, Or.inr ⟨q1, q2, rfl⟩⟩
        refine zg_pop X dL_law_249 rfl ?_
        refine zg_aload_n X 1 rfl dL_law_250 ?_
        refine zg_aload_n X 3 rfl dL_law_251 ?_
        refine zg_iload_n X 0 rfl dL_law_252 ?_
        refine zg_iconst X 1 dL_law_253 (by decide) (fun v28 _ hv28 => ?_)
        refine zg_iadd X dL_law_254 (by omega) (by omega) (fun v29 ev29 hv29 => ?_)
        refine zg_sld X hX hbl hbA (by omega) (by omega) dL_law_255 (fun v30 ev30 => ?_)
        have wv30 : v30 = v12 := by rw [ev30, ev12, show v29 = v11 from Int32.toInt_inj.mp (by omega)]
        refine zg_aload_n X 3 rfl dL_law_256 ?_
        refine zg_iload_n X 0 rfl dL_law_257 ?_
        refine zg_iconst X 2 dL_law_258 (by decide) (fun v31 _ hv31 => ?_)
        refine zg_iadd X dL_law_259 (by omega) (by omega) (fun v32 ev32 hv32 => ?_)
        refine zg_sld X hX hbl hbA (by omega) (by omega) dL_law_260 (fun v33 ev33 => ?_)
        have wv33 : v33 = v15 := by rw [ev33, ev15, show v32 = v14 from Int32.toInt_inj.mp (by omega)]
        refine zg_aload_n X 3 rfl dL_law_261 ?_
        refine zg_iload_n X 0 rfl dL_law_262 ?_
        refine zg_iconst X 3 dL_law_263 (by decide) (fun v34 _ hv34 => ?_)
        refine zg_iadd X dL_law_264 (by omega) (by omega) (fun v35 ev35 hv35 => ?_)
        refine zg_sld X hX hbl hbA (by omega) (by omega) dL_law_265 (fun v36 ev36 => ?_)
        have wv36 : v36 = v18 := by rw [ev36, ev18, show v35 = v17 from Int32.toInt_inj.mp (by omega)]
        refine zg_aload_n X 3 rfl dL_law_266 ?_
        refine zg_iload_n X 0 rfl dL_law_267 ?_
        refine zg_iconst X 4 dL_law_268 (by decide) (fun v37 _ hv37 => ?_)
        refine zg_iadd X dL_law_269 (by omega) (by omega) (fun v38 ev38 hv38 => ?_)
        refine zg_sld X hX hbl hbA (by omega) (by omega) dL_law_270 (fun v39 ev39 => ?_)
        have wv39 : v39 = v21 := by rw [ev39, ev21, show v38 = v20 from Int32.toInt_inj.mp (by omega)]
        refine zg_aload_n X 3 rfl dL_law_271 ?_
        refine zg_iload_n X 0 rfl dL_law_272 ?_
        refine zg_iconst X 5 dL_law_273 (by decide) (fun v40 _ hv40 => ?_)
        refine zg_iadd X dL_law_274 (by omega) (by omega) (fun v41 ev41 hv41 => ?_)
        refine zg_sld X hX hbl hbA (by omega) (by omega) dL_law_275 (fun v42 ev42 => ?_)
        have wv42 : v42 = v24 := by rw [ev42, ev24, show v41 = v23 from Int32.toInt_inj.mp (by omega)]
        refine zg_swap ?_
        have X : zX d L2 kd2 A 4 p s m #[Value.ref b] c cL_law RL := X
        refine zg_cVi (As := [.int v30, .int v33, .int v36, .int v39, .int v42]) (st := []) X hm0 rfl (by decide) rfl (t_X11_feed l d L2 kd2 κ _ hI2 m0 hm0 v30 v33 v36 v39 v42  hgN hgH hgE hgL) mk_L_17 mc_X11_feed mz_X11 mi_X11_feed ml_X11_feed (na := 5) ⟨md_X11.1, md_X11.2, by decide +kernel⟩ rfl ⟨by decide, by decide⟩ (Nat.le_of_ble_eq_true rfl) dL_law_276 (fun v43 s44 hq => ?_)
        obtain ⟨hFs44, hq⟩ := hq
        obtain ⟨ks44, ⟨fs44_fact0, gNs44, gHs44, gEs44, gLs44⟩, h45, g46⟩ := hq
        have gKs44 := gK.same h45 hm0 g46 (by decide) hgK
        rw [wv30, wv33, wv36, wv39, wv42] at hFs44
        have hMs44 := zRP.feed hM hI1 hI2 hx0 hm0 hFs26 hFs44 hSs26 g46 (k := ks26) (by omega)
        refine zg_pop X dL_law_279 rfl ?_
        refine zg_goto X 1441 dL_law_280 (by decide) ?_
        refine zg_iinc X 6 (fun v47 => [(3, .int v47), (2, .ref m0), (1, .ref x0), (0, .ref b)]) 0 dL_law_1441 rfl (by decide) (by decide) (by omega) (by omega) (fun _ => rfl) (fun v47 ev47 hv47 => ?_)
        refine zg_goto X 18 dL_law_1444 (by decide) ?_
        refine zg_swap ?_
        have X : zX d L1 kd1 A 4 p s m #[Value.ref b] c cL_law RL := X
        refine zg_sub [0, 1, 2, 3] rfl ?_
        exact ihLp _ _ _ v47 h27 (zj_eq (by omega : ks44 = ks26) h45) hMs44 gNs44 gHs44 gEs44 gLs44 gKs44 (by omega) (by omega)
      · skip
        by_cases q48 : v8.toInt = 1
        · refine zg_tabIn X 283 1 dL_law_33 q48 (by decide) (by decide) rfl (by decide) ?_
          refine zg_aload_n X 2 rfl dL_law_283 ?_
          refine zg_aload_n X 3 rfl dL_law_284 ?_
          refine zg_iload_n X 0 rfl dL_law_285 ?_
          refine zg_iconst X 1 dL_law_286 (by decide) (fun v49 _ hv49 => ?_)
          refine zg_iadd X dL_law_287 (by omega) (by omega) (fun v50 ev50 hv50 => ?_)
          refine zg_sld X hX hbl hbA (by omega) (by omega) dL_law_288 (fun v51 ev51 => ?_)
          refine zg_cVi (As := [.int v51]) (st := []) X hx0 rfl (by decide) rfl (t_X10_back l d L1 kd1 κ _ hI1 x0 hx0 v51 ) mk_L_18 mc_X10_back mz_X10 mi_X10_back ml_X10_back (na := 1) ⟨md_X10.1, md_X10.2, by decide +kernel⟩ rfl ⟨by decide, by decide⟩ (Nat.le_of_ble_eq_true rfl) dL_law_289 (fun v52 s53 hq => ?_)
          obtain ⟨hFs53, hSs53, hq⟩ := hq
          obtain ⟨ks53, h54, fxs53⟩ : ∃ k : Int, zI k 0 L1 kd1 s53 ∧ ((v52.toInt = -1 ∧ (v51.toInt < 0 ∨ κ < v51.toInt) ∧ k = κ) ∨ (v52.toInt = κ - v51.toInt ∧ 0 ≤ v51.toInt ∧ v51.toInt ≤ κ ∧ k = κ - v51.toInt)) := by
            rcases hq with ⟨q1, q2, q3⟩ | ⟨q1, q2, q3, q4⟩
            · exact ⟨_, q3, Or.inl ⟨q1, q2, rfl⟩⟩
            · exact ⟨_, q4, Or.inr ⟨q1, q2, q3, rfl⟩⟩
          have hMs53 := zRP.le (show ks53 ≤ κ by omega) (zRP.c0 hM hx0 hI1 hSs53 (by decide))
          refine zg_pop X dL_law_292 rfl ?_
          refine zg_aload_n X 1 rfl dL_law_293 ?_
          refine zg_aload_n X 3 rfl dL_law_294 ?_
          refine zg_iload_n X 0 rfl dL_law_295 ?_
          refine zg_iconst X 1 dL_law_296 (by decide) (fun v55 _ hv55 => ?_)
          refine zg_iadd X dL_law_297 (by omega) (by omega) (fun v56 ev56 hv56 => ?_)
          refine zg_sld X hX hbl hbA (by omega) (by omega) dL_law_298 (fun v57 ev57 => ?_)
          have tv57 : v57.toInt = v51.toInt := by rw [ev57, ev51, show v56 = v50 from Int32.toInt_inj.mp (by omega)]
          refine zg_swap ?_
          have X : zX d L2 kd2 A 4 p s m #[Value.ref b] c cL_law RL := X
          refine zg_cVi (As := [.int v57]) (st := []) X hm0 rfl (by decide) rfl (t_X11_back l d L2 kd2 κ _ hI2 m0 hm0 v57  hgN hgH hgE hgL) mk_L_22 mc_X11_back mz_X11 mi_X11_back ml_X11_back (na := 1) ⟨md_X11.1, md_X11.2, by decide +kernel⟩ rfl ⟨by decide, by decide⟩ (Nat.le_of_ble_eq_true rfl) dL_law_299 (fun v58 s59 hq => ?_)
          obtain ⟨hFs59, hq⟩ := hq
          obtain ⟨ks59, ⟨fs59_fact0, gNs59, gHs59, gEs59, gLs59⟩, h60, g61⟩ := hq
          have gKs59 := gK.same h60 hm0 g61 (by decide) hgK
          have hMs59 := zRP.m hMs53 hI2 hm0 g61 (by decide) (by decide)
          refine zg_pop X dL_law_302 rfl ?_
          refine zg_goto X 1441 dL_law_303 (by decide) ?_
          refine zg_iinc X 6 (fun v62 => [(3, .int v62), (2, .ref m0), (1, .ref x0), (0, .ref b)]) 0 dL_law_1441 rfl (by decide) (by decide) (by omega) (by omega) (fun _ => rfl) (fun v62 ev62 hv62 => ?_)
          refine zg_goto X 18 dL_law_1444 (by decide) ?_
          refine zg_swap ?_
          have X : zX d L1 kd1 A 4 p s m #[Value.ref b] c cL_law RL := X
          refine zg_sub [0, 1, 2, 3] rfl ?_
          exact ihLp _ _ _ v62 h54 (zj_eq (by omega : ks59 = ks53) h60) hMs59 gNs59 gHs59 gEs59 gLs59 gKs59 (by omega) (by omega)
        · skip
          by_cases q63 : v8.toInt = 2
          · refine zg_tabIn X 306 2 dL_law_33 q63 (by decide) (by decide) rfl (by decide) ?_
            refine zg_aload_n X 2 rfl dL_law_306 ?_
            refine zg_cVi (As := []) (st := []) X hx0 rfl (by decide) rfl (t_X10_read l d L1 kd1 κ _ hI1 x0 hx0  ) mk_L_23 mc_X10_read mz_X10 mi_X10_read ml_X10_read (na := 0) ⟨md_X10.1, md_X10.2, by decide +kernel⟩ rfl ⟨by decide, by decide⟩ (Nat.le_of_ble_eq_true rfl) dL_law_307 (fun v64 s65 hq => ?_)
            obtain ⟨hFs65, hSs65, hq⟩ := hq
            have h66 := hq
            refine zg_pop X dL_law_310 rfl ?_
            refine zg_aload_n X 1 rfl dL_law_311 ?_
            refine zg_swap ?_
            have X : zX d L2 kd2 A 4 p s m #[Value.ref b] c cL_law RL := X
            refine zg_cVi (As := []) (st := []) X hm0 rfl (by decide) rfl (t_X11_read l d L2 kd2 κ _ hI2 m0 hm0   hgN hgH hgE hgL hgK) mk_L_27 mc_X11_read mz_X11 mi_X11_read ml_X11_read (na := 0) ⟨md_X11.1, md_X11.2, by decide +kernel⟩ rfl ⟨by decide, by decide⟩ (Nat.le_of_ble_eq_true rfl) dL_law_312 (fun v67 s68 hq => ?_)
            obtain ⟨hFs68, hq⟩ := hq
            obtain ⟨⟨fs68_fact0, gNs68, gHs68, gEs68, gLs68, gKs68⟩, h69, g70⟩ := hq
            obtain ⟨hvs68, hMs68⟩ := zRP.read hM hI1 hI2 hx0 hm0 hFs65 hFs68 fs68_fact0 hSs65 g70
            refine zg_pop X dL_law_315 rfl ?_
            refine zg_goto X 1441 dL_law_316 (by decide) ?_
            refine zg_iinc X 6 (fun v71 => [(3, .int v71), (2, .ref m0), (1, .ref x0), (0, .ref b)]) 0 dL_law_1441 rfl (by decide) (by decide) (by omega) (by omega) (fun _ => rfl) (fun v71 ev71 hv71 => ?_)
            refine zg_goto X 18 dL_law_1444 (by decide) ?_
            refine zg_swap ?_
            have X : zX d L1 kd1 A 4 p s m #[Value.ref b] c cL_law RL := X
            refine zg_sub [0, 1, 2, 3] rfl ?_
            exact ihLp _ _ _ v71 h66 h69 hMs68 gNs68 gHs68 gEs68 gLs68 gKs68 (by omega) (by omega)
          · skip
            by_cases q72 : v8.toInt = 3
            · refine zg_tabIn X 319 3 dL_law_33 q72 (by decide) (by decide) rfl (by decide) ?_
              refine zg_aload_n X 2 rfl dL_law_319 ?_
              refine zg_cVi (As := []) (st := []) X hx0 rfl (by decide) rfl (t_X10_place l d L1 kd1 κ _ hI1 x0 hx0  ) mk_L_28 mc_X10_place mz_X10 mi_X10_place ml_X10_place (na := 0) ⟨md_X10.1, md_X10.2, by decide +kernel⟩ rfl ⟨by decide, by decide⟩ (Nat.le_of_ble_eq_true rfl) dL_law_320 (fun v73 s74 hq => ?_)
              obtain ⟨hFs74, hSs74, hq⟩ := hq
              have h75 := hq
              have hMs74 := zRP.c0 hM hx0 hI1 hSs74 (by decide)
              refine zg_pop X dL_law_323 rfl ?_
              refine zg_aload_n X 1 rfl dL_law_324 ?_
              refine zg_swap ?_
              have X : zX d L2 kd2 A 4 p s m #[Value.ref b] c cL_law RL := X
              refine zg_cVi (As := []) (st := []) X hm0 rfl (by decide) rfl (t_X11_place l d L2 kd2 κ _ hI2 m0 hm0   ) mk_L_31 mc_X11_place mz_X11 mi_X11_place ml_X11_place (na := 0) ⟨md_X11.1, md_X11.2, by decide +kernel⟩ rfl ⟨by decide, by decide⟩ (Nat.le_of_ble_eq_true rfl) dL_law_325 (fun v76 s77 hq => ?_)
              obtain ⟨hFs77, rfl⟩ := hq
              refine zg_pop X dL_law_328 rfl ?_
              refine zg_goto X 1441 dL_law_329 (by decide) ?_
              refine zg_iinc X 6 (fun v79 => [(3, .int v79), (2, .ref m0), (1, .ref x0), (0, .ref b)]) 0 dL_law_1441 rfl (by decide) (by decide) (by omega) (by omega) (fun _ => rfl) (fun v79 ev79 hv79 => ?_)
              refine zg_goto X 18 dL_law_1444 (by decide) ?_
              refine zg_swap ?_
              have X : zX d L1 kd1 A 4 p s m #[Value.ref b] c cL_law RL := X
              refine zg_sub [0, 1, 2, 3] rfl ?_
              exact ihLp _ _ _ v79 h75 hI2 hMs74 hgN hgH hgE hgL hgK (by omega) (by omega)
            · skip
              by_cases q80 : v8.toInt = 4
              · refine zg_tabIn X 332 4 dL_law_33 q80 (by decide) (by decide) rfl (by decide) ?_
                refine zg_aload_n X 2 rfl dL_law_332 ?_
                refine zg_aload_n X 3 rfl dL_law_333 ?_
                refine zg_iload_n X 0 rfl dL_law_334 ?_
                refine zg_iconst X 1 dL_law_335 (by decide) (fun v81 _ hv81 => ?_)
                refine zg_iadd X dL_law_336 (by omega) (by omega) (fun v82 ev82 hv82 => ?_)
                refine zg_sld X hX hbl hbA (by omega) (by omega) dL_law_337 (fun v83 ev83 => ?_)
                refine zg_aload_n X 3 rfl dL_law_338 ?_
                refine zg_iload_n X 0 rfl dL_law_339 ?_
                refine zg_iconst X 2 dL_law_340 (by decide) (fun v84 _ hv84 => ?_)
                refine zg_iadd X dL_law_341 (by omega) (by omega) (fun v85 ev85 hv85 => ?_)
                refine zg_sld X hX hbl hbA (by omega) (by omega) dL_law_342 (fun v86 ev86 => ?_)
                refine zg_cVi (As := [.int v83, .int v86]) (st := []) X hx0 rfl (by decide) rfl (t_X10_spot l d L1 kd1 κ _ hI1 x0 hx0 v83 v86 ) mk_L_32 mc_X10_spot mz_X10 mi_X10_spot ml_X10_spot (na := 2) ⟨md_X10.1, md_X10.2, by decide +kernel⟩ rfl ⟨by decide, by decide⟩ (Nat.le_of_ble_eq_true rfl) dL_law_343 (fun v87 s88 hq => ?_)
                obtain ⟨hFs88, hSs88, hq⟩ := hq
                have h89 := hq
                have hMs88 := zRP.c hM hx0 hI1 hSs88 (zRy.of (rz_X10_spot zRz.rf) hFs88) (by decide) (by decide)
                refine zg_pop X dL_law_346 rfl ?_
                refine zg_aload_n X 1 rfl dL_law_347 ?_
                refine zg_aload_n X 3 rfl dL_law_348 ?_
                refine zg_iload_n X 0 rfl dL_law_349 ?_
                refine zg_iconst X 1 dL_law_350 (by decide) (fun v90 _ hv90 => ?_)
                refine zg_iadd X dL_law_351 (by omega) (by omega) (fun v91 ev91 hv91 => ?_)
                refine zg_sld X hX hbl hbA (by omega) (by omega) dL_law_352 (fun v92 ev92 => ?_)
                refine zg_aload_n X 3 rfl dL_law_353 ?_
                refine zg_iload_n X 0 rfl dL_law_354 ?_
                refine zg_iconst X 2 dL_law_355 (by decide) (fun v93 _ hv93 => ?_)
                refine zg_iadd X dL_law_356 (by omega) (by omega) (fun v94 ev94 hv94 => ?_)
                refine zg_sld X hX hbl hbA (by omega) (by omega) dL_law_357 (fun v95 ev95 => ?_)
                refine zg_swap ?_
                have X : zX d L2 kd2 A 4 p s m #[Value.ref b] c cL_law RL := X
                refine zg_cVi (As := [.int v92, .int v95]) (st := []) X hm0 rfl (by decide) rfl (t_X11_spot l d L2 kd2 κ _ hI2 m0 hm0 v92 v95  hgN hgH hgE hgL) mk_L_36 mc_X11_spot mz_X11 mi_X11_spot ml_X11_spot (na := 2) ⟨md_X11.1, md_X11.2, by decide +kernel⟩ rfl ⟨by decide, by decide⟩ (Nat.le_of_ble_eq_true rfl) dL_law_358 (fun v96 s97 hq => ?_)
                obtain ⟨hFs97, hq⟩ := hq
                obtain ⟨⟨gNs97, gHs97, gEs97, gLs97⟩, h98, g99⟩ := hq
                have gKs97 := gK.same h98 hm0 g99 (by decide) hgK
                have hMs97 := zRP.m hMs88 hI2 hm0 g99 (by decide) (by decide)
                refine zg_pop X dL_law_361 rfl ?_
                refine zg_goto X 1441 dL_law_362 (by decide) ?_
                refine zg_iinc X 6 (fun v100 => [(3, .int v100), (2, .ref m0), (1, .ref x0), (0, .ref b)]) 0 dL_law_1441 rfl (by decide) (by decide) (by omega) (by omega) (fun _ => rfl) (fun v100 ev100 hv100 => ?_)
                refine zg_goto X 18 dL_law_1444 (by decide) ?_
                refine zg_swap ?_
                have X : zX d L1 kd1 A 4 p s m #[Value.ref b] c cL_law RL := X
                refine zg_sub [0, 1, 2, 3] rfl ?_
                exact ihLp _ _ _ v100 h89 h98 hMs97 gNs97 gHs97 gEs97 gLs97 gKs97 (by omega) (by omega)
              · skip
                by_cases q101 : v8.toInt = 5
                · refine zg_tabIn X 365 5 dL_law_33 q101 (by decide) (by decide) rfl (by decide) ?_
                  refine zg_aload_n X 2 rfl dL_law_365 ?_
                  refine zg_aload_n X 3 rfl dL_law_366 ?_
                  refine zg_iload_n X 0 rfl dL_law_367 ?_
                  refine zg_iconst X 1 dL_law_368 (by decide) (fun v102 _ hv102 => ?_)
                  refine zg_iadd X dL_law_369 (by omega) (by omega) (fun v103 ev103 hv103 => ?_)
                  refine zg_sld X hX hbl hbA (by omega) (by omega) dL_law_370 (fun v104 ev104 => ?_)
                  refine zg_aload_n X 3 rfl dL_law_371 ?_
                  refine zg_iload_n X 0 rfl dL_law_372 ?_
                  refine zg_iconst X 2 dL_law_373 (by decide) (fun v105 _ hv105 => ?_)
                  refine zg_iadd X dL_law_374 (by omega) (by omega) (fun v106 ev106 hv106 => ?_)
                  refine zg_sld X hX hbl hbA (by omega) (by omega) dL_law_375 (fun v107 ev107 => ?_)
                  refine zg_cVi (As := [.int v104, .int v107]) (st := []) X hx0 rfl (by decide) rfl (t_X10_claim l d L1 kd1 κ _ hI1 x0 hx0 v104 v107 ) mk_L_37 mc_X10_claim mz_X10 mi_X10_claim ml_X10_claim (na := 2) ⟨md_X10.1, md_X10.2, by decide +kernel⟩ rfl ⟨by decide, by decide⟩ (Nat.le_of_ble_eq_true rfl) dL_law_376 (fun v108 s109 hq => ?_)
                  obtain ⟨hFs109, hSs109, hq⟩ := hq
                  have h110 := hq
                  have hMs109 := zRP.c hM hx0 hI1 hSs109 (zRy.of (rz_X10_claim zRz.rf) hFs109) (by decide) (by decide)
                  refine zg_pop X dL_law_379 rfl ?_
                  refine zg_aload_n X 1 rfl dL_law_380 ?_
                  refine zg_aload_n X 3 rfl dL_law_381 ?_
                  refine zg_iload_n X 0 rfl dL_law_382 ?_
                  refine zg_iconst X 1 dL_law_383 (by decide) (fun v111 _ hv111 => ?_)
                  refine zg_iadd X dL_law_384 (by omega) (by omega) (fun v112 ev112 hv112 => ?_)
                  refine zg_sld X hX hbl hbA (by omega) (by omega) dL_law_385 (fun v113 ev113 => ?_)
                  refine zg_aload_n X 3 rfl dL_law_386 ?_
                  refine zg_iload_n X 0 rfl dL_law_387 ?_
                  refine zg_iconst X 2 dL_law_388 (by decide) (fun v114 _ hv114 => ?_)
                  refine zg_iadd X dL_law_389 (by omega) (by omega) (fun v115 ev115 hv115 => ?_)
                  refine zg_sld X hX hbl hbA (by omega) (by omega) dL_law_390 (fun v116 ev116 => ?_)
                  refine zg_swap ?_
                  have X : zX d L2 kd2 A 4 p s m #[Value.ref b] c cL_law RL := X
                  refine zg_cVi (As := [.int v113, .int v116]) (st := []) X hm0 rfl (by decide) rfl (t_X11_claim l d L2 kd2 κ _ hI2 m0 hm0 v113 v116  hgN hgH hgE hgL) mk_L_40 mc_X11_claim mz_X11 mi_X11_claim ml_X11_claim (na := 2) ⟨md_X11.1, md_X11.2, by decide +kernel⟩ rfl ⟨by decide, by decide⟩ (Nat.le_of_ble_eq_true rfl) dL_law_391 (fun v117 s118 hq => ?_)
                  obtain ⟨hFs118, hq⟩ := hq
                  obtain ⟨⟨gNs118, gHs118, gEs118, gLs118⟩, h119, g120⟩ := hq
                  have gKs118 := gK.same h119 hm0 g120 (by decide) hgK
                  have hMs118 := zRP.m hMs109 hI2 hm0 g120 (by decide) (by decide)
                  refine zg_pop X dL_law_394 rfl ?_
                  refine zg_goto X 1441 dL_law_395 (by decide) ?_
                  refine zg_iinc X 6 (fun v121 => [(3, .int v121), (2, .ref m0), (1, .ref x0), (0, .ref b)]) 0 dL_law_1441 rfl (by decide) (by decide) (by omega) (by omega) (fun _ => rfl) (fun v121 ev121 hv121 => ?_)
                  refine zg_goto X 18 dL_law_1444 (by decide) ?_
                  refine zg_swap ?_
                  have X : zX d L1 kd1 A 4 p s m #[Value.ref b] c cL_law RL := X
                  refine zg_sub [0, 1, 2, 3] rfl ?_
                  exact ihLp _ _ _ v121 h110 h119 hMs118 gNs118 gHs118 gEs118 gLs118 gKs118 (by omega) (by omega)
                · skip
                  by_cases q122 : v8.toInt = 6
                  · refine zg_tabIn X 398 6 dL_law_33 q122 (by decide) (by decide) rfl (by decide) ?_
                    refine zg_aload_n X 2 rfl dL_law_398 ?_
                    refine zg_aload_n X 3 rfl dL_law_399 ?_
                    refine zg_iload_n X 0 rfl dL_law_400 ?_
                    refine zg_iconst X 1 dL_law_401 (by decide) (fun v123 _ hv123 => ?_)
                    refine zg_iadd X dL_law_402 (by omega) (by omega) (fun v124 ev124 hv124 => ?_)
                    refine zg_sld X hX hbl hbA (by omega) (by omega) dL_law_403 (fun v125 ev125 => ?_)
                    refine zg_cVi (As := [.int v125]) (st := []) X hx0 rfl (by decide) rfl (t_X10_winner l d L1 kd1 κ _ hI1 x0 hx0 v125 ) mk_L_41 mc_X10_winner mz_X10 mi_X10_winner ml_X10_winner (na := 1) ⟨md_X10.1, md_X10.2, by decide +kernel⟩ rfl ⟨by decide, by decide⟩ (Nat.le_of_ble_eq_true rfl) dL_law_404 (fun v126 s127 hq => ?_)
                    obtain ⟨hFs127, hSs127, hq⟩ := hq
                    have h128 := hq
                    have hMs127 := zRP.c hM hx0 hI1 hSs127 (zRy.of (rz_X10_winner zRz.rf) hFs127) (by decide) (by decide)
                    refine zg_pop X dL_law_407 rfl ?_
                    refine zg_aload_n X 1 rfl dL_law_408 ?_
                    refine zg_aload_n X 3 rfl dL_law_409 ?_
                    refine zg_iload_n X 0 rfl dL_law_410 ?_
                    refine zg_iconst X 1 dL_law_411 (by decide) (fun v129 _ hv129 => ?_)
                    refine zg_iadd X dL_law_412 (by omega) (by omega) (fun v130 ev130 hv130 => ?_)
                    refine zg_sld X hX hbl hbA (by omega) (by omega) dL_law_413 (fun v131 ev131 => ?_)
                    refine zg_swap ?_
                    have X : zX d L2 kd2 A 4 p s m #[Value.ref b] c cL_law RL := X
                    refine zg_cVi (As := [.int v131]) (st := []) X hm0 rfl (by decide) rfl (t_X11_winner l d L2 kd2 κ _ hI2 m0 hm0 v131  hgN hgH hgE hgL) mk_L_44 mc_X11_winner mz_X11 mi_X11_winner ml_X11_winner (na := 1) ⟨md_X11.1, md_X11.2, by decide +kernel⟩ rfl ⟨by decide, by decide⟩ (Nat.le_of_ble_eq_true rfl) dL_law_414 (fun v132 s133 hq => ?_)
                    obtain ⟨hFs133, hq⟩ := hq
                    obtain ⟨⟨gNs133, gHs133, gEs133, gLs133⟩, h134, g135⟩ := hq
                    have gKs133 := gK.same h134 hm0 g135 (by decide) hgK
                    have hMs133 := zRP.m hMs127 hI2 hm0 g135 (by decide) (by decide)
                    refine zg_pop X dL_law_417 rfl ?_
                    refine zg_goto X 1441 dL_law_418 (by decide) ?_
                    refine zg_iinc X 6 (fun v136 => [(3, .int v136), (2, .ref m0), (1, .ref x0), (0, .ref b)]) 0 dL_law_1441 rfl (by decide) (by decide) (by omega) (by omega) (fun _ => rfl) (fun v136 ev136 hv136 => ?_)
                    refine zg_goto X 18 dL_law_1444 (by decide) ?_
                    refine zg_swap ?_
                    have X : zX d L1 kd1 A 4 p s m #[Value.ref b] c cL_law RL := X
                    refine zg_sub [0, 1, 2, 3] rfl ?_
                    exact ihLp _ _ _ v136 h128 h134 hMs133 gNs133 gHs133 gEs133 gLs133 gKs133 (by omega) (by omega)
                  · skip
                    by_cases q137 : v8.toInt = 7
                    · refine zg_tabIn X 421 7 dL_law_33 q137 (by decide) (by decide) rfl (by decide) ?_
                      refine zg_aload_n X 2 rfl dL_law_421 ?_
                      refine zg_aload_n X 3 rfl dL_law_422 ?_
                      refine zg_iload_n X 0 rfl dL_law_423 ?_
                      refine zg_iconst X 1 dL_law_424 (by decide) (fun v138 _ hv138 => ?_)
                      refine zg_iadd X dL_law_425 (by omega) (by omega) (fun v139 ev139 hv139 => ?_)
                      refine zg_sld X hX hbl hbA (by omega) (by omega) dL_law_426 (fun v140 ev140 => ?_)
                      refine zg_aload_n X 3 rfl dL_law_427 ?_
                      refine zg_iload_n X 0 rfl dL_law_428 ?_
                      refine zg_iconst X 2 dL_law_429 (by decide) (fun v141 _ hv141 => ?_)
                      refine zg_iadd X dL_law_430 (by omega) (by omega) (fun v142 ev142 hv142 => ?_)
                      refine zg_sld X hX hbl hbA (by omega) (by omega) dL_law_431 (fun v143 ev143 => ?_)
                      refine zg_if_eq X 439 dL_law_432 (by decide) (fun c144 => ?_) (fun c144 => ?_)
                      · skip
                        refine zg_iconst X 0 dL_law_439 (by decide) (fun v145 _ hv145 => ?_)
                        refine zg_cVi (As := [.int v140, .int v145]) (st := []) X hx0 rfl (by decide) rfl (t_X10_dam l d L1 kd1 κ _ hI1 x0 hx0 v140 v145 (by omega)) mk_L_45 mc_X10_dam mz_X10 mi_X10_dam ml_X10_dam (na := 2) ⟨md_X10.1, md_X10.2, by decide +kernel⟩ rfl ⟨by decide, by decide⟩ (Nat.le_of_ble_eq_true rfl) dL_law_440 (fun v146 s147 hq => ?_)
                        obtain ⟨hFs147, hSs147, hq⟩ := hq
                        obtain ⟨hzh148, h148⟩ := hq
                        refine zg_pop X dL_law_443 rfl ?_
                        refine zg_aload_n X 1 rfl dL_law_444 ?_
                        refine zg_aload_n X 3 rfl dL_law_445 ?_
                        refine zg_iload_n X 0 rfl dL_law_446 ?_
                        refine zg_iconst X 1 dL_law_447 (by decide) (fun v149 _ hv149 => ?_)
                        refine zg_iadd X dL_law_448 (by omega) (by omega) (fun v150 ev150 hv150 => ?_)
                        refine zg_sld X hX hbl hbA (by omega) (by omega) dL_law_449 (fun v151 ev151 => ?_)
                        have wv151 : v151 = v140 := by rw [ev151, ev140, show v150 = v139 from Int32.toInt_inj.mp (by omega)]
                        have tv151 : v151.toInt = v140.toInt := by rw [wv151]
                        refine zg_aload_n X 3 rfl dL_law_450 ?_
                        refine zg_iload_n X 0 rfl dL_law_451 ?_
                        refine zg_iconst X 2 dL_law_452 (by decide) (fun v152 _ hv152 => ?_)
                        refine zg_iadd X dL_law_453 (by omega) (by omega) (fun v153 ev153 hv153 => ?_)
                        refine zg_sld X hX hbl hbA (by omega) (by omega) dL_law_454 (fun v154 ev154 => ?_)
                        have wv154 : v154 = v143 := by rw [ev154, ev143, show v153 = v142 from Int32.toInt_inj.mp (by omega)]
                        have tv154 : v154.toInt = v143.toInt := by rw [wv154]
                        refine zg_if_eq X 462 dL_law_455 (by decide) (fun c155 => ?_) (fun c155 => ?_)
                        · skip
                          refine zg_iconst X 0 dL_law_462 (by decide) (fun v156 _ hv156 => ?_)
                          refine zg_swap ?_
                          have X : zX d L2 kd2 A 4 p s m #[Value.ref b] c cL_law RL := X
                          have bv156 : v156 = v145 := Int32.toInt_inj.mp (by omega)
                          refine zg_cVi (As := [.int v151, .int v156]) (st := []) X hm0 rfl (by decide) rfl (t_X11_dam l d L2 kd2 κ _ hI2 m0 hm0 v151 v156  hgN hgH hgE hgL) mk_L_49 mc_X11_dam mz_X11 mi_X11_dam ml_X11_dam (na := 2) ⟨md_X11.1, md_X11.2, by decide +kernel⟩ rfl ⟨by decide, by decide⟩ (Nat.le_of_ble_eq_true rfl) dL_law_463 (fun v157 s158 hq => ?_)
                          obtain ⟨hFs158, hq⟩ := hq
                          obtain ⟨⟨fs158_res, gNs158, gHs158, gEs158, gLs158⟩, h159, g160⟩ := hq
                          have gKs158 := gK.same h159 hm0 g160 (by decide) hgK
                          rw [wv151, bv156] at hFs158
                          obtain ⟨hvs158, hMs158⟩ := zRP.dam hM hI1 hI2 hx0 hm0 hFs147 hFs158 hSs147 g160 (by omega)
                          refine zg_pop X dL_law_466 rfl ?_
                          refine zg_goto X 1441 dL_law_467 (by decide) ?_
                          refine zg_iinc X 6 (fun v161 => [(3, .int v161), (2, .ref m0), (1, .ref x0), (0, .ref b)]) 0 dL_law_1441 rfl (by decide) (by decide) (by omega) (by omega) (fun _ => rfl) (fun v161 ev161 hv161 => ?_)
                          refine zg_goto X 18 dL_law_1444 (by decide) ?_
                          refine zg_swap ?_
                          have X : zX d L1 kd1 A 4 p s m #[Value.ref b] c cL_law RL := X
                          refine zg_sub [0, 1, 2, 3] rfl ?_
                          exact ihLp _ _ _ v161 h148 h159 hMs158 gNs158 gHs158 gEs158 gLs158 gKs158 (by omega) (by omega)
                        · skip
                          refine zg_iconst X 1 dL_law_458 (by decide) (fun v162 _ hv162 => ?_)
                          refine zg_goto X 463 dL_law_459 (by decide) ?_
                          refine zg_swap ?_
                          have X : zX d L2 kd2 A 4 p s m #[Value.ref b] c cL_law RL := X
                          exfalso
                          omega
                      · skip
                        refine zg_iconst X 1 dL_law_435 (by decide) (fun v164 _ hv164 => ?_)
                        refine zg_goto X 440 dL_law_436 (by decide) ?_
                        refine zg_cVi (As := [.int v140, .int v164]) (st := []) X hx0 rfl (by decide) rfl (t_X10_dam l d L1 kd1 κ _ hI1 x0 hx0 v140 v164 (by omega)) mk_L_45 mc_X10_dam mz_X10 mi_X10_dam ml_X10_dam (na := 2) ⟨md_X10.1, md_X10.2, by decide +kernel⟩ rfl ⟨by decide, by decide⟩ (Nat.le_of_ble_eq_true rfl) dL_law_440 (fun v165 s166 hq => ?_)
                        obtain ⟨hFs166, hSs166, hq⟩ := hq
                        obtain ⟨hzh167, h167⟩ := hq
                        refine zg_pop X dL_law_443 rfl ?_
                        refine zg_aload_n X 1 rfl dL_law_444 ?_
                        refine zg_aload_n X 3 rfl dL_law_445 ?_
                        refine zg_iload_n X 0 rfl dL_law_446 ?_
                        refine zg_iconst X 1 dL_law_447 (by decide) (fun v168 _ hv168 => ?_)
                        refine zg_iadd X dL_law_448 (by omega) (by omega) (fun v169 ev169 hv169 => ?_)
                        refine zg_sld X hX hbl hbA (by omega) (by omega) dL_law_449 (fun v170 ev170 => ?_)
                        have wv170 : v170 = v140 := by rw [ev170, ev140, show v169 = v139 from Int32.toInt_inj.mp (by omega)]
                        have tv170 : v170.toInt = v140.toInt := by rw [wv170]
                        refine zg_aload_n X 3 rfl dL_law_450 ?_
                        refine zg_iload_n X 0 rfl dL_law_451 ?_
                        refine zg_iconst X 2 dL_law_452 (by decide) (fun v171 _ hv171 => ?_)
                        refine zg_iadd X dL_law_453 (by omega) (by omega) (fun v172 ev172 hv172 => ?_)
                        refine zg_sld X hX hbl hbA (by omega) (by omega) dL_law_454 (fun v173 ev173 => ?_)
                        have wv173 : v173 = v143 := by rw [ev173, ev143, show v172 = v142 from Int32.toInt_inj.mp (by omega)]
                        have tv173 : v173.toInt = v143.toInt := by rw [wv173]
                        refine zg_if_eq X 462 dL_law_455 (by decide) (fun c174 => ?_) (fun c174 => ?_)
                        · skip
                          refine zg_iconst X 0 dL_law_462 (by decide) (fun v175 _ hv175 => ?_)
                          refine zg_swap ?_
                          have X : zX d L2 kd2 A 4 p s m #[Value.ref b] c cL_law RL := X
                          exfalso
                          omega
                        · skip
                          refine zg_iconst X 1 dL_law_458 (by decide) (fun v177 _ hv177 => ?_)
                          refine zg_goto X 463 dL_law_459 (by decide) ?_
                          refine zg_swap ?_
                          have X : zX d L2 kd2 A 4 p s m #[Value.ref b] c cL_law RL := X
                          have bv177 : v177 = v164 := Int32.toInt_inj.mp (by omega)
                          refine zg_cVi (As := [.int v170, .int v177]) (st := []) X hm0 rfl (by decide) rfl (t_X11_dam l d L2 kd2 κ _ hI2 m0 hm0 v170 v177  hgN hgH hgE hgL) mk_L_49 mc_X11_dam mz_X11 mi_X11_dam ml_X11_dam (na := 2) ⟨md_X11.1, md_X11.2, by decide +kernel⟩ rfl ⟨by decide, by decide⟩ (Nat.le_of_ble_eq_true rfl) dL_law_463 (fun v178 s179 hq => ?_)
                          obtain ⟨hFs179, hq⟩ := hq
                          obtain ⟨⟨fs179_res, gNs179, gHs179, gEs179, gLs179⟩, h180, g181⟩ := hq
                          have gKs179 := gK.same h180 hm0 g181 (by decide) hgK
                          rw [wv170, bv177] at hFs179
                          obtain ⟨hvs179, hMs179⟩ := zRP.dam hM hI1 hI2 hx0 hm0 hFs166 hFs179 hSs166 g181 (by omega)
                          refine zg_pop X dL_law_466 rfl ?_
                          refine zg_goto X 1441 dL_law_467 (by decide) ?_
                          refine zg_iinc X 6 (fun v182 => [(3, .int v182), (2, .ref m0), (1, .ref x0), (0, .ref b)]) 0 dL_law_1441 rfl (by decide) (by decide) (by omega) (by omega) (fun _ => rfl) (fun v182 ev182 hv182 => ?_)
                          refine zg_goto X 18 dL_law_1444 (by decide) ?_
                          refine zg_swap ?_
                          have X : zX d L1 kd1 A 4 p s m #[Value.ref b] c cL_law RL := X
                          refine zg_sub [0, 1, 2, 3] rfl ?_
                          exact ihLp _ _ _ v182 h167 h180 hMs179 gNs179 gHs179 gEs179 gLs179 gKs179 (by omega) (by omega)
                    · skip
                      by_cases q183 : v8.toInt = 8
                      · refine zg_tabIn X 470 8 dL_law_33 q183 (by decide) (by decide) rfl (by decide) ?_
                        refine zg_aload_n X 2 rfl dL_law_470 ?_
                        refine zg_aload_n X 3 rfl dL_law_471 ?_
                        refine zg_iload_n X 0 rfl dL_law_472 ?_
                        refine zg_iconst X 1 dL_law_473 (by decide) (fun v184 _ hv184 => ?_)
                        refine zg_iadd X dL_law_474 (by omega) (by omega) (fun v185 ev185 hv185 => ?_)
                        refine zg_sld X hX hbl hbA (by omega) (by omega) dL_law_475 (fun v186 ev186 => ?_)
                        refine zg_aload_n X 3 rfl dL_law_476 ?_
                        refine zg_iload_n X 0 rfl dL_law_477 ?_
                        refine zg_iconst X 2 dL_law_478 (by decide) (fun v187 _ hv187 => ?_)
                        refine zg_iadd X dL_law_479 (by omega) (by omega) (fun v188 ev188 hv188 => ?_)
                        refine zg_sld X hX hbl hbA (by omega) (by omega) dL_law_480 (fun v189 ev189 => ?_)
                        refine zg_cVi (As := [.int v186, .int v189]) (st := []) X hx0 rfl (by decide) rfl (t_X10_turn l d L1 kd1 κ _ hI1 x0 hx0 v186 v189 ) mk_L_50 mc_X10_turn mz_X10 mi_X10_turn ml_X10_turn (na := 2) ⟨md_X10.1, md_X10.2, by decide +kernel⟩ rfl ⟨by decide, by decide⟩ (Nat.le_of_ble_eq_true rfl) dL_law_481 (fun v190 s191 hq => ?_)
                        obtain ⟨hFs191, hSs191, hq⟩ := hq
                        obtain ⟨hzh192, h192⟩ := hq
                        refine zg_pop X dL_law_484 rfl ?_
                        refine zg_aload_n X 1 rfl dL_law_485 ?_
                        refine zg_aload_n X 3 rfl dL_law_486 ?_
                        refine zg_iload_n X 0 rfl dL_law_487 ?_
                        refine zg_iconst X 1 dL_law_488 (by decide) (fun v193 _ hv193 => ?_)
                        refine zg_iadd X dL_law_489 (by omega) (by omega) (fun v194 ev194 hv194 => ?_)
                        refine zg_sld X hX hbl hbA (by omega) (by omega) dL_law_490 (fun v195 ev195 => ?_)
                        have wv195 : v195 = v186 := by rw [ev195, ev186, show v194 = v185 from Int32.toInt_inj.mp (by omega)]
                        have tv195 : v195.toInt = v186.toInt := by rw [wv195]
                        refine zg_aload_n X 3 rfl dL_law_491 ?_
                        refine zg_iload_n X 0 rfl dL_law_492 ?_
                        refine zg_iconst X 2 dL_law_493 (by decide) (fun v196 _ hv196 => ?_)
                        refine zg_iadd X dL_law_494 (by omega) (by omega) (fun v197 ev197 hv197 => ?_)
                        refine zg_sld X hX hbl hbA (by omega) (by omega) dL_law_495 (fun v198 ev198 => ?_)
                        have wv198 : v198 = v189 := by rw [ev198, ev189, show v197 = v188 from Int32.toInt_inj.mp (by omega)]
                        have tv198 : v198.toInt = v189.toInt := by rw [wv198]
                        refine zg_swap ?_
                        have X : zX d L2 kd2 A 4 p s m #[Value.ref b] c cL_law RL := X
                        refine zg_cVi (As := [.int v195, .int v198]) (st := []) X hm0 rfl (by decide) rfl (t_X11_turn l d L2 kd2 κ _ hI2 m0 hm0 v195 v198  hgN hgH hgE hgL) mk_L_54 mc_X11_turn mz_X11 mi_X11_turn ml_X11_turn (na := 2) ⟨md_X11.1, md_X11.2, by decide +kernel⟩ rfl ⟨by decide, by decide⟩ (Nat.le_of_ble_eq_true rfl) dL_law_496 (fun v199 s200 hq => ?_)
                        obtain ⟨hFs200, hq⟩ := hq
                        obtain ⟨⟨fs200_res, gNs200, gHs200, gEs200, gLs200⟩, h201, g202⟩ := hq
                        have gKs200 := gK.same h201 hm0 g202 (by decide) hgK
                        rw [wv195, wv198] at hFs200
                        obtain ⟨hvs200, hMs200⟩ := zRP.turn hM hI1 hI2 hx0 hm0 hFs191 hFs200 hSs191 g202 hgN
                        refine zg_pop X dL_law_499 rfl ?_
                        refine zg_goto X 1441 dL_law_500 (by decide) ?_
                        refine zg_iinc X 6 (fun v203 => [(3, .int v203), (2, .ref m0), (1, .ref x0), (0, .ref b)]) 0 dL_law_1441 rfl (by decide) (by decide) (by omega) (by omega) (fun _ => rfl) (fun v203 ev203 hv203 => ?_)
                        refine zg_goto X 18 dL_law_1444 (by decide) ?_
                        refine zg_swap ?_
                        have X : zX d L1 kd1 A 4 p s m #[Value.ref b] c cL_law RL := X
                        refine zg_sub [0, 1, 2, 3] rfl ?_
                        exact ihLp _ _ _ v203 h192 h201 hMs200 gNs200 gHs200 gEs200 gLs200 gKs200 (by omega) (by omega)
                      · skip
                        by_cases q204 : v8.toInt = 9
                        · refine zg_tabIn X 503 9 dL_law_33 q204 (by decide) (by decide) rfl (by decide) ?_
                          refine zg_aload_n X 2 rfl dL_law_503 ?_
                          refine zg_aload_n X 3 rfl dL_law_504 ?_
                          refine zg_iload_n X 0 rfl dL_law_505 ?_
                          refine zg_iconst X 1 dL_law_506 (by decide) (fun v205 _ hv205 => ?_)
                          refine zg_iadd X dL_law_507 (by omega) (by omega) (fun v206 ev206 hv206 => ?_)
                          refine zg_sld X hX hbl hbA (by omega) (by omega) dL_law_508 (fun v207 ev207 => ?_)
                          refine zg_cVi (As := [.int v207]) (st := []) X hx0 rfl (by decide) rfl (t_X10_rule l d L1 kd1 κ _ hI1 x0 hx0 v207 ) mk_L_55 mc_X10_rule mz_X10 mi_X10_rule ml_X10_rule (na := 1) ⟨md_X10.1, md_X10.2, by decide +kernel⟩ rfl ⟨by decide, by decide⟩ (Nat.le_of_ble_eq_true rfl) dL_law_509 (fun v208 s209 hq => ?_)
                          obtain ⟨hFs209, hSs209, hq⟩ := hq
                          obtain ⟨hzh210, h210⟩ := hq
                          refine zg_pop X dL_law_512 rfl ?_
                          refine zg_aload_n X 1 rfl dL_law_513 ?_
                          refine zg_aload_n X 3 rfl dL_law_514 ?_
                          refine zg_iload_n X 0 rfl dL_law_515 ?_
                          refine zg_iconst X 1 dL_law_516 (by decide) (fun v211 _ hv211 => ?_)
                          refine zg_iadd X dL_law_517 (by omega) (by omega) (fun v212 ev212 hv212 => ?_)
                          refine zg_sld X hX hbl hbA (by omega) (by omega) dL_law_518 (fun v213 ev213 => ?_)
                          have wv213 : v213 = v207 := by rw [ev213, ev207, show v212 = v206 from Int32.toInt_inj.mp (by omega)]
                          have tv213 : v213.toInt = v207.toInt := by rw [wv213]
                          refine zg_swap ?_
                          have X : zX d L2 kd2 A 4 p s m #[Value.ref b] c cL_law RL := X
                          refine zg_cVi (As := [.int v213]) (st := []) X hm0 rfl (by decide) rfl (t_X11_rule l d L2 kd2 κ _ hI2 m0 hm0 v213  hgN hgH hgE hgL) mk_L_59 mc_X11_rule mz_X11 mi_X11_rule ml_X11_rule (na := 1) ⟨md_X11.1, md_X11.2, by decide +kernel⟩ rfl ⟨by decide, by decide⟩ (Nat.le_of_ble_eq_true rfl) dL_law_519 (fun v214 s215 hq => ?_)
                          obtain ⟨hFs215, hq⟩ := hq
                          obtain ⟨⟨fs215_res, gNs215, gHs215, gEs215, gLs215⟩, h216, g217⟩ := hq
                          have gKs215 := gK.same h216 hm0 g217 (by decide) hgK
                          rw [wv213] at hFs215
                          obtain ⟨hvs215, hMs215⟩ := zRP.rule hM hI1 hI2 hx0 hm0 hFs209 hFs215 hSs209 g217
                          refine zg_pop X dL_law_522 rfl ?_
                          refine zg_goto X 1441 dL_law_523 (by decide) ?_
                          refine zg_iinc X 6 (fun v218 => [(3, .int v218), (2, .ref m0), (1, .ref x0), (0, .ref b)]) 0 dL_law_1441 rfl (by decide) (by decide) (by omega) (by omega) (fun _ => rfl) (fun v218 ev218 hv218 => ?_)
                          refine zg_goto X 18 dL_law_1444 (by decide) ?_
                          refine zg_swap ?_
                          have X : zX d L1 kd1 A 4 p s m #[Value.ref b] c cL_law RL := X
                          refine zg_sub [0, 1, 2, 3] rfl ?_
                          exact ihLp _ _ _ v218 h210 h216 hMs215 gNs215 gHs215 gEs215 gLs215 gKs215 (by omega) (by omega)
                        · skip
                          by_cases q219 : v8.toInt = 10
                          · refine zg_tabIn X 526 10 dL_law_33 q219 (by decide) (by decide) rfl (by decide) ?_
                            refine zg_aload_n X 2 rfl dL_law_526 ?_
                            refine zg_aload_n X 3 rfl dL_law_527 ?_
                            refine zg_iload_n X 0 rfl dL_law_528 ?_
                            refine zg_iconst X 1 dL_law_529 (by decide) (fun v220 _ hv220 => ?_)
                            refine zg_iadd X dL_law_530 (by omega) (by omega) (fun v221 ev221 hv221 => ?_)
                            refine zg_sld X hX hbl hbA (by omega) (by omega) dL_law_531 (fun v222 ev222 => ?_)
                            refine zg_cVi (As := [.int v222]) (st := []) X hx0 rfl (by decide) rfl (t_X10_months l d L1 kd1 κ _ hI1 x0 hx0 v222 ) mk_L_60 mc_X10_months mz_X10 mi_X10_months ml_X10_months (na := 1) ⟨md_X10.1, md_X10.2, by decide +kernel⟩ rfl ⟨by decide, by decide⟩ (Nat.le_of_ble_eq_true rfl) dL_law_532 (fun v223 s224 hq => ?_)
                            obtain ⟨hFs224, hSs224, hq⟩ := hq
                            have h225 := hq
                            refine zg_pop X dL_law_535 rfl ?_
                            refine zg_aload_n X 1 rfl dL_law_536 ?_
                            refine zg_aload_n X 3 rfl dL_law_537 ?_
                            refine zg_iload_n X 0 rfl dL_law_538 ?_
                            refine zg_iconst X 1 dL_law_539 (by decide) (fun v226 _ hv226 => ?_)
                            refine zg_iadd X dL_law_540 (by omega) (by omega) (fun v227 ev227 hv227 => ?_)
                            refine zg_sld X hX hbl hbA (by omega) (by omega) dL_law_541 (fun v228 ev228 => ?_)
                            have wv228 : v228 = v222 := by rw [ev228, ev222, show v227 = v221 from Int32.toInt_inj.mp (by omega)]
                            have tv228 : v228.toInt = v222.toInt := by rw [wv228]
                            refine zg_swap ?_
                            have X : zX d L2 kd2 A 4 p s m #[Value.ref b] c cL_law RL := X
                            refine zg_cVi (As := [.int v228]) (st := []) X hm0 rfl (by decide) rfl (t_X11_months l d L2 kd2 κ _ hI2 m0 hm0 v228  hgN hgH hgE hgL) mk_L_63 mc_X11_months mz_X11 mi_X11_months ml_X11_months (na := 1) ⟨md_X11.1, md_X11.2, by decide +kernel⟩ rfl ⟨by decide, by decide⟩ (Nat.le_of_ble_eq_true rfl) dL_law_542 (fun v229 s230 hq => ?_)
                            obtain ⟨hFs230, hq⟩ := hq
                            obtain ⟨⟨gNs230, gHs230, gEs230, gLs230⟩, h231, g232⟩ := hq
                            have gKs230 := gK.same h231 hm0 g232 (by decide) hgK
                            rw [wv228] at hFs230
                            obtain ⟨hvs230, hMs230⟩ := zRP.months hM hI1 hI2 hx0 hm0 hFs224 hFs230 hSs224 g232 hgN
                            refine zg_pop X dL_law_545 rfl ?_
                            refine zg_goto X 1441 dL_law_546 (by decide) ?_
                            refine zg_iinc X 6 (fun v233 => [(3, .int v233), (2, .ref m0), (1, .ref x0), (0, .ref b)]) 0 dL_law_1441 rfl (by decide) (by decide) (by omega) (by omega) (fun _ => rfl) (fun v233 ev233 hv233 => ?_)
                            refine zg_goto X 18 dL_law_1444 (by decide) ?_
                            refine zg_swap ?_
                            have X : zX d L1 kd1 A 4 p s m #[Value.ref b] c cL_law RL := X
                            refine zg_sub [0, 1, 2, 3] rfl ?_
                            exact ihLp _ _ _ v233 h225 h231 hMs230 gNs230 gHs230 gEs230 gLs230 gKs230 (by omega) (by omega)
                          · skip
                            by_cases q234 : v8.toInt = 11
                            · refine zg_tabIn X 549 11 dL_law_33 q234 (by decide) (by decide) rfl (by decide) ?_
                              refine zg_aload_n X 2 rfl dL_law_549 ?_
                              refine zg_cVi (As := []) (st := []) X hx0 rfl (by decide) rfl (t_X10_undo l d L1 kd1 κ _ hI1 x0 hx0  ) mk_L_64 mc_X10_undo mz_X10 mi_X10_undo ml_X10_undo (na := 0) ⟨md_X10.1, md_X10.2, by decide +kernel⟩ rfl ⟨by decide, by decide⟩ (Nat.le_of_ble_eq_true rfl) dL_law_550 (fun v235 s236 hq => ?_)
                              obtain ⟨hFs236, hSs236, hq⟩ := hq
                              obtain ⟨hzh237, h237⟩ := hq
                              refine zg_pop X dL_law_553 rfl ?_
                              refine zg_aload_n X 1 rfl dL_law_554 ?_
                              refine zg_swap ?_
                              have X : zX d L2 kd2 A 4 p s m #[Value.ref b] c cL_law RL := X
                              refine zg_cVi (As := []) (st := []) X hm0 rfl (by decide) rfl (t_X11_undo l d L2 kd2 κ _ hI2 m0 hm0   hgN hgH hgE hgL) mk_L_68 mc_X11_undo mz_X11 mi_X11_undo ml_X11_undo (na := 0) ⟨md_X11.1, md_X11.2, by decide +kernel⟩ rfl ⟨by decide, by decide⟩ (Nat.le_of_ble_eq_true rfl) dL_law_555 (fun v238 s239 hq => ?_)
                              obtain ⟨hFs239, hq⟩ := hq
                              obtain ⟨⟨fs239_res, gNs239, gHs239, gEs239, gLs239⟩, h240, g241⟩ := hq
                              have gKs239 := gK.same h240 hm0 g241 (by decide) hgK
                              obtain ⟨hvs239, hMs239⟩ := zRP.undo hM hI1 hI2 hx0 hm0 hFs236 hFs239 hSs236 g241
                              refine zg_pop X dL_law_558 rfl ?_
                              refine zg_goto X 1441 dL_law_559 (by decide) ?_
                              refine zg_iinc X 6 (fun v242 => [(3, .int v242), (2, .ref m0), (1, .ref x0), (0, .ref b)]) 0 dL_law_1441 rfl (by decide) (by decide) (by omega) (by omega) (fun _ => rfl) (fun v242 ev242 hv242 => ?_)
                              refine zg_goto X 18 dL_law_1444 (by decide) ?_
                              refine zg_swap ?_
                              have X : zX d L1 kd1 A 4 p s m #[Value.ref b] c cL_law RL := X
                              refine zg_sub [0, 1, 2, 3] rfl ?_
                              exact ihLp _ _ _ v242 h237 h240 hMs239 gNs239 gHs239 gEs239 gLs239 gKs239 (by omega) (by omega)
                            · skip
                              by_cases q243 : v8.toInt = 12
                              · refine zg_tabIn X 562 12 dL_law_33 q243 (by decide) (by decide) rfl (by decide) ?_
                                refine zg_aload_n X 2 rfl dL_law_562 ?_
                                refine zg_aload_n X 3 rfl dL_law_563 ?_
                                refine zg_iload_n X 0 rfl dL_law_564 ?_
                                refine zg_iconst X 1 dL_law_565 (by decide) (fun v244 _ hv244 => ?_)
                                refine zg_iadd X dL_law_566 (by omega) (by omega) (fun v245 ev245 hv245 => ?_)
                                refine zg_sld X hX hbl hbA (by omega) (by omega) dL_law_567 (fun v246 ev246 => ?_)
                                refine zg_cVi (As := [.int v246]) (st := []) X hx0 rfl (by decide) rfl (t_X10_agree l d L1 kd1 κ _ hI1 x0 hx0 v246 ) mk_L_69 mc_X10_agree mz_X10 mi_X10_agree ml_X10_agree (na := 1) ⟨md_X10.1, md_X10.2, by decide +kernel⟩ rfl ⟨by decide, by decide⟩ (Nat.le_of_ble_eq_true rfl) dL_law_568 (fun v247 s248 hq => ?_)
                                obtain ⟨hFs248, hSs248, hq⟩ := hq
                                have h249 := hq
                                have hMs248 := zRP.t hM hx0 hI1 hSs248 (fun V ps pc sl rv sh cd hl hv => by rw [show s248 = (F_X10_agree x0 v246 σ1).2 from congrArg Prod.snd hFs248]; exact pAgree hl hv v246) (by decide) (by decide)
                                refine zg_pop X dL_law_571 rfl ?_
                                refine zg_aload_n X 1 rfl dL_law_572 ?_
                                refine zg_aload_n X 3 rfl dL_law_573 ?_
                                refine zg_iload_n X 0 rfl dL_law_574 ?_
                                refine zg_iconst X 1 dL_law_575 (by decide) (fun v250 _ hv250 => ?_)
                                refine zg_iadd X dL_law_576 (by omega) (by omega) (fun v251 ev251 hv251 => ?_)
                                refine zg_sld X hX hbl hbA (by omega) (by omega) dL_law_577 (fun v252 ev252 => ?_)
                                refine zg_swap ?_
                                have X : zX d L2 kd2 A 4 p s m #[Value.ref b] c cL_law RL := X
                                refine zg_cVi (As := [.int v252]) (st := []) X hm0 rfl (by decide) rfl (t_X11_agree l d L2 kd2 κ _ hI2 m0 hm0 v252  hgN hgH hgE hgL) mk_L_72 mc_X11_agree mz_X11 mi_X11_agree ml_X11_agree (na := 1) ⟨md_X11.1, md_X11.2, by decide +kernel⟩ rfl ⟨by decide, by decide⟩ (Nat.le_of_ble_eq_true rfl) dL_law_578 (fun v253 s254 hq => ?_)
                                obtain ⟨hFs254, hq⟩ := hq
                                obtain ⟨⟨gNs254, gHs254, gEs254, gLs254⟩, h255, g256⟩ := hq
                                have gKs254 := gK.same h255 hm0 g256 (by decide) hgK
                                have hMs254 := zRP.m hMs248 hI2 hm0 g256 (by decide) (by decide)
                                refine zg_pop X dL_law_581 rfl ?_
                                refine zg_goto X 1441 dL_law_582 (by decide) ?_
                                refine zg_iinc X 6 (fun v257 => [(3, .int v257), (2, .ref m0), (1, .ref x0), (0, .ref b)]) 0 dL_law_1441 rfl (by decide) (by decide) (by omega) (by omega) (fun _ => rfl) (fun v257 ev257 hv257 => ?_)
                                refine zg_goto X 18 dL_law_1444 (by decide) ?_
                                refine zg_swap ?_
                                have X : zX d L1 kd1 A 4 p s m #[Value.ref b] c cL_law RL := X
                                refine zg_sub [0, 1, 2, 3] rfl ?_
                                exact ihLp _ _ _ v257 h249 h255 hMs254 gNs254 gHs254 gEs254 gLs254 gKs254 (by omega) (by omega)
                              · skip
                                by_cases q258 : v8.toInt = 13
                                · refine zg_tabIn X 585 13 dL_law_33 q258 (by decide) (by decide) rfl (by decide) ?_
                                  refine zg_aload_n X 2 rfl dL_law_585 ?_
                                  refine zg_aload_n X 3 rfl dL_law_586 ?_
                                  refine zg_iload_n X 0 rfl dL_law_587 ?_
                                  refine zg_iconst X 1 dL_law_588 (by decide) (fun v259 _ hv259 => ?_)
                                  refine zg_iadd X dL_law_589 (by omega) (by omega) (fun v260 ev260 hv260 => ?_)
                                  refine zg_sld X hX hbl hbA (by omega) (by omega) dL_law_590 (fun v261 ev261 => ?_)
                                  refine zg_aload_n X 3 rfl dL_law_591 ?_
                                  refine zg_iload_n X 0 rfl dL_law_592 ?_
                                  refine zg_iconst X 2 dL_law_593 (by decide) (fun v262 _ hv262 => ?_)
                                  refine zg_iadd X dL_law_594 (by omega) (by omega) (fun v263 ev263 hv263 => ?_)
                                  refine zg_sld X hX hbl hbA (by omega) (by omega) dL_law_595 (fun v264 ev264 => ?_)
                                  refine zg_cVi (As := [.int v261, .int v264]) (st := []) X hx0 rfl (by decide) rfl (t_X10_behind l d L1 kd1 κ _ hI1 x0 hx0 v261 v264 ) mk_L_73 mc_X10_behind mz_X10 mi_X10_behind ml_X10_behind (na := 2) ⟨md_X10.1, md_X10.2, by decide +kernel⟩ rfl ⟨by decide, by decide⟩ (Nat.le_of_ble_eq_true rfl) dL_law_596 (fun v265 s266 hq => ?_)
                                  obtain ⟨hFs266, hSs266, hq⟩ := hq
                                  have h267 := hq
                                  have hMs266 := zRP.c hM hx0 hI1 hSs266 (zRy.of (rz_X10_behind zRz.rf) hFs266) (by decide) (by decide)
                                  refine zg_pop X dL_law_599 rfl ?_
                                  refine zg_aload_n X 1 rfl dL_law_600 ?_
                                  refine zg_aload_n X 3 rfl dL_law_601 ?_
                                  refine zg_iload_n X 0 rfl dL_law_602 ?_
                                  refine zg_iconst X 1 dL_law_603 (by decide) (fun v268 _ hv268 => ?_)
                                  refine zg_iadd X dL_law_604 (by omega) (by omega) (fun v269 ev269 hv269 => ?_)
                                  refine zg_sld X hX hbl hbA (by omega) (by omega) dL_law_605 (fun v270 ev270 => ?_)
                                  refine zg_aload_n X 3 rfl dL_law_606 ?_
                                  refine zg_iload_n X 0 rfl dL_law_607 ?_
                                  refine zg_iconst X 2 dL_law_608 (by decide) (fun v271 _ hv271 => ?_)
                                  refine zg_iadd X dL_law_609 (by omega) (by omega) (fun v272 ev272 hv272 => ?_)
                                  refine zg_sld X hX hbl hbA (by omega) (by omega) dL_law_610 (fun v273 ev273 => ?_)
                                  refine zg_swap ?_
                                  have X : zX d L2 kd2 A 4 p s m #[Value.ref b] c cL_law RL := X
                                  refine zg_cVi (As := [.int v270, .int v273]) (st := []) X hm0 rfl (by decide) rfl (t_X11_behind l d L2 kd2 κ _ hI2 m0 hm0 v270 v273  hgN hgH hgE hgL) mk_L_76 mc_X11_behind mz_X11 mi_X11_behind ml_X11_behind (na := 2) ⟨md_X11.1, md_X11.2, by decide +kernel⟩ rfl ⟨by decide, by decide⟩ (Nat.le_of_ble_eq_true rfl) dL_law_611 (fun v274 s275 hq => ?_)
                                  obtain ⟨hFs275, hq⟩ := hq
                                  obtain ⟨⟨gNs275, gHs275, gEs275, gLs275⟩, h276, g277⟩ := hq
                                  have gKs275 := gK.same h276 hm0 g277 (by decide) hgK
                                  have hMs275 := zRP.m hMs266 hI2 hm0 g277 (by decide) (by decide)
                                  refine zg_pop X dL_law_614 rfl ?_
                                  refine zg_goto X 1441 dL_law_615 (by decide) ?_
                                  refine zg_iinc X 6 (fun v278 => [(3, .int v278), (2, .ref m0), (1, .ref x0), (0, .ref b)]) 0 dL_law_1441 rfl (by decide) (by decide) (by omega) (by omega) (fun _ => rfl) (fun v278 ev278 hv278 => ?_)
                                  refine zg_goto X 18 dL_law_1444 (by decide) ?_
                                  refine zg_swap ?_
                                  have X : zX d L1 kd1 A 4 p s m #[Value.ref b] c cL_law RL := X
                                  refine zg_sub [0, 1, 2, 3] rfl ?_
                                  exact ihLp _ _ _ v278 h267 h276 hMs275 gNs275 gHs275 gEs275 gLs275 gKs275 (by omega) (by omega)
                                · skip
                                  by_cases q279 : v8.toInt = 14
                                  · refine zg_tabIn X 618 14 dL_law_33 q279 (by decide) (by decide) rfl (by decide) ?_
                                    refine zg_aload_n X 2 rfl dL_law_618 ?_
                                    refine zg_aload_n X 3 rfl dL_law_619 ?_
                                    refine zg_iload_n X 0 rfl dL_law_620 ?_
                                    refine zg_iconst X 1 dL_law_621 (by decide) (fun v280 _ hv280 => ?_)
                                    refine zg_iadd X dL_law_622 (by omega) (by omega) (fun v281 ev281 hv281 => ?_)
                                    refine zg_sld X hX hbl hbA (by omega) (by omega) dL_law_623 (fun v282 ev282 => ?_)
                                    refine zg_cVi (As := [.int v282]) (st := []) X hx0 rfl (by decide) rfl (t_X10_margin l d L1 kd1 κ _ hI1 x0 hx0 v282 ) mk_L_77 mc_X10_margin mz_X10 mi_X10_margin ml_X10_margin (na := 1) ⟨md_X10.1, md_X10.2, by decide +kernel⟩ rfl ⟨by decide, by decide⟩ (Nat.le_of_ble_eq_true rfl) dL_law_624 (fun v283 s284 hq => ?_)
                                    obtain ⟨hFs284, hSs284, hq⟩ := hq
                                    have h285 := hq
                                    have hMs284 := zRP.c hM hx0 hI1 hSs284 (zRy.of (rz_X10_margin zRz.rf) hFs284) (by decide) (by decide)
                                    refine zg_pop X dL_law_627 rfl ?_
                                    refine zg_aload_n X 1 rfl dL_law_628 ?_
                                    refine zg_aload_n X 3 rfl dL_law_629 ?_
                                    refine zg_iload_n X 0 rfl dL_law_630 ?_
                                    refine zg_iconst X 1 dL_law_631 (by decide) (fun v286 _ hv286 => ?_)
                                    refine zg_iadd X dL_law_632 (by omega) (by omega) (fun v287 ev287 hv287 => ?_)
                                    refine zg_sld X hX hbl hbA (by omega) (by omega) dL_law_633 (fun v288 ev288 => ?_)
                                    refine zg_swap ?_
                                    have X : zX d L2 kd2 A 4 p s m #[Value.ref b] c cL_law RL := X
                                    refine zg_cVi (As := [.int v288]) (st := []) X hm0 rfl (by decide) rfl (t_X11_margin l d L2 kd2 κ _ hI2 m0 hm0 v288  hgN hgH hgE hgL) mk_L_80 mc_X11_margin mz_X11 mi_X11_margin ml_X11_margin (na := 1) ⟨md_X11.1, md_X11.2, by decide +kernel⟩ rfl ⟨by decide, by decide⟩ (Nat.le_of_ble_eq_true rfl) dL_law_634 (fun v289 s290 hq => ?_)
                                    obtain ⟨hFs290, hq⟩ := hq
                                    obtain ⟨⟨gNs290, gHs290, gEs290, gLs290⟩, h291, g292⟩ := hq
                                    have gKs290 := gK.same h291 hm0 g292 (by decide) hgK
                                    have hMs290 := zRP.m hMs284 hI2 hm0 g292 (by decide) (by decide)
                                    refine zg_pop X dL_law_637 rfl ?_
                                    refine zg_goto X 1441 dL_law_638 (by decide) ?_
                                    refine zg_iinc X 6 (fun v293 => [(3, .int v293), (2, .ref m0), (1, .ref x0), (0, .ref b)]) 0 dL_law_1441 rfl (by decide) (by decide) (by omega) (by omega) (fun _ => rfl) (fun v293 ev293 hv293 => ?_)
                                    refine zg_goto X 18 dL_law_1444 (by decide) ?_
                                    refine zg_swap ?_
                                    have X : zX d L1 kd1 A 4 p s m #[Value.ref b] c cL_law RL := X
                                    refine zg_sub [0, 1, 2, 3] rfl ?_
                                    exact ihLp _ _ _ v293 h285 h291 hMs290 gNs290 gHs290 gEs290 gLs290 gKs290 (by omega) (by omega)
                                  · skip
                                    by_cases q294 : v8.toInt = 15
                                    · refine zg_tabIn X 641 15 dL_law_33 q294 (by decide) (by decide) rfl (by decide) ?_
                                      refine zg_aload_n X 2 rfl dL_law_641 ?_
                                      refine zg_aload_n X 3 rfl dL_law_642 ?_
                                      refine zg_iload_n X 0 rfl dL_law_643 ?_
                                      refine zg_iconst X 1 dL_law_644 (by decide) (fun v295 _ hv295 => ?_)
                                      refine zg_iadd X dL_law_645 (by omega) (by omega) (fun v296 ev296 hv296 => ?_)
                                      refine zg_sld X hX hbl hbA (by omega) (by omega) dL_law_646 (fun v297 ev297 => ?_)
                                      refine zg_cVi (As := [.int v297]) (st := []) X hx0 rfl (by decide) rfl (t_X10_richest l d L1 kd1 κ _ hI1 x0 hx0 v297 ) mk_L_81 mc_X10_richest mz_X10 mi_X10_richest ml_X10_richest (na := 1) ⟨md_X10.1, md_X10.2, by decide +kernel⟩ rfl ⟨by decide, by decide⟩ (Nat.le_of_ble_eq_true rfl) dL_law_647 (fun v298 s299 hq => ?_)
                                      obtain ⟨hFs299, hSs299, hq⟩ := hq
                                      have h300 := hq
                                      have hMs299 := zRP.c0 hM hx0 hI1 hSs299 (by decide)
                                      refine zg_pop X dL_law_650 rfl ?_
                                      refine zg_aload_n X 1 rfl dL_law_651 ?_
                                      refine zg_aload_n X 3 rfl dL_law_652 ?_
                                      refine zg_iload_n X 0 rfl dL_law_653 ?_
                                      refine zg_iconst X 1 dL_law_654 (by decide) (fun v301 _ hv301 => ?_)
                                      refine zg_iadd X dL_law_655 (by omega) (by omega) (fun v302 ev302 hv302 => ?_)
                                      refine zg_sld X hX hbl hbA (by omega) (by omega) dL_law_656 (fun v303 ev303 => ?_)
                                      refine zg_swap ?_
                                      have X : zX d L2 kd2 A 4 p s m #[Value.ref b] c cL_law RL := X
                                      refine zg_cVi (As := [.int v303]) (st := []) X hm0 rfl (by decide) rfl (t_X11_richest l d L2 kd2 κ _ hI2 m0 hm0 v303  ) mk_L_84 mc_X11_richest mz_X11 mi_X11_richest ml_X11_richest (na := 1) ⟨md_X11.1, md_X11.2, by decide +kernel⟩ rfl ⟨by decide, by decide⟩ (Nat.le_of_ble_eq_true rfl) dL_law_657 (fun v304 s305 hq => ?_)
                                      obtain ⟨hFs305, rfl⟩ := hq
                                      refine zg_pop X dL_law_660 rfl ?_
                                      refine zg_goto X 1441 dL_law_661 (by decide) ?_
                                      refine zg_iinc X 6 (fun v307 => [(3, .int v307), (2, .ref m0), (1, .ref x0), (0, .ref b)]) 0 dL_law_1441 rfl (by decide) (by decide) (by omega) (by omega) (fun _ => rfl) (fun v307 ev307 hv307 => ?_)
                                      refine zg_goto X 18 dL_law_1444 (by decide) ?_
                                      refine zg_swap ?_
                                      have X : zX d L1 kd1 A 4 p s m #[Value.ref b] c cL_law RL := X
                                      refine zg_sub [0, 1, 2, 3] rfl ?_
                                      exact ihLp _ _ _ v307 h300 hI2 hMs299 hgN hgH hgE hgL hgK (by omega) (by omega)
                                    · skip
                                      by_cases q308 : v8.toInt = 16
                                      · refine zg_tabIn X 664 16 dL_law_33 q308 (by decide) (by decide) rfl (by decide) ?_
                                        refine zg_aload_n X 2 rfl dL_law_664 ?_
                                        refine zg_aload_n X 3 rfl dL_law_665 ?_
                                        refine zg_iload_n X 0 rfl dL_law_666 ?_
                                        refine zg_iconst X 1 dL_law_667 (by decide) (fun v309 _ hv309 => ?_)
                                        refine zg_iadd X dL_law_668 (by omega) (by omega) (fun v310 ev310 hv310 => ?_)
                                        refine zg_sld X hX hbl hbA (by omega) (by omega) dL_law_669 (fun v311 ev311 => ?_)
                                        refine zg_aload_n X 3 rfl dL_law_670 ?_
                                        refine zg_iload_n X 0 rfl dL_law_671 ?_
                                        refine zg_iconst X 2 dL_law_672 (by decide) (fun v312 _ hv312 => ?_)
                                        refine zg_iadd X dL_law_673 (by omega) (by omega) (fun v313 ev313 hv313 => ?_)
                                        refine zg_sld X hX hbl hbA (by omega) (by omega) dL_law_674 (fun v314 ev314 => ?_)
                                        refine zg_cVi (As := [.int v311, .int v314]) (st := []) X hx0 rfl (by decide) rfl (t_X10_rank l d L1 kd1 κ _ hI1 x0 hx0 v311 v314 ) mk_L_85 mc_X10_rank mz_X10 mi_X10_rank ml_X10_rank (na := 2) ⟨md_X10.1, md_X10.2, by decide +kernel⟩ rfl ⟨by decide, by decide⟩ (Nat.le_of_ble_eq_true rfl) dL_law_675 (fun v315 s316 hq => ?_)
                                        obtain ⟨hFs316, hSs316, hq⟩ := hq
                                        have h317 := hq
                                        have hMs316 := zRP.c hM hx0 hI1 hSs316 (zRy.of (rz_X10_rank zRz.rf) hFs316) (by decide) (by decide)
                                        refine zg_pop X dL_law_678 rfl ?_
                                        refine zg_aload_n X 1 rfl dL_law_679 ?_
                                        refine zg_aload_n X 3 rfl dL_law_680 ?_
                                        refine zg_iload_n X 0 rfl dL_law_681 ?_
                                        refine zg_iconst X 1 dL_law_682 (by decide) (fun v318 _ hv318 => ?_)
                                        refine zg_iadd X dL_law_683 (by omega) (by omega) (fun v319 ev319 hv319 => ?_)
                                        refine zg_sld X hX hbl hbA (by omega) (by omega) dL_law_684 (fun v320 ev320 => ?_)
                                        refine zg_aload_n X 3 rfl dL_law_685 ?_
                                        refine zg_iload_n X 0 rfl dL_law_686 ?_
                                        refine zg_iconst X 2 dL_law_687 (by decide) (fun v321 _ hv321 => ?_)
                                        refine zg_iadd X dL_law_688 (by omega) (by omega) (fun v322 ev322 hv322 => ?_)
                                        refine zg_sld X hX hbl hbA (by omega) (by omega) dL_law_689 (fun v323 ev323 => ?_)
                                        refine zg_swap ?_
                                        have X : zX d L2 kd2 A 4 p s m #[Value.ref b] c cL_law RL := X
                                        refine zg_cVi (As := [.int v320, .int v323]) (st := []) X hm0 rfl (by decide) rfl (t_X11_rank l d L2 kd2 κ _ hI2 m0 hm0 v320 v323  hgN hgH hgE hgL) mk_L_88 mc_X11_rank mz_X11 mi_X11_rank ml_X11_rank (na := 2) ⟨md_X11.1, md_X11.2, by decide +kernel⟩ rfl ⟨by decide, by decide⟩ (Nat.le_of_ble_eq_true rfl) dL_law_690 (fun v324 s325 hq => ?_)
                                        obtain ⟨hFs325, hq⟩ := hq
                                        obtain ⟨⟨gNs325, gHs325, gEs325, gLs325⟩, h326, g327⟩ := hq
                                        have gKs325 := gK.same h326 hm0 g327 (by decide) hgK
                                        have hMs325 := zRP.m hMs316 hI2 hm0 g327 (by decide) (by decide)
                                        refine zg_pop X dL_law_693 rfl ?_
                                        refine zg_goto X 1441 dL_law_694 (by decide) ?_
                                        refine zg_iinc X 6 (fun v328 => [(3, .int v328), (2, .ref m0), (1, .ref x0), (0, .ref b)]) 0 dL_law_1441 rfl (by decide) (by decide) (by omega) (by omega) (fun _ => rfl) (fun v328 ev328 hv328 => ?_)
                                        refine zg_goto X 18 dL_law_1444 (by decide) ?_
                                        refine zg_swap ?_
                                        have X : zX d L1 kd1 A 4 p s m #[Value.ref b] c cL_law RL := X
                                        refine zg_sub [0, 1, 2, 3] rfl ?_
                                        exact ihLp _ _ _ v328 h317 h326 hMs325 gNs325 gHs325 gEs325 gLs325 gKs325 (by omega) (by omega)
                                      · skip
                                        by_cases q329 : v8.toInt = 17
                                        · refine zg_tabIn X 697 17 dL_law_33 q329 (by decide) (by decide) rfl (by decide) ?_
                                          refine zg_aload_n X 2 rfl dL_law_697 ?_
                                          refine zg_aload_n X 3 rfl dL_law_698 ?_
                                          refine zg_iload_n X 0 rfl dL_law_699 ?_
                                          refine zg_iconst X 1 dL_law_700 (by decide) (fun v330 _ hv330 => ?_)
                                          refine zg_iadd X dL_law_701 (by omega) (by omega) (fun v331 ev331 hv331 => ?_)
                                          refine zg_sld X hX hbl hbA (by omega) (by omega) dL_law_702 (fun v332 ev332 => ?_)
                                          refine zg_cVi (As := [.int v332]) (st := []) X hx0 rfl (by decide) rfl (t_X10_vote l d L1 kd1 κ _ hI1 x0 hx0 v332 ) mk_L_89 mc_X10_vote mz_X10 mi_X10_vote ml_X10_vote (na := 1) ⟨md_X10.1, md_X10.2, by decide +kernel⟩ rfl ⟨by decide, by decide⟩ (Nat.le_of_ble_eq_true rfl) dL_law_703 (fun v333 s334 hq => ?_)
                                          obtain ⟨hFs334, hSs334, hq⟩ := hq
                                          have h335 := hq
                                          have hMs334 := zRP.c hM hx0 hI1 hSs334 (zRy.of (rz_X10_vote zRz.rf) hFs334) (by decide) (by decide)
                                          refine zg_pop X dL_law_706 rfl ?_
                                          refine zg_aload_n X 1 rfl dL_law_707 ?_
                                          refine zg_aload_n X 3 rfl dL_law_708 ?_
                                          refine zg_iload_n X 0 rfl dL_law_709 ?_
                                          refine zg_iconst X 1 dL_law_710 (by decide) (fun v336 _ hv336 => ?_)
                                          refine zg_iadd X dL_law_711 (by omega) (by omega) (fun v337 ev337 hv337 => ?_)
                                          refine zg_sld X hX hbl hbA (by omega) (by omega) dL_law_712 (fun v338 ev338 => ?_)
                                          refine zg_swap ?_
                                          have X : zX d L2 kd2 A 4 p s m #[Value.ref b] c cL_law RL := X
                                          refine zg_cVi (As := [.int v338]) (st := []) X hm0 rfl (by decide) rfl (t_X11_vote l d L2 kd2 κ _ hI2 m0 hm0 v338  hgN hgH hgE hgL) mk_L_92 mc_X11_vote mz_X11 mi_X11_vote ml_X11_vote (na := 1) ⟨md_X11.1, md_X11.2, by decide +kernel⟩ rfl ⟨by decide, by decide⟩ (Nat.le_of_ble_eq_true rfl) dL_law_713 (fun v339 s340 hq => ?_)
                                          obtain ⟨hFs340, hq⟩ := hq
                                          obtain ⟨⟨gNs340, gHs340, gEs340, gLs340⟩, h341, g342⟩ := hq
                                          have gKs340 := gK.same h341 hm0 g342 (by decide) hgK
                                          have hMs340 := zRP.m hMs334 hI2 hm0 g342 (by decide) (by decide)
                                          refine zg_pop X dL_law_716 rfl ?_
                                          refine zg_goto X 1441 dL_law_717 (by decide) ?_
                                          refine zg_iinc X 6 (fun v343 => [(3, .int v343), (2, .ref m0), (1, .ref x0), (0, .ref b)]) 0 dL_law_1441 rfl (by decide) (by decide) (by omega) (by omega) (fun _ => rfl) (fun v343 ev343 hv343 => ?_)
                                          refine zg_goto X 18 dL_law_1444 (by decide) ?_
                                          refine zg_swap ?_
                                          have X : zX d L1 kd1 A 4 p s m #[Value.ref b] c cL_law RL := X
                                          refine zg_sub [0, 1, 2, 3] rfl ?_
                                          exact ihLp _ _ _ v343 h335 h341 hMs340 gNs340 gHs340 gEs340 gLs340 gKs340 (by omega) (by omega)
                                        · skip
                                          by_cases q344 : v8.toInt = 18
                                          · refine zg_tabIn X 720 18 dL_law_33 q344 (by decide) (by decide) rfl (by decide) ?_
                                            refine zg_aload_n X 2 rfl dL_law_720 ?_
                                            refine zg_aload_n X 3 rfl dL_law_721 ?_
                                            refine zg_iload_n X 0 rfl dL_law_722 ?_
                                            refine zg_iconst X 1 dL_law_723 (by decide) (fun v345 _ hv345 => ?_)
                                            refine zg_iadd X dL_law_724 (by omega) (by omega) (fun v346 ev346 hv346 => ?_)
                                            refine zg_sld X hX hbl hbA (by omega) (by omega) dL_law_725 (fun v347 ev347 => ?_)
                                            refine zg_aload_n X 3 rfl dL_law_726 ?_
                                            refine zg_iload_n X 0 rfl dL_law_727 ?_
                                            refine zg_iconst X 2 dL_law_728 (by decide) (fun v348 _ hv348 => ?_)
                                            refine zg_iadd X dL_law_729 (by omega) (by omega) (fun v349 ev349 hv349 => ?_)
                                            refine zg_sld X hX hbl hbA (by omega) (by omega) dL_law_730 (fun v350 ev350 => ?_)
                                            refine zg_cVi (As := [.int v347, .int v350]) (st := []) X hx0 rfl (by decide) rfl (t_X10_dams l d L1 kd1 κ _ hI1 x0 hx0 v347 v350 ) mk_L_93 mc_X10_dams mz_X10 mi_X10_dams ml_X10_dams (na := 2) ⟨md_X10.1, md_X10.2, by decide +kernel⟩ rfl ⟨by decide, by decide⟩ (Nat.le_of_ble_eq_true rfl) dL_law_731 (fun v351 s352 hq => ?_)
                                            obtain ⟨hFs352, hSs352, hq⟩ := hq
                                            have h353 := hq
                                            have hMs352 := zRP.c hM hx0 hI1 hSs352 (zRy.of (rz_X10_dams zRz.rf) hFs352) (by decide) (by decide)
                                            refine zg_aload_n X 1 rfl dL_law_734 ?_
                                            refine zg_aload_n X 3 rfl dL_law_735 ?_
                                            refine zg_iload_n X 0 rfl dL_law_736 ?_
                                            refine zg_iconst X 1 dL_law_737 (by decide) (fun v354 _ hv354 => ?_)
                                            refine zg_iadd X dL_law_738 (by omega) (by omega) (fun v355 ev355 hv355 => ?_)
                                            refine zg_sld X hX hbl hbA (by omega) (by omega) dL_law_739 (fun v356 ev356 => ?_)
                                            have wv356 : v356 = v347 := by rw [ev356, ev347, show v355 = v346 from Int32.toInt_inj.mp (by omega)]
                                            have tv356 : v356.toInt = v347.toInt := by rw [wv356]
                                            refine zg_aload_n X 3 rfl dL_law_740 ?_
                                            refine zg_iload_n X 0 rfl dL_law_741 ?_
                                            refine zg_iconst X 2 dL_law_742 (by decide) (fun v357 _ hv357 => ?_)
                                            refine zg_iadd X dL_law_743 (by omega) (by omega) (fun v358 ev358 hv358 => ?_)
                                            refine zg_sld X hX hbl hbA (by omega) (by omega) dL_law_744 (fun v359 ev359 => ?_)
                                            have wv359 : v359 = v350 := by rw [ev359, ev350, show v358 = v349 from Int32.toInt_inj.mp (by omega)]
                                            have tv359 : v359.toInt = v350.toInt := by rw [wv359]
                                            refine zg_swap ?_
                                            have X : zX d L2 kd2 A 4 p s m #[Value.ref b] c cL_law RL := X
                                            refine zg_cVi (As := [.int v356, .int v359]) (st := [.int v351]) X hm0 rfl (by decide) rfl (t_X11_dams l d L2 kd2 κ _ hI2 m0 hm0 v356 v359  hgN hgH hgE hgL) mk_L_96 mc_X11_dams mz_X11 mi_X11_dams ml_X11_dams (na := 2) ⟨md_X11.1, md_X11.2, by decide +kernel⟩ rfl ⟨by decide, by decide⟩ (Nat.le_of_ble_eq_true rfl) dL_law_745 (fun v360 s361 hq => ?_)
                                            obtain ⟨hFs361, hq⟩ := hq
                                            obtain ⟨⟨gNs361, gHs361, gEs361, gLs361⟩, h362, g363⟩ := hq
                                            have gKs361 := gK.same h362 hm0 g363 (by decide) hgK
                                            rw [wv356, wv359] at hFs361
                                            have hvs361 := zRP.dams hM hI1 hI2 hx0 hm0 hgN hFs352 hFs361
                                            have hMs361 := zRP.m hMs352 hI2 hm0 g363 (by decide) (by decide)
                                            refine zg_icmp_eq X 1441 dL_law_748 (by decide) (fun c364 => ?_) (fun c364 => ?_)
                                            · skip
                                              refine zg_iinc X 6 (fun v365 => [(3, .int v365), (2, .ref m0), (1, .ref x0), (0, .ref b)]) 0 dL_law_1441 rfl (by decide) (by decide) (by omega) (by omega) (fun _ => rfl) (fun v365 ev365 hv365 => ?_)
                                              refine zg_goto X 18 dL_law_1444 (by decide) ?_
                                              refine zg_swap ?_
                                              have X : zX d L1 kd1 A 4 p s m #[Value.ref b] c cL_law RL := X
                                              refine zg_sub [0, 1, 2, 3] rfl ?_
                                              exact ihLp _ _ _ v365 h353 h362 hMs361 gNs361 gHs361 gEs361 gLs361 gKs361 (by omega) (by omega)
                                            · skip
                                              refine zg_iconst X 0 dL_law_751 (by decide) (fun v366 _ hv366 => ?_)
                                              exfalso
                                              omega
                                          · skip
                                            by_cases q367 : v8.toInt = 19
                                            · refine zg_tabIn X 753 19 dL_law_33 q367 (by decide) (by decide) rfl (by decide) ?_
                                              refine zg_aload_n X 2 rfl dL_law_753 ?_
                                              refine zg_aload_n X 3 rfl dL_law_754 ?_
                                              refine zg_iload_n X 0 rfl dL_law_755 ?_
                                              refine zg_iconst X 1 dL_law_756 (by decide) (fun v368 _ hv368 => ?_)
                                              refine zg_iadd X dL_law_757 (by omega) (by omega) (fun v369 ev369 hv369 => ?_)
                                              refine zg_sld X hX hbl hbA (by omega) (by omega) dL_law_758 (fun v370 ev370 => ?_)
                                              refine zg_cVi (As := [.int v370]) (st := []) X hx0 rfl (by decide) rfl (t_X10_loss l d L1 kd1 κ _ hI1 x0 hx0 v370 ) mk_L_97 mc_X10_loss mz_X10 mi_X10_loss ml_X10_loss (na := 1) ⟨md_X10.1, md_X10.2, by decide +kernel⟩ rfl ⟨by decide, by decide⟩ (Nat.le_of_ble_eq_true rfl) dL_law_759 (fun v371 s372 hq => ?_)
                                              obtain ⟨hFs372, hSs372, hq⟩ := hq
                                              have h373 := hq
                                              have hMs372 := zRP.c hM hx0 hI1 hSs372 (zRy.of (rz_X10_loss zRz.rf) hFs372) (by decide) (by decide)
                                              refine zg_pop X dL_law_762 rfl ?_
                                              refine zg_aload_n X 1 rfl dL_law_763 ?_
                                              refine zg_aload_n X 3 rfl dL_law_764 ?_
                                              refine zg_iload_n X 0 rfl dL_law_765 ?_
                                              refine zg_iconst X 1 dL_law_766 (by decide) (fun v374 _ hv374 => ?_)
                                              refine zg_iadd X dL_law_767 (by omega) (by omega) (fun v375 ev375 hv375 => ?_)
                                              refine zg_sld X hX hbl hbA (by omega) (by omega) dL_law_768 (fun v376 ev376 => ?_)
                                              refine zg_swap ?_
                                              have X : zX d L2 kd2 A 4 p s m #[Value.ref b] c cL_law RL := X
                                              refine zg_cVi (As := [.int v376]) (st := []) X hm0 rfl (by decide) rfl (t_X11_loss l d L2 kd2 κ _ hI2 m0 hm0 v376  hgN hgH hgE hgL) mk_L_100 mc_X11_loss mz_X11 mi_X11_loss ml_X11_loss (na := 1) ⟨md_X11.1, md_X11.2, by decide +kernel⟩ rfl ⟨by decide, by decide⟩ (Nat.le_of_ble_eq_true rfl) dL_law_769 (fun v377 s378 hq => ?_)
                                              obtain ⟨hFs378, hq⟩ := hq
                                              obtain ⟨⟨gNs378, gHs378, gEs378, gLs378⟩, h379, g380⟩ := hq
                                              have gKs378 := gK.same h379 hm0 g380 (by decide) hgK
                                              have hMs378 := zRP.m hMs372 hI2 hm0 g380 (by decide) (by decide)
                                              refine zg_pop X dL_law_772 rfl ?_
                                              refine zg_goto X 1441 dL_law_773 (by decide) ?_
                                              refine zg_iinc X 6 (fun v381 => [(3, .int v381), (2, .ref m0), (1, .ref x0), (0, .ref b)]) 0 dL_law_1441 rfl (by decide) (by decide) (by omega) (by omega) (fun _ => rfl) (fun v381 ev381 hv381 => ?_)
                                              refine zg_goto X 18 dL_law_1444 (by decide) ?_
                                              refine zg_swap ?_
                                              have X : zX d L1 kd1 A 4 p s m #[Value.ref b] c cL_law RL := X
                                              refine zg_sub [0, 1, 2, 3] rfl ?_
                                              exact ihLp _ _ _ v381 h373 h379 hMs378 gNs378 gHs378 gEs378 gLs378 gKs378 (by omega) (by omega)
                                            · skip
                                              by_cases q382 : v8.toInt = 20
                                              · refine zg_tabIn X 776 20 dL_law_33 q382 (by decide) (by decide) rfl (by decide) ?_
                                                refine zg_aload_n X 2 rfl dL_law_776 ?_
                                                refine zg_aload_n X 3 rfl dL_law_777 ?_
                                                refine zg_iload_n X 0 rfl dL_law_778 ?_
                                                refine zg_iconst X 1 dL_law_779 (by decide) (fun v383 _ hv383 => ?_)
                                                refine zg_iadd X dL_law_780 (by omega) (by omega) (fun v384 ev384 hv384 => ?_)
                                                refine zg_sld X hX hbl hbA (by omega) (by omega) dL_law_781 (fun v385 ev385 => ?_)
                                                refine zg_cVi (As := [.int v385]) (st := []) X hx0 rfl (by decide) rfl (t_X10_main l d L1 kd1 κ _ hI1 x0 hx0 v385 ) mk_L_101 mc_X10_main mz_X10 mi_X10_main ml_X10_main (na := 1) ⟨md_X10.1, md_X10.2, by decide +kernel⟩ rfl ⟨by decide, by decide⟩ (Nat.le_of_ble_eq_true rfl) dL_law_782 (fun v386 s387 hq => ?_)
                                                obtain ⟨hFs387, hSs387, hq⟩ := hq
                                                have h388 := hq
                                                have hMs387 := zRP.c hM hx0 hI1 hSs387 (zRy.of (rz_X10_main zRz.rf) hFs387) (by decide) (by decide)
                                                refine zg_pop X dL_law_785 rfl ?_
                                                refine zg_aload_n X 1 rfl dL_law_786 ?_
                                                refine zg_aload_n X 3 rfl dL_law_787 ?_
                                                refine zg_iload_n X 0 rfl dL_law_788 ?_
                                                refine zg_iconst X 1 dL_law_789 (by decide) (fun v389 _ hv389 => ?_)
                                                refine zg_iadd X dL_law_790 (by omega) (by omega) (fun v390 ev390 hv390 => ?_)
                                                refine zg_sld X hX hbl hbA (by omega) (by omega) dL_law_791 (fun v391 ev391 => ?_)
                                                refine zg_swap ?_
                                                have X : zX d L2 kd2 A 4 p s m #[Value.ref b] c cL_law RL := X
                                                refine zg_cVi (As := [.int v391]) (st := []) X hm0 rfl (by decide) rfl (t_X11_main l d L2 kd2 κ _ hI2 m0 hm0 v391  hgN hgH hgE hgL) mk_L_104 mc_X11_main mz_X11 mi_X11_main ml_X11_main (na := 1) ⟨md_X11.1, md_X11.2, by decide +kernel⟩ rfl ⟨by decide, by decide⟩ (Nat.le_of_ble_eq_true rfl) dL_law_792 (fun v392 s393 hq => ?_)
                                                obtain ⟨hFs393, hq⟩ := hq
                                                obtain ⟨⟨gNs393, gHs393, gEs393, gLs393⟩, h394, g395⟩ := hq
                                                have gKs393 := gK.same h394 hm0 g395 (by decide) hgK
                                                have hMs393 := zRP.m hMs387 hI2 hm0 g395 (by decide) (by decide)
                                                refine zg_pop X dL_law_795 rfl ?_
                                                refine zg_goto X 1441 dL_law_796 (by decide) ?_
                                                refine zg_iinc X 6 (fun v396 => [(3, .int v396), (2, .ref m0), (1, .ref x0), (0, .ref b)]) 0 dL_law_1441 rfl (by decide) (by decide) (by omega) (by omega) (fun _ => rfl) (fun v396 ev396 hv396 => ?_)
                                                refine zg_goto X 18 dL_law_1444 (by decide) ?_
                                                refine zg_swap ?_
                                                have X : zX d L1 kd1 A 4 p s m #[Value.ref b] c cL_law RL := X
                                                refine zg_sub [0, 1, 2, 3] rfl ?_
                                                exact ihLp _ _ _ v396 h388 h394 hMs393 gNs393 gHs393 gEs393 gLs393 gKs393 (by omega) (by omega)
                                              · skip
                                                by_cases q397 : v8.toInt = 21
                                                · refine zg_tabIn X 799 21 dL_law_33 q397 (by decide) (by decide) rfl (by decide) ?_
                                                  refine zg_aload_n X 2 rfl dL_law_799 ?_
                                                  refine zg_aload_n X 3 rfl dL_law_800 ?_
                                                  refine zg_iload_n X 0 rfl dL_law_801 ?_
                                                  refine zg_iconst X 1 dL_law_802 (by decide) (fun v398 _ hv398 => ?_)
                                                  refine zg_iadd X dL_law_803 (by omega) (by omega) (fun v399 ev399 hv399 => ?_)
                                                  refine zg_sld X hX hbl hbA (by omega) (by omega) dL_law_804 (fun v400 ev400 => ?_)
                                                  refine zg_aload_n X 3 rfl dL_law_805 ?_
                                                  refine zg_iload_n X 0 rfl dL_law_806 ?_
                                                  refine zg_iconst X 2 dL_law_807 (by decide) (fun v401 _ hv401 => ?_)
                                                  refine zg_iadd X dL_law_808 (by omega) (by omega) (fun v402 ev402 hv402 => ?_)
                                                  refine zg_sld X hX hbl hbA (by omega) (by omega) dL_law_809 (fun v403 ev403 => ?_)
                                                  refine zg_cVi (As := [.int v400, .int v403]) (st := []) X hx0 rfl (by decide) rfl (t_X10_driest l d L1 kd1 κ _ hI1 x0 hx0 v400 v403 ) mk_L_105 mc_X10_driest mz_X10 mi_X10_driest ml_X10_driest (na := 2) ⟨md_X10.1, md_X10.2, by decide +kernel⟩ rfl ⟨by decide, by decide⟩ (Nat.le_of_ble_eq_true rfl) dL_law_810 (fun v404 s405 hq => ?_)
                                                  obtain ⟨hFs405, hSs405, hq⟩ := hq
                                                  have h406 := hq
                                                  have hMs405 := zRP.t hM hx0 hI1 hSs405 (fun V ps pc sl rv sh cd hl hv => by rw [show s405 = (F_X10_driest x0 v400 v403 σ1).2 from congrArg Prod.snd hFs405]; exact pDriest hl hv v400 v403) (by decide) (by decide)
                                                  refine zg_pop X dL_law_813 rfl ?_
                                                  refine zg_aload_n X 1 rfl dL_law_814 ?_
                                                  refine zg_aload_n X 3 rfl dL_law_815 ?_
                                                  refine zg_iload_n X 0 rfl dL_law_816 ?_
                                                  refine zg_iconst X 1 dL_law_817 (by decide) (fun v407 _ hv407 => ?_)
                                                  refine zg_iadd X dL_law_818 (by omega) (by omega) (fun v408 ev408 hv408 => ?_)
                                                  refine zg_sld X hX hbl hbA (by omega) (by omega) dL_law_819 (fun v409 ev409 => ?_)
                                                  refine zg_aload_n X 3 rfl dL_law_820 ?_
                                                  refine zg_iload_n X 0 rfl dL_law_821 ?_
                                                  refine zg_iconst X 2 dL_law_822 (by decide) (fun v410 _ hv410 => ?_)
                                                  refine zg_iadd X dL_law_823 (by omega) (by omega) (fun v411 ev411 hv411 => ?_)
                                                  refine zg_sld X hX hbl hbA (by omega) (by omega) dL_law_824 (fun v412 ev412 => ?_)
                                                  refine zg_swap ?_
                                                  have X : zX d L2 kd2 A 4 p s m #[Value.ref b] c cL_law RL := X
                                                  refine zg_cVi (As := [.int v409, .int v412]) (st := []) X hm0 rfl (by decide) rfl (t_X11_driest l d L2 kd2 κ _ hI2 m0 hm0 v409 v412  hgN hgH hgE hgL) mk_L_108 mc_X11_driest mz_X11 mi_X11_driest ml_X11_driest (na := 2) ⟨md_X11.1, md_X11.2, by decide +kernel⟩ rfl ⟨by decide, by decide⟩ (Nat.le_of_ble_eq_true rfl) dL_law_825 (fun v413 s414 hq => ?_)
                                                  obtain ⟨hFs414, hq⟩ := hq
                                                  obtain ⟨⟨gNs414, gHs414, gEs414, gLs414⟩, h415, g416⟩ := hq
                                                  have gKs414 := gK.same h415 hm0 g416 (by decide) hgK
                                                  have hMs414 := zRP.m hMs405 hI2 hm0 g416 (by decide) (by decide)
                                                  refine zg_pop X dL_law_828 rfl ?_
                                                  refine zg_goto X 1441 dL_law_829 (by decide) ?_
                                                  refine zg_iinc X 6 (fun v417 => [(3, .int v417), (2, .ref m0), (1, .ref x0), (0, .ref b)]) 0 dL_law_1441 rfl (by decide) (by decide) (by omega) (by omega) (fun _ => rfl) (fun v417 ev417 hv417 => ?_)
                                                  refine zg_goto X 18 dL_law_1444 (by decide) ?_
                                                  refine zg_swap ?_
                                                  have X : zX d L1 kd1 A 4 p s m #[Value.ref b] c cL_law RL := X
                                                  refine zg_sub [0, 1, 2, 3] rfl ?_
                                                  exact ihLp _ _ _ v417 h406 h415 hMs414 gNs414 gHs414 gEs414 gLs414 gKs414 (by omega) (by omega)
                                                · skip
                                                  by_cases q418 : v8.toInt = 22
                                                  · refine zg_tabIn X 832 22 dL_law_33 q418 (by decide) (by decide) rfl (by decide) ?_
                                                    refine zg_aload_n X 2 rfl dL_law_832 ?_
                                                    refine zg_aload_n X 3 rfl dL_law_833 ?_
                                                    refine zg_iload_n X 0 rfl dL_law_834 ?_
                                                    refine zg_iconst X 1 dL_law_835 (by decide) (fun v419 _ hv419 => ?_)
                                                    refine zg_iadd X dL_law_836 (by omega) (by omega) (fun v420 ev420 hv420 => ?_)
                                                    refine zg_sld X hX hbl hbA (by omega) (by omega) dL_law_837 (fun v421 ev421 => ?_)
                                                    refine zg_aload_n X 3 rfl dL_law_838 ?_
                                                    refine zg_iload_n X 0 rfl dL_law_839 ?_
                                                    refine zg_iconst X 2 dL_law_840 (by decide) (fun v422 _ hv422 => ?_)
                                                    refine zg_iadd X dL_law_841 (by omega) (by omega) (fun v423 ev423 hv423 => ?_)
                                                    refine zg_sld X hX hbl hbA (by omega) (by omega) dL_law_842 (fun v424 ev424 => ?_)
                                                    refine zg_cVi (As := [.int v421, .int v424]) (st := []) X hx0 rfl (by decide) rfl (t_X10_turnFor l d L1 kd1 κ _ hI1 x0 hx0 v421 v424 ) mk_L_109 mc_X10_turnFor mz_X10 mi_X10_turnFor ml_X10_turnFor (na := 2) ⟨md_X10.1, md_X10.2, by decide +kernel⟩ rfl ⟨by decide, by decide⟩ (Nat.le_of_ble_eq_true rfl) dL_law_843 (fun v425 s426 hq => ?_)
                                                    obtain ⟨hFs426, hSs426, hq⟩ := hq
                                                    have h427 := hq
                                                    have hMs426 := zRP.t hM hx0 hI1 hSs426 (fun V ps pc sl rv sh cd hl hv => by rw [show s426 = (F_X10_turnFor x0 v421 v424 σ1).2 from congrArg Prod.snd hFs426]; exact pTurnFor hl hv v421 v424) (by decide) (by decide)
                                                    refine zg_pop X dL_law_846 rfl ?_
                                                    refine zg_aload_n X 1 rfl dL_law_847 ?_
                                                    refine zg_aload_n X 3 rfl dL_law_848 ?_
                                                    refine zg_iload_n X 0 rfl dL_law_849 ?_
                                                    refine zg_iconst X 1 dL_law_850 (by decide) (fun v428 _ hv428 => ?_)
                                                    refine zg_iadd X dL_law_851 (by omega) (by omega) (fun v429 ev429 hv429 => ?_)
                                                    refine zg_sld X hX hbl hbA (by omega) (by omega) dL_law_852 (fun v430 ev430 => ?_)
                                                    refine zg_aload_n X 3 rfl dL_law_853 ?_
                                                    refine zg_iload_n X 0 rfl dL_law_854 ?_
                                                    refine zg_iconst X 2 dL_law_855 (by decide) (fun v431 _ hv431 => ?_)
                                                    refine zg_iadd X dL_law_856 (by omega) (by omega) (fun v432 ev432 hv432 => ?_)
                                                    refine zg_sld X hX hbl hbA (by omega) (by omega) dL_law_857 (fun v433 ev433 => ?_)
                                                    refine zg_swap ?_
                                                    have X : zX d L2 kd2 A 4 p s m #[Value.ref b] c cL_law RL := X
                                                    refine zg_cVi (As := [.int v430, .int v433]) (st := []) X hm0 rfl (by decide) rfl (t_X11_turnFor l d L2 kd2 κ _ hI2 m0 hm0 v430 v433  hgN hgH hgE hgL) mk_L_112 mc_X11_turnFor mz_X11 mi_X11_turnFor ml_X11_turnFor (na := 2) ⟨md_X11.1, md_X11.2, by decide +kernel⟩ rfl ⟨by decide, by decide⟩ (Nat.le_of_ble_eq_true rfl) dL_law_858 (fun v434 s435 hq => ?_)
                                                    obtain ⟨hFs435, hq⟩ := hq
                                                    obtain ⟨⟨gNs435, gHs435, gEs435, gLs435⟩, h436, g437⟩ := hq
                                                    have gKs435 := gK.same h436 hm0 g437 (by decide) hgK
                                                    have hMs435 := zRP.m hMs426 hI2 hm0 g437 (by decide) (by decide)
                                                    refine zg_pop X dL_law_861 rfl ?_
                                                    refine zg_goto X 1441 dL_law_862 (by decide) ?_
                                                    refine zg_iinc X 6 (fun v438 => [(3, .int v438), (2, .ref m0), (1, .ref x0), (0, .ref b)]) 0 dL_law_1441 rfl (by decide) (by decide) (by omega) (by omega) (fun _ => rfl) (fun v438 ev438 hv438 => ?_)
                                                    refine zg_goto X 18 dL_law_1444 (by decide) ?_
                                                    refine zg_swap ?_
                                                    have X : zX d L1 kd1 A 4 p s m #[Value.ref b] c cL_law RL := X
                                                    refine zg_sub [0, 1, 2, 3] rfl ?_
                                                    exact ihLp _ _ _ v438 h427 h436 hMs435 gNs435 gHs435 gEs435 gLs435 gKs435 (by omega) (by omega)
                                                  · skip
                                                    by_cases q439 : v8.toInt = 23
                                                    · refine zg_tabIn X 865 23 dL_law_33 q439 (by decide) (by decide) rfl (by decide) ?_
                                                      refine zg_aload_n X 2 rfl dL_law_865 ?_
                                                      refine zg_aload_n X 3 rfl dL_law_866 ?_
                                                      refine zg_iload_n X 0 rfl dL_law_867 ?_
                                                      refine zg_iconst X 1 dL_law_868 (by decide) (fun v440 _ hv440 => ?_)
                                                      refine zg_iadd X dL_law_869 (by omega) (by omega) (fun v441 ev441 hv441 => ?_)
                                                      refine zg_sld X hX hbl hbA (by omega) (by omega) dL_law_870 (fun v442 ev442 => ?_)
                                                      refine zg_aload_n X 3 rfl dL_law_871 ?_
                                                      refine zg_iload_n X 0 rfl dL_law_872 ?_
                                                      refine zg_iconst X 2 dL_law_873 (by decide) (fun v443 _ hv443 => ?_)
                                                      refine zg_iadd X dL_law_874 (by omega) (by omega) (fun v444 ev444 hv444 => ?_)
                                                      refine zg_sld X hX hbl hbA (by omega) (by omega) dL_law_875 (fun v445 ev445 => ?_)
                                                      refine zg_cVi (As := [.int v442, .int v445]) (st := []) X hx0 rfl (by decide) rfl (t_X10_damFor l d L1 kd1 κ _ hI1 x0 hx0 v442 v445 ) mk_L_113 mc_X10_damFor mz_X10 mi_X10_damFor ml_X10_damFor (na := 2) ⟨md_X10.1, md_X10.2, by decide +kernel⟩ rfl ⟨by decide, by decide⟩ (Nat.le_of_ble_eq_true rfl) dL_law_876 (fun v446 s447 hq => ?_)
                                                      obtain ⟨hFs447, hSs447, hq⟩ := hq
                                                      have h448 := hq
                                                      have hMs447 := zRP.c hM hx0 hI1 hSs447 (zRy.of (rz_X10_damFor zRz.rf) hFs447) (by decide) (by decide)
                                                      refine zg_pop X dL_law_879 rfl ?_
                                                      refine zg_aload_n X 1 rfl dL_law_880 ?_
                                                      refine zg_aload_n X 3 rfl dL_law_881 ?_
                                                      refine zg_iload_n X 0 rfl dL_law_882 ?_
                                                      refine zg_iconst X 1 dL_law_883 (by decide) (fun v449 _ hv449 => ?_)
                                                      refine zg_iadd X dL_law_884 (by omega) (by omega) (fun v450 ev450 hv450 => ?_)
                                                      refine zg_sld X hX hbl hbA (by omega) (by omega) dL_law_885 (fun v451 ev451 => ?_)
                                                      refine zg_aload_n X 3 rfl dL_law_886 ?_
                                                      refine zg_iload_n X 0 rfl dL_law_887 ?_
                                                      refine zg_iconst X 2 dL_law_888 (by decide) (fun v452 _ hv452 => ?_)
                                                      refine zg_iadd X dL_law_889 (by omega) (by omega) (fun v453 ev453 hv453 => ?_)
                                                      refine zg_sld X hX hbl hbA (by omega) (by omega) dL_law_890 (fun v454 ev454 => ?_)
                                                      refine zg_swap ?_
                                                      have X : zX d L2 kd2 A 4 p s m #[Value.ref b] c cL_law RL := X
                                                      refine zg_cVi (As := [.int v451, .int v454]) (st := []) X hm0 rfl (by decide) rfl (t_X11_damFor l d L2 kd2 κ _ hI2 m0 hm0 v451 v454  hgN hgH hgE hgL) mk_L_116 mc_X11_damFor mz_X11 mi_X11_damFor ml_X11_damFor (na := 2) ⟨md_X11.1, md_X11.2, by decide +kernel⟩ rfl ⟨by decide, by decide⟩ (Nat.le_of_ble_eq_true rfl) dL_law_891 (fun v455 s456 hq => ?_)
                                                      obtain ⟨hFs456, hq⟩ := hq
                                                      obtain ⟨⟨gNs456, gHs456, gEs456, gLs456⟩, h457, g458⟩ := hq
                                                      have gKs456 := gK.same h457 hm0 g458 (by decide) hgK
                                                      have hMs456 := zRP.m hMs447 hI2 hm0 g458 (by decide) (by decide)
                                                      refine zg_pop X dL_law_894 rfl ?_
                                                      refine zg_goto X 1441 dL_law_895 (by decide) ?_
                                                      refine zg_iinc X 6 (fun v459 => [(3, .int v459), (2, .ref m0), (1, .ref x0), (0, .ref b)]) 0 dL_law_1441 rfl (by decide) (by decide) (by omega) (by omega) (fun _ => rfl) (fun v459 ev459 hv459 => ?_)
                                                      refine zg_goto X 18 dL_law_1444 (by decide) ?_
                                                      refine zg_swap ?_
                                                      have X : zX d L1 kd1 A 4 p s m #[Value.ref b] c cL_law RL := X
                                                      refine zg_sub [0, 1, 2, 3] rfl ?_
                                                      exact ihLp _ _ _ v459 h448 h457 hMs456 gNs456 gHs456 gEs456 gLs456 gKs456 (by omega) (by omega)
                                                    · skip
                                                      by_cases q460 : v8.toInt = 24
                                                      · refine zg_tabIn X 898 24 dL_law_33 q460 (by decide) (by decide) rfl (by decide) ?_
                                                        refine zg_aload_n X 2 rfl dL_law_898 ?_
                                                        refine zg_cVi (As := []) (st := []) X hx0 rfl (by decide) rfl (t_X10_depth l d L1 kd1 κ _ hI1 x0 hx0  ) mk_L_117 mc_X10_depth mz_X10 mi_X10_depth ml_X10_depth (na := 0) ⟨md_X10.1, md_X10.2, by decide +kernel⟩ rfl ⟨by decide, by decide⟩ (Nat.le_of_ble_eq_true rfl) dL_law_899 (fun v461 s462 hq => ?_)
                                                        obtain ⟨hFs462, hSs462, hq⟩ := hq
                                                        have h463 := hq
                                                        have hMs462 := zRP.c hM hx0 hI1 hSs462 (zRy.of (rz_X10_depth zRz.rf) hFs462) (by decide) (by decide)
                                                        refine zg_pop X dL_law_902 rfl ?_
                                                        refine zg_aload_n X 1 rfl dL_law_903 ?_
                                                        refine zg_swap ?_
                                                        have X : zX d L2 kd2 A 4 p s m #[Value.ref b] c cL_law RL := X
                                                        refine zg_cVi (As := []) (st := []) X hm0 rfl (by decide) rfl (t_X11_depth l d L2 kd2 κ _ hI2 m0 hm0   hgN hgH hgE hgL) mk_L_120 mc_X11_depth mz_X11 mi_X11_depth ml_X11_depth (na := 0) ⟨md_X11.1, md_X11.2, by decide +kernel⟩ rfl ⟨by decide, by decide⟩ (Nat.le_of_ble_eq_true rfl) dL_law_904 (fun v464 s465 hq => ?_)
                                                        obtain ⟨hFs465, hq⟩ := hq
                                                        obtain ⟨⟨gNs465, gHs465, gEs465, gLs465⟩, h466, g467⟩ := hq
                                                        have gKs465 := gK.same h466 hm0 g467 (by decide) hgK
                                                        have hMs465 := zRP.m hMs462 hI2 hm0 g467 (by decide) (by decide)
                                                        refine zg_pop X dL_law_907 rfl ?_
                                                        refine zg_goto X 1441 dL_law_908 (by decide) ?_
                                                        refine zg_iinc X 6 (fun v468 => [(3, .int v468), (2, .ref m0), (1, .ref x0), (0, .ref b)]) 0 dL_law_1441 rfl (by decide) (by decide) (by omega) (by omega) (fun _ => rfl) (fun v468 ev468 hv468 => ?_)
                                                        refine zg_goto X 18 dL_law_1444 (by decide) ?_
                                                        refine zg_swap ?_
                                                        have X : zX d L1 kd1 A 4 p s m #[Value.ref b] c cL_law RL := X
                                                        refine zg_sub [0, 1, 2, 3] rfl ?_
                                                        exact ihLp _ _ _ v468 h463 h466 hMs465 gNs465 gHs465 gEs465 gLs465 gKs465 (by omega) (by omega)
                                                      · skip
                                                        by_cases q469 : v8.toInt = 25
                                                        · refine zg_tabIn X 911 25 dL_law_33 q469 (by decide) (by decide) rfl (by decide) ?_
                                                          refine zg_aload_n X 2 rfl dL_law_911 ?_
                                                          refine zg_aload_n X 3 rfl dL_law_912 ?_
                                                          refine zg_iload_n X 0 rfl dL_law_913 ?_
                                                          refine zg_iconst X 1 dL_law_914 (by decide) (fun v470 _ hv470 => ?_)
                                                          refine zg_iadd X dL_law_915 (by omega) (by omega) (fun v471 ev471 hv471 => ?_)
                                                          refine zg_sld X hX hbl hbA (by omega) (by omega) dL_law_916 (fun v472 ev472 => ?_)
                                                          refine zg_cVi (As := [.int v472]) (st := []) X hx0 rfl (by decide) rfl (t_X10_order l d L1 kd1 κ _ hI1 x0 hx0 v472 ) mk_L_121 mc_X10_order mz_X10 mi_X10_order ml_X10_order (na := 1) ⟨md_X10.1, md_X10.2, by decide +kernel⟩ rfl ⟨by decide, by decide⟩ (Nat.le_of_ble_eq_true rfl) dL_law_917 (fun v473 s474 hq => ?_)
                                                          obtain ⟨hFs474, hSs474, hq⟩ := hq
                                                          have h475 := hq
                                                          have hMs474 := zRP.c hM hx0 hI1 hSs474 (zRy.of (rz_X10_order zRz.rf) hFs474) (by decide) (by decide)
                                                          refine zg_pop X dL_law_920 rfl ?_
                                                          refine zg_aload_n X 1 rfl dL_law_921 ?_
                                                          refine zg_aload_n X 3 rfl dL_law_922 ?_
                                                          refine zg_iload_n X 0 rfl dL_law_923 ?_
                                                          refine zg_iconst X 1 dL_law_924 (by decide) (fun v476 _ hv476 => ?_)
                                                          refine zg_iadd X dL_law_925 (by omega) (by omega) (fun v477 ev477 hv477 => ?_)
                                                          refine zg_sld X hX hbl hbA (by omega) (by omega) dL_law_926 (fun v478 ev478 => ?_)
                                                          refine zg_swap ?_
                                                          have X : zX d L2 kd2 A 4 p s m #[Value.ref b] c cL_law RL := X
                                                          refine zg_cVi (As := [.int v478]) (st := []) X hm0 rfl (by decide) rfl (t_X11_order l d L2 kd2 κ _ hI2 m0 hm0 v478  hgN hgH hgE hgL) mk_L_124 mc_X11_order mz_X11 mi_X11_order ml_X11_order (na := 1) ⟨md_X11.1, md_X11.2, by decide +kernel⟩ rfl ⟨by decide, by decide⟩ (Nat.le_of_ble_eq_true rfl) dL_law_927 (fun v479 s480 hq => ?_)
                                                          obtain ⟨hFs480, hq⟩ := hq
                                                          obtain ⟨⟨gNs480, gHs480, gEs480, gLs480⟩, h481, g482⟩ := hq
                                                          have gKs480 := gK.same h481 hm0 g482 (by decide) hgK
                                                          have hMs480 := zRP.m hMs474 hI2 hm0 g482 (by decide) (by decide)
                                                          refine zg_pop X dL_law_930 rfl ?_
                                                          refine zg_goto X 1441 dL_law_931 (by decide) ?_
                                                          refine zg_iinc X 6 (fun v483 => [(3, .int v483), (2, .ref m0), (1, .ref x0), (0, .ref b)]) 0 dL_law_1441 rfl (by decide) (by decide) (by omega) (by omega) (fun _ => rfl) (fun v483 ev483 hv483 => ?_)
                                                          refine zg_goto X 18 dL_law_1444 (by decide) ?_
                                                          refine zg_swap ?_
                                                          have X : zX d L1 kd1 A 4 p s m #[Value.ref b] c cL_law RL := X
                                                          refine zg_sub [0, 1, 2, 3] rfl ?_
                                                          exact ihLp _ _ _ v483 h475 h481 hMs480 gNs480 gHs480 gEs480 gLs480 gKs480 (by omega) (by omega)
                                                        · skip
                                                          by_cases q484 : v8.toInt = 26
                                                          · refine zg_tabIn X 934 26 dL_law_33 q484 (by decide) (by decide) rfl (by decide) ?_
                                                            refine zg_aload_n X 2 rfl dL_law_934 ?_
                                                            refine zg_aload_n X 3 rfl dL_law_935 ?_
                                                            refine zg_iload_n X 0 rfl dL_law_936 ?_
                                                            refine zg_iconst X 1 dL_law_937 (by decide) (fun v485 _ hv485 => ?_)
                                                            refine zg_iadd X dL_law_938 (by omega) (by omega) (fun v486 ev486 hv486 => ?_)
                                                            refine zg_sld X hX hbl hbA (by omega) (by omega) dL_law_939 (fun v487 ev487 => ?_)
                                                            refine zg_aload_n X 3 rfl dL_law_940 ?_
                                                            refine zg_iload_n X 0 rfl dL_law_941 ?_
                                                            refine zg_iconst X 2 dL_law_942 (by decide) (fun v488 _ hv488 => ?_)
                                                            refine zg_iadd X dL_law_943 (by omega) (by omega) (fun v489 ev489 hv489 => ?_)
                                                            refine zg_sld X hX hbl hbA (by omega) (by omega) dL_law_944 (fun v490 ev490 => ?_)
                                                            refine zg_cVi (As := [.int v487, .int v490]) (st := []) X hx0 rfl (by decide) rfl (t_X10_basin l d L1 kd1 κ _ hI1 x0 hx0 v487 v490 ) mk_L_125 mc_X10_basin mz_X10 mi_X10_basin ml_X10_basin (na := 2) ⟨md_X10.1, md_X10.2, by decide +kernel⟩ rfl ⟨by decide, by decide⟩ (Nat.le_of_ble_eq_true rfl) dL_law_945 (fun v491 s492 hq => ?_)
                                                            obtain ⟨hFs492, hSs492, hq⟩ := hq
                                                            have h493 := hq
                                                            have hMs492 := zRP.c hM hx0 hI1 hSs492 (zRy.of (rz_X10_basin zRz.rf) hFs492) (by decide) (by decide)
                                                            refine zg_pop X dL_law_948 rfl ?_
                                                            refine zg_aload_n X 1 rfl dL_law_949 ?_
                                                            refine zg_aload_n X 3 rfl dL_law_950 ?_
                                                            refine zg_iload_n X 0 rfl dL_law_951 ?_
                                                            refine zg_iconst X 1 dL_law_952 (by decide) (fun v494 _ hv494 => ?_)
                                                            refine zg_iadd X dL_law_953 (by omega) (by omega) (fun v495 ev495 hv495 => ?_)
                                                            refine zg_sld X hX hbl hbA (by omega) (by omega) dL_law_954 (fun v496 ev496 => ?_)
                                                            refine zg_aload_n X 3 rfl dL_law_955 ?_
                                                            refine zg_iload_n X 0 rfl dL_law_956 ?_
                                                            refine zg_iconst X 2 dL_law_957 (by decide) (fun v497 _ hv497 => ?_)
                                                            refine zg_iadd X dL_law_958 (by omega) (by omega) (fun v498 ev498 hv498 => ?_)
                                                            refine zg_sld X hX hbl hbA (by omega) (by omega) dL_law_959 (fun v499 ev499 => ?_)
                                                            refine zg_swap ?_
                                                            have X : zX d L2 kd2 A 4 p s m #[Value.ref b] c cL_law RL := X
                                                            refine zg_cVi (As := [.int v496, .int v499]) (st := []) X hm0 rfl (by decide) rfl (t_X11_basin l d L2 kd2 κ _ hI2 m0 hm0 v496 v499  hgN hgH hgE hgL) mk_L_128 mc_X11_basin mz_X11 mi_X11_basin ml_X11_basin (na := 2) ⟨md_X11.1, md_X11.2, by decide +kernel⟩ rfl ⟨by decide, by decide⟩ (Nat.le_of_ble_eq_true rfl) dL_law_960 (fun v500 s501 hq => ?_)
                                                            obtain ⟨hFs501, hq⟩ := hq
                                                            obtain ⟨⟨gNs501, gHs501, gEs501, gLs501⟩, h502, g503⟩ := hq
                                                            have gKs501 := gK.same h502 hm0 g503 (by decide) hgK
                                                            have hMs501 := zRP.m hMs492 hI2 hm0 g503 (by decide) (by decide)
                                                            refine zg_pop X dL_law_963 rfl ?_
                                                            refine zg_goto X 1441 dL_law_964 (by decide) ?_
                                                            refine zg_iinc X 6 (fun v504 => [(3, .int v504), (2, .ref m0), (1, .ref x0), (0, .ref b)]) 0 dL_law_1441 rfl (by decide) (by decide) (by omega) (by omega) (fun _ => rfl) (fun v504 ev504 hv504 => ?_)
                                                            refine zg_goto X 18 dL_law_1444 (by decide) ?_
                                                            refine zg_swap ?_
                                                            have X : zX d L1 kd1 A 4 p s m #[Value.ref b] c cL_law RL := X
                                                            refine zg_sub [0, 1, 2, 3] rfl ?_
                                                            exact ihLp _ _ _ v504 h493 h502 hMs501 gNs501 gHs501 gEs501 gLs501 gKs501 (by omega) (by omega)
                                                          · skip
                                                            by_cases q505 : v8.toInt = 27
                                                            · refine zg_tabIn X 967 27 dL_law_33 q505 (by decide) (by decide) rfl (by decide) ?_
                                                              refine zg_aload_n X 2 rfl dL_law_967 ?_
                                                              refine zg_aload_n X 3 rfl dL_law_968 ?_
                                                              refine zg_iload_n X 0 rfl dL_law_969 ?_
                                                              refine zg_iconst X 1 dL_law_970 (by decide) (fun v506 _ hv506 => ?_)
                                                              refine zg_iadd X dL_law_971 (by omega) (by omega) (fun v507 ev507 hv507 => ?_)
                                                              refine zg_sld X hX hbl hbA (by omega) (by omega) dL_law_972 (fun v508 ev508 => ?_)
                                                              refine zg_cVi (As := [.int v508]) (st := []) X hx0 rfl (by decide) rfl (t_X10_part l d L1 kd1 κ _ hI1 x0 hx0 v508 ) mk_L_129 mc_X10_part mz_X10 mi_X10_part ml_X10_part (na := 1) ⟨md_X10.1, md_X10.2, by decide +kernel⟩ rfl ⟨by decide, by decide⟩ (Nat.le_of_ble_eq_true rfl) dL_law_973 (fun v509 s510 hq => ?_)
                                                              obtain ⟨hFs510, hSs510, hq⟩ := hq
                                                              have h511 := hq
                                                              have hMs510 := zRP.c hM hx0 hI1 hSs510 (zRy.of (rz_X10_part zRz.rf) hFs510) (by decide) (by decide)
                                                              refine zg_pop X dL_law_976 rfl ?_
                                                              refine zg_aload_n X 1 rfl dL_law_977 ?_
                                                              refine zg_aload_n X 3 rfl dL_law_978 ?_
                                                              refine zg_iload_n X 0 rfl dL_law_979 ?_
                                                              refine zg_iconst X 1 dL_law_980 (by decide) (fun v512 _ hv512 => ?_)
                                                              refine zg_iadd X dL_law_981 (by omega) (by omega) (fun v513 ev513 hv513 => ?_)
                                                              refine zg_sld X hX hbl hbA (by omega) (by omega) dL_law_982 (fun v514 ev514 => ?_)
                                                              refine zg_swap ?_
                                                              have X : zX d L2 kd2 A 4 p s m #[Value.ref b] c cL_law RL := X
                                                              refine zg_cVi (As := [.int v514]) (st := []) X hm0 rfl (by decide) rfl (t_X11_part l d L2 kd2 κ _ hI2 m0 hm0 v514  hgN hgH hgE hgL) mk_L_132 mc_X11_part mz_X11 mi_X11_part ml_X11_part (na := 1) ⟨md_X11.1, md_X11.2, by decide +kernel⟩ rfl ⟨by decide, by decide⟩ (Nat.le_of_ble_eq_true rfl) dL_law_983 (fun v515 s516 hq => ?_)
                                                              obtain ⟨hFs516, hq⟩ := hq
                                                              obtain ⟨⟨gNs516, gHs516, gEs516, gLs516⟩, h517, g518⟩ := hq
                                                              have gKs516 := gK.same h517 hm0 g518 (by decide) hgK
                                                              have hMs516 := zRP.m hMs510 hI2 hm0 g518 (by decide) (by decide)
                                                              refine zg_pop X dL_law_986 rfl ?_
                                                              refine zg_goto X 1441 dL_law_987 (by decide) ?_
                                                              refine zg_iinc X 6 (fun v519 => [(3, .int v519), (2, .ref m0), (1, .ref x0), (0, .ref b)]) 0 dL_law_1441 rfl (by decide) (by decide) (by omega) (by omega) (fun _ => rfl) (fun v519 ev519 hv519 => ?_)
                                                              refine zg_goto X 18 dL_law_1444 (by decide) ?_
                                                              refine zg_swap ?_
                                                              have X : zX d L1 kd1 A 4 p s m #[Value.ref b] c cL_law RL := X
                                                              refine zg_sub [0, 1, 2, 3] rfl ?_
                                                              exact ihLp _ _ _ v519 h511 h517 hMs516 gNs516 gHs516 gEs516 gLs516 gKs516 (by omega) (by omega)
                                                            · skip
                                                              by_cases q520 : v8.toInt = 28
                                                              · refine zg_tabIn X 990 28 dL_law_33 q520 (by decide) (by decide) rfl (by decide) ?_
                                                                refine zg_aload_n X 2 rfl dL_law_990 ?_
                                                                refine zg_aload_n X 3 rfl dL_law_991 ?_
                                                                refine zg_iload_n X 0 rfl dL_law_992 ?_
                                                                refine zg_iconst X 1 dL_law_993 (by decide) (fun v521 _ hv521 => ?_)
                                                                refine zg_iadd X dL_law_994 (by omega) (by omega) (fun v522 ev522 hv522 => ?_)
                                                                refine zg_sld X hX hbl hbA (by omega) (by omega) dL_law_995 (fun v523 ev523 => ?_)
                                                                refine zg_aload_n X 3 rfl dL_law_996 ?_
                                                                refine zg_iload_n X 0 rfl dL_law_997 ?_
                                                                refine zg_iconst X 2 dL_law_998 (by decide) (fun v524 _ hv524 => ?_)
                                                                refine zg_iadd X dL_law_999 (by omega) (by omega) (fun v525 ev525 hv525 => ?_)
                                                                refine zg_sld X hX hbl hbA (by omega) (by omega) dL_law_1000 (fun v526 ev526 => ?_)
                                                                refine zg_aload_n X 3 rfl dL_law_1001 ?_
                                                                refine zg_iload_n X 0 rfl dL_law_1002 ?_
                                                                refine zg_iconst X 3 dL_law_1003 (by decide) (fun v527 _ hv527 => ?_)
                                                                refine zg_iadd X dL_law_1004 (by omega) (by omega) (fun v528 ev528 hv528 => ?_)
                                                                refine zg_sld X hX hbl hbA (by omega) (by omega) dL_law_1005 (fun v529 ev529 => ?_)
                                                                refine zg_cVi (As := [.int v523, .int v526, .int v529]) (st := []) X hx0 rfl (by decide) rfl (t_X10_reign l d L1 kd1 κ _ hI1 x0 hx0 v523 v526 v529 ) mk_L_133 mc_X10_reign mz_X10 mi_X10_reign ml_X10_reign (na := 3) ⟨md_X10.1, md_X10.2, by decide +kernel⟩ rfl ⟨by decide, by decide⟩ (Nat.le_of_ble_eq_true rfl) dL_law_1006 (fun v530 s531 hq => ?_)
                                                                obtain ⟨hFs531, hSs531, hq⟩ := hq
                                                                have h532 := hq
                                                                have hMs531 := zRP.t hM hx0 hI1 hSs531 (fun V ps pc sl rv sh cd hl hv => by rw [show s531 = (F_X10_reign x0 v523 v526 v529 σ1).2 from congrArg Prod.snd hFs531]; exact pReign hl hv v523 v526 v529) (by decide) (by decide)
                                                                refine zg_pop X dL_law_1009 rfl ?_
                                                                refine zg_aload_n X 1 rfl dL_law_1010 ?_
                                                                refine zg_aload_n X 3 rfl dL_law_1011 ?_
                                                                refine zg_iload_n X 0 rfl dL_law_1012 ?_
                                                                refine zg_iconst X 1 dL_law_1013 (by decide) (fun v533 _ hv533 => ?_)
                                                                refine zg_iadd X dL_law_1014 (by omega) (by omega) (fun v534 ev534 hv534 => ?_)
                                                                refine zg_sld X hX hbl hbA (by omega) (by omega) dL_law_1015 (fun v535 ev535 => ?_)
                                                                refine zg_aload_n X 3 rfl dL_law_1016 ?_
                                                                refine zg_iload_n X 0 rfl dL_law_1017 ?_
                                                                refine zg_iconst X 2 dL_law_1018 (by decide) (fun v536 _ hv536 => ?_)
                                                                refine zg_iadd X dL_law_1019 (by omega) (by omega) (fun v537 ev537 hv537 => ?_)
                                                                refine zg_sld X hX hbl hbA (by omega) (by omega) dL_law_1020 (fun v538 ev538 => ?_)
                                                                refine zg_aload_n X 3 rfl dL_law_1021 ?_
                                                                refine zg_iload_n X 0 rfl dL_law_1022 ?_
                                                                refine zg_iconst X 3 dL_law_1023 (by decide) (fun v539 _ hv539 => ?_)
                                                                refine zg_iadd X dL_law_1024 (by omega) (by omega) (fun v540 ev540 hv540 => ?_)
                                                                refine zg_sld X hX hbl hbA (by omega) (by omega) dL_law_1025 (fun v541 ev541 => ?_)
                                                                refine zg_swap ?_
                                                                have X : zX d L2 kd2 A 4 p s m #[Value.ref b] c cL_law RL := X
                                                                refine zg_cVi (As := [.int v535, .int v538, .int v541]) (st := []) X hm0 rfl (by decide) rfl (t_X11_reign l d L2 kd2 κ _ hI2 m0 hm0 v535 v538 v541  hgN hgH hgE hgL) mk_L_137 mc_X11_reign mz_X11 mi_X11_reign ml_X11_reign (na := 3) ⟨md_X11.1, md_X11.2, by decide +kernel⟩ rfl ⟨by decide, by decide⟩ (Nat.le_of_ble_eq_true rfl) dL_law_1026 (fun v542 s543 hq => ?_)
                                                                obtain ⟨hFs543, hq⟩ := hq
                                                                obtain ⟨⟨gNs543, gHs543, gEs543, gLs543⟩, h544, g545⟩ := hq
                                                                have gKs543 := gK.same h544 hm0 g545 (by decide) hgK
                                                                have hMs543 := zRP.m hMs531 hI2 hm0 g545 (by decide) (by decide)
                                                                refine zg_pop X dL_law_1029 rfl ?_
                                                                refine zg_goto X 1441 dL_law_1030 (by decide) ?_
                                                                refine zg_iinc X 6 (fun v546 => [(3, .int v546), (2, .ref m0), (1, .ref x0), (0, .ref b)]) 0 dL_law_1441 rfl (by decide) (by decide) (by omega) (by omega) (fun _ => rfl) (fun v546 ev546 hv546 => ?_)
                                                                refine zg_goto X 18 dL_law_1444 (by decide) ?_
                                                                refine zg_swap ?_
                                                                have X : zX d L1 kd1 A 4 p s m #[Value.ref b] c cL_law RL := X
                                                                refine zg_sub [0, 1, 2, 3] rfl ?_
                                                                exact ihLp _ _ _ v546 h532 h544 hMs543 gNs543 gHs543 gEs543 gLs543 gKs543 (by omega) (by omega)
                                                              · skip
                                                                by_cases q547 : v8.toInt = 29
                                                                · refine zg_tabIn X 1033 29 dL_law_33 q547 (by decide) (by decide) rfl (by decide) ?_
                                                                  refine zg_aload_n X 2 rfl dL_law_1033 ?_
                                                                  refine zg_cVi (As := []) (st := []) X hx0 rfl (by decide) rfl (t_X10_tour l d L1 kd1 κ _ hI1 x0 hx0  ) mk_L_138 mc_X10_tour mz_X10 mi_X10_tour ml_X10_tour (na := 0) ⟨md_X10.1, md_X10.2, by decide +kernel⟩ rfl ⟨by decide, by decide⟩ (Nat.le_of_ble_eq_true rfl) dL_law_1034 (fun v548 s549 hq => ?_)
                                                                  obtain ⟨hFs549, hSs549, hq⟩ := hq
                                                                  have h550 := hq
                                                                  have hMs549 := zRP.c hM hx0 hI1 hSs549 (zRy.of (rz_X10_tour zRz.rf) hFs549) (by decide) (by decide)
                                                                  refine zg_pop X dL_law_1037 rfl ?_
                                                                  refine zg_aload_n X 1 rfl dL_law_1038 ?_
                                                                  refine zg_swap ?_
                                                                  have X : zX d L2 kd2 A 4 p s m #[Value.ref b] c cL_law RL := X
                                                                  refine zg_cVi (As := []) (st := []) X hm0 rfl (by decide) rfl (t_X11_tour l d L2 kd2 κ _ hI2 m0 hm0   hgN hgH hgE hgL) mk_L_141 mc_X11_tour mz_X11 mi_X11_tour ml_X11_tour (na := 0) ⟨md_X11.1, md_X11.2, by decide +kernel⟩ rfl ⟨by decide, by decide⟩ (Nat.le_of_ble_eq_true rfl) dL_law_1039 (fun v551 s552 hq => ?_)
                                                                  obtain ⟨hFs552, hq⟩ := hq
                                                                  obtain ⟨⟨gNs552, gHs552, gEs552, gLs552⟩, h553, g554⟩ := hq
                                                                  have gKs552 := gK.same h553 hm0 g554 (by decide) hgK
                                                                  have hMs552 := zRP.m hMs549 hI2 hm0 g554 (by decide) (by decide)
                                                                  refine zg_pop X dL_law_1042 rfl ?_
                                                                  refine zg_goto X 1441 dL_law_1043 (by decide) ?_
                                                                  refine zg_iinc X 6 (fun v555 => [(3, .int v555), (2, .ref m0), (1, .ref x0), (0, .ref b)]) 0 dL_law_1441 rfl (by decide) (by decide) (by omega) (by omega) (fun _ => rfl) (fun v555 ev555 hv555 => ?_)
                                                                  refine zg_goto X 18 dL_law_1444 (by decide) ?_
                                                                  refine zg_swap ?_
                                                                  have X : zX d L1 kd1 A 4 p s m #[Value.ref b] c cL_law RL := X
                                                                  refine zg_sub [0, 1, 2, 3] rfl ?_
                                                                  exact ihLp _ _ _ v555 h550 h553 hMs552 gNs552 gHs552 gEs552 gLs552 gKs552 (by omega) (by omega)
                                                                · skip
                                                                  by_cases q556 : v8.toInt = 30
                                                                  · refine zg_tabIn X 1046 30 dL_law_33 q556 (by decide) (by decide) rfl (by decide) ?_
                                                                    refine zg_aload_n X 2 rfl dL_law_1046 ?_
                                                                    refine zg_cVi (As := []) (st := []) X hx0 rfl (by decide) rfl (t_X10_parted l d L1 kd1 κ _ hI1 x0 hx0  ) mk_L_142 mc_X10_parted mz_X10 mi_X10_parted ml_X10_parted (na := 0) ⟨md_X10.1, md_X10.2, by decide +kernel⟩ rfl ⟨by decide, by decide⟩ (Nat.le_of_ble_eq_true rfl) dL_law_1047 (fun v557 s558 hq => ?_)
                                                                    obtain ⟨hFs558, hSs558, hq⟩ := hq
                                                                    have h559 := hq
                                                                    have hMs558 := zRP.c hM hx0 hI1 hSs558 (zRy.of (rz_X10_parted zRz.rf) hFs558) (by decide) (by decide)
                                                                    refine zg_pop X dL_law_1050 rfl ?_
                                                                    refine zg_aload_n X 1 rfl dL_law_1051 ?_
                                                                    refine zg_swap ?_
                                                                    have X : zX d L2 kd2 A 4 p s m #[Value.ref b] c cL_law RL := X
                                                                    refine zg_cVi (As := []) (st := []) X hm0 rfl (by decide) rfl (t_X11_parted l d L2 kd2 κ _ hI2 m0 hm0   hgN hgH hgE hgL) mk_L_145 mc_X11_parted mz_X11 mi_X11_parted ml_X11_parted (na := 0) ⟨md_X11.1, md_X11.2, by decide +kernel⟩ rfl ⟨by decide, by decide⟩ (Nat.le_of_ble_eq_true rfl) dL_law_1052 (fun v560 s561 hq => ?_)
                                                                    obtain ⟨hFs561, hq⟩ := hq
                                                                    obtain ⟨⟨gNs561, gHs561, gEs561, gLs561⟩, h562, g563⟩ := hq
                                                                    have gKs561 := gK.same h562 hm0 g563 (by decide) hgK
                                                                    have hMs561 := zRP.m hMs558 hI2 hm0 g563 (by decide) (by decide)
                                                                    refine zg_pop X dL_law_1055 rfl ?_
                                                                    refine zg_goto X 1441 dL_law_1056 (by decide) ?_
                                                                    refine zg_iinc X 6 (fun v564 => [(3, .int v564), (2, .ref m0), (1, .ref x0), (0, .ref b)]) 0 dL_law_1441 rfl (by decide) (by decide) (by omega) (by omega) (fun _ => rfl) (fun v564 ev564 hv564 => ?_)
                                                                    refine zg_goto X 18 dL_law_1444 (by decide) ?_
                                                                    refine zg_swap ?_
                                                                    have X : zX d L1 kd1 A 4 p s m #[Value.ref b] c cL_law RL := X
                                                                    refine zg_sub [0, 1, 2, 3] rfl ?_
                                                                    exact ihLp _ _ _ v564 h559 h562 hMs561 gNs561 gHs561 gEs561 gLs561 gKs561 (by omega) (by omega)
                                                                  · skip
                                                                    by_cases q565 : v8.toInt = 31
                                                                    · refine zg_tabIn X 1059 31 dL_law_33 q565 (by decide) (by decide) rfl (by decide) ?_
                                                                      refine zg_aload_n X 2 rfl dL_law_1059 ?_
                                                                      refine zg_aload_n X 3 rfl dL_law_1060 ?_
                                                                      refine zg_iload_n X 0 rfl dL_law_1061 ?_
                                                                      refine zg_iconst X 1 dL_law_1062 (by decide) (fun v566 _ hv566 => ?_)
                                                                      refine zg_iadd X dL_law_1063 (by omega) (by omega) (fun v567 ev567 hv567 => ?_)
                                                                      refine zg_sld X hX hbl hbA (by omega) (by omega) dL_law_1064 (fun v568 ev568 => ?_)
                                                                      refine zg_aload_n X 3 rfl dL_law_1065 ?_
                                                                      refine zg_iload_n X 0 rfl dL_law_1066 ?_
                                                                      refine zg_iconst X 2 dL_law_1067 (by decide) (fun v569 _ hv569 => ?_)
                                                                      refine zg_iadd X dL_law_1068 (by omega) (by omega) (fun v570 ev570 hv570 => ?_)
                                                                      refine zg_sld X hX hbl hbA (by omega) (by omega) dL_law_1069 (fun v571 ev571 => ?_)
                                                                      refine zg_aload_n X 3 rfl dL_law_1070 ?_
                                                                      refine zg_iload_n X 0 rfl dL_law_1071 ?_
                                                                      refine zg_iconst X 3 dL_law_1072 (by decide) (fun v572 _ hv572 => ?_)
                                                                      refine zg_iadd X dL_law_1073 (by omega) (by omega) (fun v573 ev573 hv573 => ?_)
                                                                      refine zg_sld X hX hbl hbA (by omega) (by omega) dL_law_1074 (fun v574 ev574 => ?_)
                                                                      refine zg_cVi (As := [.int v568, .int v571, .int v574]) (st := []) X hx0 rfl (by decide) rfl (t_X10_meet l d L1 kd1 κ _ hI1 x0 hx0 v568 v571 v574 ) mk_L_146 mc_X10_meet mz_X10 mi_X10_meet ml_X10_meet (na := 3) ⟨md_X10.1, md_X10.2, by decide +kernel⟩ rfl ⟨by decide, by decide⟩ (Nat.le_of_ble_eq_true rfl) dL_law_1075 (fun v575 s576 hq => ?_)
                                                                      obtain ⟨hFs576, hSs576, hq⟩ := hq
                                                                      have h577 := hq
                                                                      have hMs576 := zRP.c hM hx0 hI1 hSs576 (zRy.of (rz_X10_meet zRz.rf) hFs576) (by decide) (by decide)
                                                                      refine zg_pop X dL_law_1078 rfl ?_
                                                                      refine zg_aload_n X 1 rfl dL_law_1079 ?_
                                                                      refine zg_aload_n X 3 rfl dL_law_1080 ?_
                                                                      refine zg_iload_n X 0 rfl dL_law_1081 ?_
                                                                      refine zg_iconst X 1 dL_law_1082 (by decide) (fun v578 _ hv578 => ?_)
                                                                      refine zg_iadd X dL_law_1083 (by omega) (by omega) (fun v579 ev579 hv579 => ?_)
                                                                      refine zg_sld X hX hbl hbA (by omega) (by omega) dL_law_1084 (fun v580 ev580 => ?_)
                                                                      refine zg_aload_n X 3 rfl dL_law_1085 ?_
                                                                      refine zg_iload_n X 0 rfl dL_law_1086 ?_
                                                                      refine zg_iconst X 2 dL_law_1087 (by decide) (fun v581 _ hv581 => ?_)
                                                                      refine zg_iadd X dL_law_1088 (by omega) (by omega) (fun v582 ev582 hv582 => ?_)
                                                                      refine zg_sld X hX hbl hbA (by omega) (by omega) dL_law_1089 (fun v583 ev583 => ?_)
                                                                      refine zg_aload_n X 3 rfl dL_law_1090 ?_
                                                                      refine zg_iload_n X 0 rfl dL_law_1091 ?_
                                                                      refine zg_iconst X 3 dL_law_1092 (by decide) (fun v584 _ hv584 => ?_)
                                                                      refine zg_iadd X dL_law_1093 (by omega) (by omega) (fun v585 ev585 hv585 => ?_)
                                                                      refine zg_sld X hX hbl hbA (by omega) (by omega) dL_law_1094 (fun v586 ev586 => ?_)
                                                                      refine zg_swap ?_
                                                                      have X : zX d L2 kd2 A 4 p s m #[Value.ref b] c cL_law RL := X
                                                                      refine zg_cVi (As := [.int v580, .int v583, .int v586]) (st := []) X hm0 rfl (by decide) rfl (t_X11_meet l d L2 kd2 κ _ hI2 m0 hm0 v580 v583 v586  hgN hgH hgE hgL) mk_L_149 mc_X11_meet mz_X11 mi_X11_meet ml_X11_meet (na := 3) ⟨md_X11.1, md_X11.2, by decide +kernel⟩ rfl ⟨by decide, by decide⟩ (Nat.le_of_ble_eq_true rfl) dL_law_1095 (fun v587 s588 hq => ?_)
                                                                      obtain ⟨hFs588, hq⟩ := hq
                                                                      obtain ⟨⟨gNs588, gHs588, gEs588, gLs588⟩, h589, g590⟩ := hq
                                                                      have gKs588 := gK.same h589 hm0 g590 (by decide) hgK
                                                                      have hMs588 := zRP.m hMs576 hI2 hm0 g590 (by decide) (by decide)
                                                                      refine zg_pop X dL_law_1098 rfl ?_
                                                                      refine zg_goto X 1441 dL_law_1099 (by decide) ?_
                                                                      refine zg_iinc X 6 (fun v591 => [(3, .int v591), (2, .ref m0), (1, .ref x0), (0, .ref b)]) 0 dL_law_1441 rfl (by decide) (by decide) (by omega) (by omega) (fun _ => rfl) (fun v591 ev591 hv591 => ?_)
                                                                      refine zg_goto X 18 dL_law_1444 (by decide) ?_
                                                                      refine zg_swap ?_
                                                                      have X : zX d L1 kd1 A 4 p s m #[Value.ref b] c cL_law RL := X
                                                                      refine zg_sub [0, 1, 2, 3] rfl ?_
                                                                      exact ihLp _ _ _ v591 h577 h589 hMs588 gNs588 gHs588 gEs588 gLs588 gKs588 (by omega) (by omega)
                                                                    · skip
                                                                      by_cases q592 : v8.toInt = 32
                                                                      · refine zg_tabIn X 1102 32 dL_law_33 q592 (by decide) (by decide) rfl (by decide) ?_
                                                                        refine zg_aload_n X 2 rfl dL_law_1102 ?_
                                                                        refine zg_aload_n X 3 rfl dL_law_1103 ?_
                                                                        refine zg_iload_n X 0 rfl dL_law_1104 ?_
                                                                        refine zg_iconst X 1 dL_law_1105 (by decide) (fun v593 _ hv593 => ?_)
                                                                        refine zg_iadd X dL_law_1106 (by omega) (by omega) (fun v594 ev594 hv594 => ?_)
                                                                        refine zg_sld X hX hbl hbA (by omega) (by omega) dL_law_1107 (fun v595 ev595 => ?_)
                                                                        refine zg_cVi (As := [.int v595]) (st := []) X hx0 rfl (by decide) rfl (t_X10_when l d L1 kd1 κ _ hI1 x0 hx0 v595 ) mk_L_150 mc_X10_when mz_X10 mi_X10_when ml_X10_when (na := 1) ⟨md_X10.1, md_X10.2, by decide +kernel⟩ rfl ⟨by decide, by decide⟩ (Nat.le_of_ble_eq_true rfl) dL_law_1108 (fun v596 s597 hq => ?_)
                                                                        obtain ⟨hFs597, hSs597, hq⟩ := hq
                                                                        have h598 := hq
                                                                        have hMs597 := zRP.t hM hx0 hI1 hSs597 (fun V ps pc sl rv sh cd hl hv => by rw [show s597 = (F_X10_when x0 v595 σ1).2 from congrArg Prod.snd hFs597]; exact pWhen hl hv v595) (by decide) (by decide)
                                                                        refine zg_pop X dL_law_1111 rfl ?_
                                                                        refine zg_aload_n X 1 rfl dL_law_1112 ?_
                                                                        refine zg_aload_n X 3 rfl dL_law_1113 ?_
                                                                        refine zg_iload_n X 0 rfl dL_law_1114 ?_
                                                                        refine zg_iconst X 1 dL_law_1115 (by decide) (fun v599 _ hv599 => ?_)
                                                                        refine zg_iadd X dL_law_1116 (by omega) (by omega) (fun v600 ev600 hv600 => ?_)
                                                                        refine zg_sld X hX hbl hbA (by omega) (by omega) dL_law_1117 (fun v601 ev601 => ?_)
                                                                        refine zg_swap ?_
                                                                        have X : zX d L2 kd2 A 4 p s m #[Value.ref b] c cL_law RL := X
                                                                        refine zg_cVi (As := [.int v601]) (st := []) X hm0 rfl (by decide) rfl (t_X11_when l d L2 kd2 κ _ hI2 m0 hm0 v601  hgN hgH hgE hgL) mk_L_153 mc_X11_when mz_X11 mi_X11_when ml_X11_when (na := 1) ⟨md_X11.1, md_X11.2, by decide +kernel⟩ rfl ⟨by decide, by decide⟩ (Nat.le_of_ble_eq_true rfl) dL_law_1118 (fun v602 s603 hq => ?_)
                                                                        obtain ⟨hFs603, hq⟩ := hq
                                                                        obtain ⟨⟨gNs603, gHs603, gEs603, gLs603⟩, h604, g605⟩ := hq
                                                                        have gKs603 := gK.same h604 hm0 g605 (by decide) hgK
                                                                        have hMs603 := zRP.m hMs597 hI2 hm0 g605 (by decide) (by decide)
                                                                        refine zg_pop X dL_law_1121 rfl ?_
                                                                        refine zg_goto X 1441 dL_law_1122 (by decide) ?_
                                                                        refine zg_iinc X 6 (fun v606 => [(3, .int v606), (2, .ref m0), (1, .ref x0), (0, .ref b)]) 0 dL_law_1441 rfl (by decide) (by decide) (by omega) (by omega) (fun _ => rfl) (fun v606 ev606 hv606 => ?_)
                                                                        refine zg_goto X 18 dL_law_1444 (by decide) ?_
                                                                        refine zg_swap ?_
                                                                        have X : zX d L1 kd1 A 4 p s m #[Value.ref b] c cL_law RL := X
                                                                        refine zg_sub [0, 1, 2, 3] rfl ?_
                                                                        exact ihLp _ _ _ v606 h598 h604 hMs603 gNs603 gHs603 gEs603 gLs603 gKs603 (by omega) (by omega)
                                                                      · skip
                                                                        by_cases q607 : v8.toInt = 33
                                                                        · refine zg_tabIn X 1125 33 dL_law_33 q607 (by decide) (by decide) rfl (by decide) ?_
                                                                          refine zg_aload_n X 2 rfl dL_law_1125 ?_
                                                                          refine zg_aload_n X 3 rfl dL_law_1126 ?_
                                                                          refine zg_iload_n X 0 rfl dL_law_1127 ?_
                                                                          refine zg_iconst X 1 dL_law_1128 (by decide) (fun v608 _ hv608 => ?_)
                                                                          refine zg_iadd X dL_law_1129 (by omega) (by omega) (fun v609 ev609 hv609 => ?_)
                                                                          refine zg_sld X hX hbl hbA (by omega) (by omega) dL_law_1130 (fun v610 ev610 => ?_)
                                                                          refine zg_aload_n X 3 rfl dL_law_1131 ?_
                                                                          refine zg_iload_n X 0 rfl dL_law_1132 ?_
                                                                          refine zg_iconst X 2 dL_law_1133 (by decide) (fun v611 _ hv611 => ?_)
                                                                          refine zg_iadd X dL_law_1134 (by omega) (by omega) (fun v612 ev612 hv612 => ?_)
                                                                          refine zg_sld X hX hbl hbA (by omega) (by omega) dL_law_1135 (fun v613 ev613 => ?_)
                                                                          refine zg_aload_n X 3 rfl dL_law_1136 ?_
                                                                          refine zg_iload_n X 0 rfl dL_law_1137 ?_
                                                                          refine zg_iconst X 3 dL_law_1138 (by decide) (fun v614 _ hv614 => ?_)
                                                                          refine zg_iadd X dL_law_1139 (by omega) (by omega) (fun v615 ev615 hv615 => ?_)
                                                                          refine zg_sld X hX hbl hbA (by omega) (by omega) dL_law_1140 (fun v616 ev616 => ?_)
                                                                          refine zg_cVi (As := [.int v610, .int v613, .int v616]) (st := []) X hx0 rfl (by decide) rfl (t_X10_then l d L1 kd1 κ _ hI1 x0 hx0 v610 v613 v616 ) mk_L_154 mc_X10_then mz_X10 mi_X10_then ml_X10_then (na := 3) ⟨md_X10.1, md_X10.2, by decide +kernel⟩ rfl ⟨by decide, by decide⟩ (Nat.le_of_ble_eq_true rfl) dL_law_1141 (fun v617 s618 hq => ?_)
                                                                          obtain ⟨hFs618, hSs618, hq⟩ := hq
                                                                          have h619 := hq
                                                                          have hMs618 := zRP.t hM hx0 hI1 hSs618 (fun V ps pc sl rv sh cd hl hv => by rw [show s618 = (F_X10_then x0 v610 v613 v616 σ1).2 from congrArg Prod.snd hFs618]; exact pThen hl hv v610 v613 v616) (by decide) (by decide)
                                                                          refine zg_pop X dL_law_1144 rfl ?_
                                                                          refine zg_aload_n X 1 rfl dL_law_1145 ?_
                                                                          refine zg_aload_n X 3 rfl dL_law_1146 ?_
                                                                          refine zg_iload_n X 0 rfl dL_law_1147 ?_
                                                                          refine zg_iconst X 1 dL_law_1148 (by decide) (fun v620 _ hv620 => ?_)
                                                                          refine zg_iadd X dL_law_1149 (by omega) (by omega) (fun v621 ev621 hv621 => ?_)
                                                                          refine zg_sld X hX hbl hbA (by omega) (by omega) dL_law_1150 (fun v622 ev622 => ?_)
                                                                          refine zg_aload_n X 3 rfl dL_law_1151 ?_
                                                                          refine zg_iload_n X 0 rfl dL_law_1152 ?_
                                                                          refine zg_iconst X 2 dL_law_1153 (by decide) (fun v623 _ hv623 => ?_)
                                                                          refine zg_iadd X dL_law_1154 (by omega) (by omega) (fun v624 ev624 hv624 => ?_)
                                                                          refine zg_sld X hX hbl hbA (by omega) (by omega) dL_law_1155 (fun v625 ev625 => ?_)
                                                                          refine zg_aload_n X 3 rfl dL_law_1156 ?_
                                                                          refine zg_iload_n X 0 rfl dL_law_1157 ?_
                                                                          refine zg_iconst X 3 dL_law_1158 (by decide) (fun v626 _ hv626 => ?_)
                                                                          refine zg_iadd X dL_law_1159 (by omega) (by omega) (fun v627 ev627 hv627 => ?_)
                                                                          refine zg_sld X hX hbl hbA (by omega) (by omega) dL_law_1160 (fun v628 ev628 => ?_)
                                                                          refine zg_swap ?_
                                                                          have X : zX d L2 kd2 A 4 p s m #[Value.ref b] c cL_law RL := X
                                                                          refine zg_cVi (As := [.int v622, .int v625, .int v628]) (st := []) X hm0 rfl (by decide) rfl (t_X11_then l d L2 kd2 κ _ hI2 m0 hm0 v622 v625 v628  hgN hgH hgE hgL) mk_L_157 mc_X11_then mz_X11 mi_X11_then ml_X11_then (na := 3) ⟨md_X11.1, md_X11.2, by decide +kernel⟩ rfl ⟨by decide, by decide⟩ (Nat.le_of_ble_eq_true rfl) dL_law_1161 (fun v629 s630 hq => ?_)
                                                                          obtain ⟨hFs630, hq⟩ := hq
                                                                          obtain ⟨⟨gNs630, gHs630, gEs630, gLs630⟩, h631, g632⟩ := hq
                                                                          have gKs630 := gK.same h631 hm0 g632 (by decide) hgK
                                                                          have hMs630 := zRP.m hMs618 hI2 hm0 g632 (by decide) (by decide)
                                                                          refine zg_pop X dL_law_1164 rfl ?_
                                                                          refine zg_goto X 1441 dL_law_1165 (by decide) ?_
                                                                          refine zg_iinc X 6 (fun v633 => [(3, .int v633), (2, .ref m0), (1, .ref x0), (0, .ref b)]) 0 dL_law_1441 rfl (by decide) (by decide) (by omega) (by omega) (fun _ => rfl) (fun v633 ev633 hv633 => ?_)
                                                                          refine zg_goto X 18 dL_law_1444 (by decide) ?_
                                                                          refine zg_swap ?_
                                                                          have X : zX d L1 kd1 A 4 p s m #[Value.ref b] c cL_law RL := X
                                                                          refine zg_sub [0, 1, 2, 3] rfl ?_
                                                                          exact ihLp _ _ _ v633 h619 h631 hMs630 gNs630 gHs630 gEs630 gLs630 gKs630 (by omega) (by omega)
                                                                        · skip
                                                                          by_cases q634 : v8.toInt = 34
                                                                          · refine zg_tabIn X 1168 34 dL_law_33 q634 (by decide) (by decide) rfl (by decide) ?_
                                                                            refine zg_aload_n X 2 rfl dL_law_1168 ?_
                                                                            refine zg_aload_n X 3 rfl dL_law_1169 ?_
                                                                            refine zg_iload_n X 0 rfl dL_law_1170 ?_
                                                                            refine zg_iconst X 1 dL_law_1171 (by decide) (fun v635 _ hv635 => ?_)
                                                                            refine zg_iadd X dL_law_1172 (by omega) (by omega) (fun v636 ev636 hv636 => ?_)
                                                                            refine zg_sld X hX hbl hbA (by omega) (by omega) dL_law_1173 (fun v637 ev637 => ?_)
                                                                            refine zg_cVi (As := [.int v637]) (st := []) X hx0 rfl (by decide) rfl (t_X10_flowIn l d L1 kd1 κ _ hI1 x0 hx0 v637 ) mk_L_158 mc_X10_flowIn mz_X10 mi_X10_flowIn ml_X10_flowIn (na := 1) ⟨md_X10.1, md_X10.2, by decide +kernel⟩ rfl ⟨by decide, by decide⟩ (Nat.le_of_ble_eq_true rfl) dL_law_1174 (fun v638 s639 hq => ?_)
                                                                            obtain ⟨hFs639, hSs639, hq⟩ := hq
                                                                            have h640 := hq
                                                                            have hMs639 := zRP.t hM hx0 hI1 hSs639 (fun V ps pc sl rv sh cd hl hv => by rw [show s639 = (F_X10_flowIn x0 v637 σ1).2 from congrArg Prod.snd hFs639]; exact pFlowIn hl hv v637) (by decide) (by decide)
                                                                            refine zg_pop X dL_law_1177 rfl ?_
                                                                            refine zg_aload_n X 1 rfl dL_law_1178 ?_
                                                                            refine zg_aload_n X 3 rfl dL_law_1179 ?_
                                                                            refine zg_iload_n X 0 rfl dL_law_1180 ?_
                                                                            refine zg_iconst X 1 dL_law_1181 (by decide) (fun v641 _ hv641 => ?_)
                                                                            refine zg_iadd X dL_law_1182 (by omega) (by omega) (fun v642 ev642 hv642 => ?_)
                                                                            refine zg_sld X hX hbl hbA (by omega) (by omega) dL_law_1183 (fun v643 ev643 => ?_)
                                                                            refine zg_swap ?_
                                                                            have X : zX d L2 kd2 A 4 p s m #[Value.ref b] c cL_law RL := X
                                                                            refine zg_cVi (As := [.int v643]) (st := []) X hm0 rfl (by decide) rfl (t_X11_flowIn l d L2 kd2 κ _ hI2 m0 hm0 v643  hgN hgH hgE hgL) mk_L_161 mc_X11_flowIn mz_X11 mi_X11_flowIn ml_X11_flowIn (na := 1) ⟨md_X11.1, md_X11.2, by decide +kernel⟩ rfl ⟨by decide, by decide⟩ (Nat.le_of_ble_eq_true rfl) dL_law_1184 (fun v644 s645 hq => ?_)
                                                                            obtain ⟨hFs645, hq⟩ := hq
                                                                            obtain ⟨⟨gNs645, gHs645, gEs645, gLs645⟩, h646, g647⟩ := hq
                                                                            have gKs645 := gK.same h646 hm0 g647 (by decide) hgK
                                                                            have hMs645 := zRP.m hMs639 hI2 hm0 g647 (by decide) (by decide)
                                                                            refine zg_pop X dL_law_1187 rfl ?_
                                                                            refine zg_goto X 1441 dL_law_1188 (by decide) ?_
                                                                            refine zg_iinc X 6 (fun v648 => [(3, .int v648), (2, .ref m0), (1, .ref x0), (0, .ref b)]) 0 dL_law_1441 rfl (by decide) (by decide) (by omega) (by omega) (fun _ => rfl) (fun v648 ev648 hv648 => ?_)
                                                                            refine zg_goto X 18 dL_law_1444 (by decide) ?_
                                                                            refine zg_swap ?_
                                                                            have X : zX d L1 kd1 A 4 p s m #[Value.ref b] c cL_law RL := X
                                                                            refine zg_sub [0, 1, 2, 3] rfl ?_
                                                                            exact ihLp _ _ _ v648 h640 h646 hMs645 gNs645 gHs645 gEs645 gLs645 gKs645 (by omega) (by omega)
                                                                          · skip
                                                                            by_cases q649 : v8.toInt = 35
                                                                            · refine zg_tabIn X 1191 35 dL_law_33 q649 (by decide) (by decide) rfl (by decide) ?_
                                                                              refine zg_aload_n X 2 rfl dL_law_1191 ?_
                                                                              refine zg_aload_n X 3 rfl dL_law_1192 ?_
                                                                              refine zg_iload_n X 0 rfl dL_law_1193 ?_
                                                                              refine zg_iconst X 1 dL_law_1194 (by decide) (fun v650 _ hv650 => ?_)
                                                                              refine zg_iadd X dL_law_1195 (by omega) (by omega) (fun v651 ev651 hv651 => ?_)
                                                                              refine zg_sld X hX hbl hbA (by omega) (by omega) dL_law_1196 (fun v652 ev652 => ?_)
                                                                              refine zg_aload_n X 3 rfl dL_law_1197 ?_
                                                                              refine zg_iload_n X 0 rfl dL_law_1198 ?_
                                                                              refine zg_iconst X 2 dL_law_1199 (by decide) (fun v653 _ hv653 => ?_)
                                                                              refine zg_iadd X dL_law_1200 (by omega) (by omega) (fun v654 ev654 hv654 => ?_)
                                                                              refine zg_sld X hX hbl hbA (by omega) (by omega) dL_law_1201 (fun v655 ev655 => ?_)
                                                                              refine zg_aload_n X 3 rfl dL_law_1202 ?_
                                                                              refine zg_iload_n X 0 rfl dL_law_1203 ?_
                                                                              refine zg_iconst X 3 dL_law_1204 (by decide) (fun v656 _ hv656 => ?_)
                                                                              refine zg_iadd X dL_law_1205 (by omega) (by omega) (fun v657 ev657 hv657 => ?_)
                                                                              refine zg_sld X hX hbl hbA (by omega) (by omega) dL_law_1206 (fun v658 ev658 => ?_)
                                                                              refine zg_cVi (As := [.int v652, .int v655, .int v658]) (st := []) X hx0 rfl (by decide) rfl (t_X10_year l d L1 kd1 κ _ hI1 x0 hx0 v652 v655 v658 ) mk_L_162 mc_X10_year mz_X10 mi_X10_year ml_X10_year (na := 3) ⟨md_X10.1, md_X10.2, by decide +kernel⟩ rfl ⟨by decide, by decide⟩ (Nat.le_of_ble_eq_true rfl) dL_law_1207 (fun v659 s660 hq => ?_)
                                                                              obtain ⟨hFs660, hSs660, hq⟩ := hq
                                                                              have h661 := hq
                                                                              have hMs660 := zRP.t hM hx0 hI1 hSs660 (fun V ps pc sl rv sh cd hl hv => by rw [show s660 = (F_X10_year x0 v652 v655 v658 σ1).2 from congrArg Prod.snd hFs660]; exact pYear hl hv v652 v655 v658) (by decide) (by decide)
                                                                              refine zg_pop X dL_law_1210 rfl ?_
                                                                              refine zg_aload_n X 1 rfl dL_law_1211 ?_
                                                                              refine zg_aload_n X 3 rfl dL_law_1212 ?_
                                                                              refine zg_iload_n X 0 rfl dL_law_1213 ?_
                                                                              refine zg_iconst X 1 dL_law_1214 (by decide) (fun v662 _ hv662 => ?_)
                                                                              refine zg_iadd X dL_law_1215 (by omega) (by omega) (fun v663 ev663 hv663 => ?_)
                                                                              refine zg_sld X hX hbl hbA (by omega) (by omega) dL_law_1216 (fun v664 ev664 => ?_)
                                                                              refine zg_aload_n X 3 rfl dL_law_1217 ?_
                                                                              refine zg_iload_n X 0 rfl dL_law_1218 ?_
                                                                              refine zg_iconst X 2 dL_law_1219 (by decide) (fun v665 _ hv665 => ?_)
                                                                              refine zg_iadd X dL_law_1220 (by omega) (by omega) (fun v666 ev666 hv666 => ?_)
                                                                              refine zg_sld X hX hbl hbA (by omega) (by omega) dL_law_1221 (fun v667 ev667 => ?_)
                                                                              refine zg_aload_n X 3 rfl dL_law_1222 ?_
                                                                              refine zg_iload_n X 0 rfl dL_law_1223 ?_
                                                                              refine zg_iconst X 3 dL_law_1224 (by decide) (fun v668 _ hv668 => ?_)
                                                                              refine zg_iadd X dL_law_1225 (by omega) (by omega) (fun v669 ev669 hv669 => ?_)
                                                                              refine zg_sld X hX hbl hbA (by omega) (by omega) dL_law_1226 (fun v670 ev670 => ?_)
                                                                              refine zg_swap ?_
                                                                              have X : zX d L2 kd2 A 4 p s m #[Value.ref b] c cL_law RL := X
                                                                              refine zg_cVi (As := [.int v664, .int v667, .int v670]) (st := []) X hm0 rfl (by decide) rfl (t_X11_year l d L2 kd2 κ _ hI2 m0 hm0 v664 v667 v670  hgN hgH hgE hgL) mk_L_165 mc_X11_year mz_X11 mi_X11_year ml_X11_year (na := 3) ⟨md_X11.1, md_X11.2, by decide +kernel⟩ rfl ⟨by decide, by decide⟩ (Nat.le_of_ble_eq_true rfl) dL_law_1227 (fun v671 s672 hq => ?_)
                                                                              obtain ⟨hFs672, hq⟩ := hq
                                                                              obtain ⟨⟨gNs672, gHs672, gEs672, gLs672⟩, h673, g674⟩ := hq
                                                                              have gKs672 := gK.same h673 hm0 g674 (by decide) hgK
                                                                              have hMs672 := zRP.m hMs660 hI2 hm0 g674 (by decide) (by decide)
                                                                              refine zg_pop X dL_law_1230 rfl ?_
                                                                              refine zg_goto X 1441 dL_law_1231 (by decide) ?_
                                                                              refine zg_iinc X 6 (fun v675 => [(3, .int v675), (2, .ref m0), (1, .ref x0), (0, .ref b)]) 0 dL_law_1441 rfl (by decide) (by decide) (by omega) (by omega) (fun _ => rfl) (fun v675 ev675 hv675 => ?_)
                                                                              refine zg_goto X 18 dL_law_1444 (by decide) ?_
                                                                              refine zg_swap ?_
                                                                              have X : zX d L1 kd1 A 4 p s m #[Value.ref b] c cL_law RL := X
                                                                              refine zg_sub [0, 1, 2, 3] rfl ?_
                                                                              exact ihLp _ _ _ v675 h661 h673 hMs672 gNs672 gHs672 gEs672 gLs672 gKs672 (by omega) (by omega)
                                                                            · skip
                                                                              by_cases q676 : v8.toInt = 36
                                                                              · refine zg_tabIn X 1234 36 dL_law_33 q676 (by decide) (by decide) rfl (by decide) ?_
                                                                                refine zg_aload_n X 2 rfl dL_law_1234 ?_
                                                                                refine zg_aload_n X 3 rfl dL_law_1235 ?_
                                                                                refine zg_iload_n X 0 rfl dL_law_1236 ?_
                                                                                refine zg_iconst X 1 dL_law_1237 (by decide) (fun v677 _ hv677 => ?_)
                                                                                refine zg_iadd X dL_law_1238 (by omega) (by omega) (fun v678 ev678 hv678 => ?_)
                                                                                refine zg_sld X hX hbl hbA (by omega) (by omega) dL_law_1239 (fun v679 ev679 => ?_)
                                                                                refine zg_aload_n X 3 rfl dL_law_1240 ?_
                                                                                refine zg_iload_n X 0 rfl dL_law_1241 ?_
                                                                                refine zg_iconst X 2 dL_law_1242 (by decide) (fun v680 _ hv680 => ?_)
                                                                                refine zg_iadd X dL_law_1243 (by omega) (by omega) (fun v681 ev681 hv681 => ?_)
                                                                                refine zg_sld X hX hbl hbA (by omega) (by omega) dL_law_1244 (fun v682 ev682 => ?_)
                                                                                refine zg_aload_n X 3 rfl dL_law_1245 ?_
                                                                                refine zg_iload_n X 0 rfl dL_law_1246 ?_
                                                                                refine zg_iconst X 3 dL_law_1247 (by decide) (fun v683 _ hv683 => ?_)
                                                                                refine zg_iadd X dL_law_1248 (by omega) (by omega) (fun v684 ev684 hv684 => ?_)
                                                                                refine zg_sld X hX hbl hbA (by omega) (by omega) dL_law_1249 (fun v685 ev685 => ?_)
                                                                                refine zg_aload_n X 3 rfl dL_law_1250 ?_
                                                                                refine zg_iload_n X 0 rfl dL_law_1251 ?_
                                                                                refine zg_iconst X 4 dL_law_1252 (by decide) (fun v686 _ hv686 => ?_)
                                                                                refine zg_iadd X dL_law_1253 (by omega) (by omega) (fun v687 ev687 hv687 => ?_)
                                                                                refine zg_sld X hX hbl hbA (by omega) (by omega) dL_law_1254 (fun v688 ev688 => ?_)
                                                                                refine zg_if_eq X 1262 dL_law_1255 (by decide) (fun c689 => ?_) (fun c689 => ?_)
                                                                                · skip
                                                                                  refine zg_iconst X 0 dL_law_1262 (by decide) (fun v690 _ hv690 => ?_)
                                                                                  refine zg_cVi (As := [.int v679, .int v682, .int v685, .int v690]) (st := []) X hx0 rfl (by decide) rfl (t_X10_tell l d L1 kd1 κ _ hI1 x0 hx0 v679 v682 v685 v690 (by omega)) mk_L_166 mc_X10_tell mz_X10 mi_X10_tell ml_X10_tell (na := 4) ⟨md_X10.1, md_X10.2, by decide +kernel⟩ rfl ⟨by decide, by decide⟩ (Nat.le_of_ble_eq_true rfl) dL_law_1263 (fun v691 s692 hq => ?_)
                                                                                  obtain ⟨hFs692, hSs692, hq⟩ := hq
                                                                                  have h693 := hq
                                                                                  refine zg_pop X dL_law_1266 rfl ?_
                                                                                  refine zg_aload_n X 1 rfl dL_law_1267 ?_
                                                                                  refine zg_aload_n X 3 rfl dL_law_1268 ?_
                                                                                  refine zg_iload_n X 0 rfl dL_law_1269 ?_
                                                                                  refine zg_iconst X 1 dL_law_1270 (by decide) (fun v694 _ hv694 => ?_)
                                                                                  refine zg_iadd X dL_law_1271 (by omega) (by omega) (fun v695 ev695 hv695 => ?_)
                                                                                  refine zg_sld X hX hbl hbA (by omega) (by omega) dL_law_1272 (fun v696 ev696 => ?_)
                                                                                  have wv696 : v696 = v679 := by rw [ev696, ev679, show v695 = v678 from Int32.toInt_inj.mp (by omega)]
                                                                                  have tv696 : v696.toInt = v679.toInt := by rw [wv696]
                                                                                  refine zg_aload_n X 3 rfl dL_law_1273 ?_
                                                                                  refine zg_iload_n X 0 rfl dL_law_1274 ?_
                                                                                  refine zg_iconst X 2 dL_law_1275 (by decide) (fun v697 _ hv697 => ?_)
                                                                                  refine zg_iadd X dL_law_1276 (by omega) (by omega) (fun v698 ev698 hv698 => ?_)
                                                                                  refine zg_sld X hX hbl hbA (by omega) (by omega) dL_law_1277 (fun v699 ev699 => ?_)
                                                                                  have wv699 : v699 = v682 := by rw [ev699, ev682, show v698 = v681 from Int32.toInt_inj.mp (by omega)]
                                                                                  have tv699 : v699.toInt = v682.toInt := by rw [wv699]
                                                                                  refine zg_aload_n X 3 rfl dL_law_1278 ?_
                                                                                  refine zg_iload_n X 0 rfl dL_law_1279 ?_
                                                                                  refine zg_iconst X 3 dL_law_1280 (by decide) (fun v700 _ hv700 => ?_)
                                                                                  refine zg_iadd X dL_law_1281 (by omega) (by omega) (fun v701 ev701 hv701 => ?_)
                                                                                  refine zg_sld X hX hbl hbA (by omega) (by omega) dL_law_1282 (fun v702 ev702 => ?_)
                                                                                  have wv702 : v702 = v685 := by rw [ev702, ev685, show v701 = v684 from Int32.toInt_inj.mp (by omega)]
                                                                                  have tv702 : v702.toInt = v685.toInt := by rw [wv702]
                                                                                  refine zg_aload_n X 3 rfl dL_law_1283 ?_
                                                                                  refine zg_iload_n X 0 rfl dL_law_1284 ?_
                                                                                  refine zg_iconst X 4 dL_law_1285 (by decide) (fun v703 _ hv703 => ?_)
                                                                                  refine zg_iadd X dL_law_1286 (by omega) (by omega) (fun v704 ev704 hv704 => ?_)
                                                                                  refine zg_sld X hX hbl hbA (by omega) (by omega) dL_law_1287 (fun v705 ev705 => ?_)
                                                                                  have wv705 : v705 = v688 := by rw [ev705, ev688, show v704 = v687 from Int32.toInt_inj.mp (by omega)]
                                                                                  have tv705 : v705.toInt = v688.toInt := by rw [wv705]
                                                                                  refine zg_if_eq X 1295 dL_law_1288 (by decide) (fun c706 => ?_) (fun c706 => ?_)
                                                                                  · skip
                                                                                    refine zg_iconst X 0 dL_law_1295 (by decide) (fun v707 _ hv707 => ?_)
                                                                                    refine zg_swap ?_
                                                                                    have X : zX d L2 kd2 A 4 p s m #[Value.ref b] c cL_law RL := X
                                                                                    have bv707 : v707 = v690 := Int32.toInt_inj.mp (by omega)
                                                                                    refine zg_cVi (As := [.int v696, .int v699, .int v702, .int v707]) (st := []) X hm0 rfl (by decide) rfl (t_X11_tell l d L2 kd2 κ _ hI2 m0 hm0 v696 v699 v702 v707 (by omega) hgN hgH hgE hgL) mk_L_170 mc_X11_tell mz_X11 mi_X11_tell ml_X11_tell (na := 4) ⟨md_X11.1, md_X11.2, by decide +kernel⟩ rfl ⟨by decide, by decide⟩ (Nat.le_of_ble_eq_true rfl) dL_law_1296 (fun v708 s709 hq => ?_)
                                                                                    obtain ⟨hFs709, hq⟩ := hq
                                                                                    obtain ⟨⟨gNs709, gHs709, gEs709, gLs709⟩, h710, g711⟩ := hq
                                                                                    have gKs709 := gK.same h710 hm0 g711 (by decide) hgK
                                                                                    rw [wv696, wv699, wv702, bv707] at hFs709
                                                                                    obtain ⟨hvs709, hMs709⟩ := zRP.tell hM hI1 hI2 hx0 hm0 hFs692 hFs709 hSs692 g711
                                                                                    refine zg_pop X dL_law_1299 rfl ?_
                                                                                    refine zg_goto X 1441 dL_law_1300 (by decide) ?_
                                                                                    refine zg_iinc X 6 (fun v712 => [(3, .int v712), (2, .ref m0), (1, .ref x0), (0, .ref b)]) 0 dL_law_1441 rfl (by decide) (by decide) (by omega) (by omega) (fun _ => rfl) (fun v712 ev712 hv712 => ?_)
                                                                                    refine zg_goto X 18 dL_law_1444 (by decide) ?_
                                                                                    refine zg_swap ?_
                                                                                    have X : zX d L1 kd1 A 4 p s m #[Value.ref b] c cL_law RL := X
                                                                                    refine zg_sub [0, 1, 2, 3] rfl ?_
                                                                                    exact ihLp _ _ _ v712 h693 h710 hMs709 gNs709 gHs709 gEs709 gLs709 gKs709 (by omega) (by omega)
                                                                                  · skip
                                                                                    refine zg_iconst X 1 dL_law_1291 (by decide) (fun v713 _ hv713 => ?_)
                                                                                    refine zg_goto X 1296 dL_law_1292 (by decide) ?_
                                                                                    refine zg_swap ?_
                                                                                    have X : zX d L2 kd2 A 4 p s m #[Value.ref b] c cL_law RL := X
                                                                                    exfalso
                                                                                    omega
                                                                                · skip
                                                                                  refine zg_iconst X 1 dL_law_1258 (by decide) (fun v715 _ hv715 => ?_)
                                                                                  refine zg_goto X 1263 dL_law_1259 (by decide) ?_
                                                                                  refine zg_cVi (As := [.int v679, .int v682, .int v685, .int v715]) (st := []) X hx0 rfl (by decide) rfl (t_X10_tell l d L1 kd1 κ _ hI1 x0 hx0 v679 v682 v685 v715 (by omega)) mk_L_166 mc_X10_tell mz_X10 mi_X10_tell ml_X10_tell (na := 4) ⟨md_X10.1, md_X10.2, by decide +kernel⟩ rfl ⟨by decide, by decide⟩ (Nat.le_of_ble_eq_true rfl) dL_law_1263 (fun v716 s717 hq => ?_)
                                                                                  obtain ⟨hFs717, hSs717, hq⟩ := hq
                                                                                  have h718 := hq
                                                                                  refine zg_pop X dL_law_1266 rfl ?_
                                                                                  refine zg_aload_n X 1 rfl dL_law_1267 ?_
                                                                                  refine zg_aload_n X 3 rfl dL_law_1268 ?_
                                                                                  refine zg_iload_n X 0 rfl dL_law_1269 ?_
                                                                                  refine zg_iconst X 1 dL_law_1270 (by decide) (fun v719 _ hv719 => ?_)
                                                                                  refine zg_iadd X dL_law_1271 (by omega) (by omega) (fun v720 ev720 hv720 => ?_)
                                                                                  refine zg_sld X hX hbl hbA (by omega) (by omega) dL_law_1272 (fun v721 ev721 => ?_)
                                                                                  have wv721 : v721 = v679 := by rw [ev721, ev679, show v720 = v678 from Int32.toInt_inj.mp (by omega)]
                                                                                  have tv721 : v721.toInt = v679.toInt := by rw [wv721]
                                                                                  refine zg_aload_n X 3 rfl dL_law_1273 ?_
                                                                                  refine zg_iload_n X 0 rfl dL_law_1274 ?_
                                                                                  refine zg_iconst X 2 dL_law_1275 (by decide) (fun v722 _ hv722 => ?_)
                                                                                  refine zg_iadd X dL_law_1276 (by omega) (by omega) (fun v723 ev723 hv723 => ?_)
                                                                                  refine zg_sld X hX hbl hbA (by omega) (by omega) dL_law_1277 (fun v724 ev724 => ?_)
                                                                                  have wv724 : v724 = v682 := by rw [ev724, ev682, show v723 = v681 from Int32.toInt_inj.mp (by omega)]
                                                                                  have tv724 : v724.toInt = v682.toInt := by rw [wv724]
                                                                                  refine zg_aload_n X 3 rfl dL_law_1278 ?_
                                                                                  refine zg_iload_n X 0 rfl dL_law_1279 ?_
                                                                                  refine zg_iconst X 3 dL_law_1280 (by decide) (fun v725 _ hv725 => ?_)
                                                                                  refine zg_iadd X dL_law_1281 (by omega) (by omega) (fun v726 ev726 hv726 => ?_)
                                                                                  refine zg_sld X hX hbl hbA (by omega) (by omega) dL_law_1282 (fun v727 ev727 => ?_)
                                                                                  have wv727 : v727 = v685 := by rw [ev727, ev685, show v726 = v684 from Int32.toInt_inj.mp (by omega)]
                                                                                  have tv727 : v727.toInt = v685.toInt := by rw [wv727]
                                                                                  refine zg_aload_n X 3 rfl dL_law_1283 ?_
                                                                                  refine zg_iload_n X 0 rfl dL_law_1284 ?_
                                                                                  refine zg_iconst X 4 dL_law_1285 (by decide) (fun v728 _ hv728 => ?_)
                                                                                  refine zg_iadd X dL_law_1286 (by omega) (by omega) (fun v729 ev729 hv729 => ?_)
                                                                                  refine zg_sld X hX hbl hbA (by omega) (by omega) dL_law_1287 (fun v730 ev730 => ?_)
                                                                                  have wv730 : v730 = v688 := by rw [ev730, ev688, show v729 = v687 from Int32.toInt_inj.mp (by omega)]
                                                                                  have tv730 : v730.toInt = v688.toInt := by rw [wv730]
                                                                                  refine zg_if_eq X 1295 dL_law_1288 (by decide) (fun c731 => ?_) (fun c731 => ?_)
                                                                                  · skip
                                                                                    refine zg_iconst X 0 dL_law_1295 (by decide) (fun v732 _ hv732 => ?_)
                                                                                    refine zg_swap ?_
                                                                                    have X : zX d L2 kd2 A 4 p s m #[Value.ref b] c cL_law RL := X
                                                                                    exfalso
                                                                                    omega
                                                                                  · skip
                                                                                    refine zg_iconst X 1 dL_law_1291 (by decide) (fun v734 _ hv734 => ?_)
                                                                                    refine zg_goto X 1296 dL_law_1292 (by decide) ?_
                                                                                    refine zg_swap ?_
                                                                                    have X : zX d L2 kd2 A 4 p s m #[Value.ref b] c cL_law RL := X
                                                                                    have bv734 : v734 = v715 := Int32.toInt_inj.mp (by omega)
                                                                                    refine zg_cVi (As := [.int v721, .int v724, .int v727, .int v734]) (st := []) X hm0 rfl (by decide) rfl (t_X11_tell l d L2 kd2 κ _ hI2 m0 hm0 v721 v724 v727 v734 (by omega) hgN hgH hgE hgL) mk_L_170 mc_X11_tell mz_X11 mi_X11_tell ml_X11_tell (na := 4) ⟨md_X11.1, md_X11.2, by decide +kernel⟩ rfl ⟨by decide, by decide⟩ (Nat.le_of_ble_eq_true rfl) dL_law_1296 (fun v735 s736 hq => ?_)
                                                                                    obtain ⟨hFs736, hq⟩ := hq
                                                                                    obtain ⟨⟨gNs736, gHs736, gEs736, gLs736⟩, h737, g738⟩ := hq
                                                                                    have gKs736 := gK.same h737 hm0 g738 (by decide) hgK
                                                                                    rw [wv721, wv724, wv727, bv734] at hFs736
                                                                                    obtain ⟨hvs736, hMs736⟩ := zRP.tell hM hI1 hI2 hx0 hm0 hFs717 hFs736 hSs717 g738
                                                                                    refine zg_pop X dL_law_1299 rfl ?_
                                                                                    refine zg_goto X 1441 dL_law_1300 (by decide) ?_
                                                                                    refine zg_iinc X 6 (fun v739 => [(3, .int v739), (2, .ref m0), (1, .ref x0), (0, .ref b)]) 0 dL_law_1441 rfl (by decide) (by decide) (by omega) (by omega) (fun _ => rfl) (fun v739 ev739 hv739 => ?_)
                                                                                    refine zg_goto X 18 dL_law_1444 (by decide) ?_
                                                                                    refine zg_swap ?_
                                                                                    have X : zX d L1 kd1 A 4 p s m #[Value.ref b] c cL_law RL := X
                                                                                    refine zg_sub [0, 1, 2, 3] rfl ?_
                                                                                    exact ihLp _ _ _ v739 h718 h737 hMs736 gNs736 gHs736 gEs736 gLs736 gKs736 (by omega) (by omega)
                                                                              · skip
                                                                                by_cases q740 : v8.toInt = 37
                                                                                · refine zg_tabIn X 1303 37 dL_law_33 q740 (by decide) (by decide) rfl (by decide) ?_
                                                                                  refine zg_aload_n X 2 rfl dL_law_1303 ?_
                                                                                  refine zg_cVi (As := []) (st := []) X hx0 rfl (by decide) rfl (t_X10_forget l d L1 kd1 κ _ hI1 x0 hx0  ) mk_L_171 mc_X10_forget mz_X10 mi_X10_forget ml_X10_forget (na := 0) ⟨md_X10.1, md_X10.2, by decide +kernel⟩ rfl ⟨by decide, by decide⟩ (Nat.le_of_ble_eq_true rfl) dL_law_1304 (fun v741 s742 hq => ?_)
                                                                                  obtain ⟨hFs742, hSs742, hq⟩ := hq
                                                                                  have h743 := hq
                                                                                  refine zg_pop X dL_law_1307 rfl ?_
                                                                                  refine zg_aload_n X 1 rfl dL_law_1308 ?_
                                                                                  refine zg_swap ?_
                                                                                  have X : zX d L2 kd2 A 4 p s m #[Value.ref b] c cL_law RL := X
                                                                                  refine zg_cVi (As := []) (st := []) X hm0 rfl (by decide) rfl (t_X11_forget l d L2 kd2 κ _ hI2 m0 hm0   hgN hgH hgE hgL) mk_L_174 mc_X11_forget mz_X11 mi_X11_forget ml_X11_forget (na := 0) ⟨md_X11.1, md_X11.2, by decide +kernel⟩ rfl ⟨by decide, by decide⟩ (Nat.le_of_ble_eq_true rfl) dL_law_1309 (fun v744 s745 hq => ?_)
                                                                                  obtain ⟨hFs745, hq⟩ := hq
                                                                                  obtain ⟨⟨gNs745, gHs745, gEs745, gLs745⟩, h746, g747⟩ := hq
                                                                                  have gKs745 := gK.same h746 hm0 g747 (by decide) hgK
                                                                                  obtain ⟨hvs745, hMs745⟩ := zRP.forget hM hI1 hI2 hx0 hm0 hFs742 hFs745 hSs742 g747
                                                                                  refine zg_pop X dL_law_1312 rfl ?_
                                                                                  refine zg_goto X 1441 dL_law_1313 (by decide) ?_
                                                                                  refine zg_iinc X 6 (fun v748 => [(3, .int v748), (2, .ref m0), (1, .ref x0), (0, .ref b)]) 0 dL_law_1441 rfl (by decide) (by decide) (by omega) (by omega) (fun _ => rfl) (fun v748 ev748 hv748 => ?_)
                                                                                  refine zg_goto X 18 dL_law_1444 (by decide) ?_
                                                                                  refine zg_swap ?_
                                                                                  have X : zX d L1 kd1 A 4 p s m #[Value.ref b] c cL_law RL := X
                                                                                  refine zg_sub [0, 1, 2, 3] rfl ?_
                                                                                  exact ihLp _ _ _ v748 h743 h746 hMs745 gNs745 gHs745 gEs745 gLs745 gKs745 (by omega) (by omega)
                                                                                · skip
                                                                                  by_cases q749 : v8.toInt = 38
                                                                                  · refine zg_tabIn X 1316 38 dL_law_33 q749 (by decide) (by decide) rfl (by decide) ?_
                                                                                    refine zg_aload_n X 2 rfl dL_law_1316 ?_
                                                                                    refine zg_aload_n X 3 rfl dL_law_1317 ?_
                                                                                    refine zg_iload_n X 0 rfl dL_law_1318 ?_
                                                                                    refine zg_iconst X 1 dL_law_1319 (by decide) (fun v750 _ hv750 => ?_)
                                                                                    refine zg_iadd X dL_law_1320 (by omega) (by omega) (fun v751 ev751 hv751 => ?_)
                                                                                    refine zg_sld X hX hbl hbA (by omega) (by omega) dL_law_1321 (fun v752 ev752 => ?_)
                                                                                    refine zg_aload_n X 3 rfl dL_law_1322 ?_
                                                                                    refine zg_iload_n X 0 rfl dL_law_1323 ?_
                                                                                    refine zg_iconst X 2 dL_law_1324 (by decide) (fun v753 _ hv753 => ?_)
                                                                                    refine zg_iadd X dL_law_1325 (by omega) (by omega) (fun v754 ev754 hv754 => ?_)
                                                                                    refine zg_sld X hX hbl hbA (by omega) (by omega) dL_law_1326 (fun v755 ev755 => ?_)
                                                                                    refine zg_cVi (As := [.int v752, .int v755]) (st := []) X hx0 rfl (by decide) rfl (t_X10_dyed l d L1 kd1 κ _ hI1 x0 hx0 v752 v755 ) mk_L_175 mc_X10_dyed mz_X10 mi_X10_dyed ml_X10_dyed (na := 2) ⟨md_X10.1, md_X10.2, by decide +kernel⟩ rfl ⟨by decide, by decide⟩ (Nat.le_of_ble_eq_true rfl) dL_law_1327 (fun v756 s757 hq => ?_)
                                                                                    obtain ⟨hFs757, hSs757, hq⟩ := hq
                                                                                    have h758 := hq
                                                                                    have hMs757 := zRP.c hM hx0 hI1 hSs757 (zRy.of (rz_X10_dyed zRz.rf) hFs757) (by decide) (by decide)
                                                                                    refine zg_pop X dL_law_1330 rfl ?_
                                                                                    refine zg_aload_n X 1 rfl dL_law_1331 ?_
                                                                                    refine zg_aload_n X 3 rfl dL_law_1332 ?_
                                                                                    refine zg_iload_n X 0 rfl dL_law_1333 ?_
                                                                                    refine zg_iconst X 1 dL_law_1334 (by decide) (fun v759 _ hv759 => ?_)
                                                                                    refine zg_iadd X dL_law_1335 (by omega) (by omega) (fun v760 ev760 hv760 => ?_)
                                                                                    refine zg_sld X hX hbl hbA (by omega) (by omega) dL_law_1336 (fun v761 ev761 => ?_)
                                                                                    refine zg_aload_n X 3 rfl dL_law_1337 ?_
                                                                                    refine zg_iload_n X 0 rfl dL_law_1338 ?_
                                                                                    refine zg_iconst X 2 dL_law_1339 (by decide) (fun v762 _ hv762 => ?_)
                                                                                    refine zg_iadd X dL_law_1340 (by omega) (by omega) (fun v763 ev763 hv763 => ?_)
                                                                                    refine zg_sld X hX hbl hbA (by omega) (by omega) dL_law_1341 (fun v764 ev764 => ?_)
                                                                                    refine zg_swap ?_
                                                                                    have X : zX d L2 kd2 A 4 p s m #[Value.ref b] c cL_law RL := X
                                                                                    refine zg_cVi (As := [.int v761, .int v764]) (st := []) X hm0 rfl (by decide) rfl (t_X11_dyed l d L2 kd2 κ _ hI2 m0 hm0 v761 v764  hgN hgH hgE hgL) mk_L_178 mc_X11_dyed mz_X11 mi_X11_dyed ml_X11_dyed (na := 2) ⟨md_X11.1, md_X11.2, by decide +kernel⟩ rfl ⟨by decide, by decide⟩ (Nat.le_of_ble_eq_true rfl) dL_law_1342 (fun v765 s766 hq => ?_)
                                                                                    obtain ⟨hFs766, hq⟩ := hq
                                                                                    obtain ⟨⟨gNs766, gHs766, gEs766, gLs766⟩, h767, g768⟩ := hq
                                                                                    have gKs766 := gK.same h767 hm0 g768 (by decide) hgK
                                                                                    have hMs766 := zRP.m hMs757 hI2 hm0 g768 (by decide) (by decide)
                                                                                    refine zg_pop X dL_law_1345 rfl ?_
                                                                                    refine zg_goto X 1441 dL_law_1346 (by decide) ?_
                                                                                    refine zg_iinc X 6 (fun v769 => [(3, .int v769), (2, .ref m0), (1, .ref x0), (0, .ref b)]) 0 dL_law_1441 rfl (by decide) (by decide) (by omega) (by omega) (fun _ => rfl) (fun v769 ev769 hv769 => ?_)
                                                                                    refine zg_goto X 18 dL_law_1444 (by decide) ?_
                                                                                    refine zg_swap ?_
                                                                                    have X : zX d L1 kd1 A 4 p s m #[Value.ref b] c cL_law RL := X
                                                                                    refine zg_sub [0, 1, 2, 3] rfl ?_
                                                                                    exact ihLp _ _ _ v769 h758 h767 hMs766 gNs766 gHs766 gEs766 gLs766 gKs766 (by omega) (by omega)
                                                                                  · skip
                                                                                    by_cases q770 : v8.toInt = 39
                                                                                    · refine zg_tabIn X 1349 39 dL_law_33 q770 (by decide) (by decide) rfl (by decide) ?_
                                                                                      refine zg_aload_n X 2 rfl dL_law_1349 ?_
                                                                                      refine zg_aload_n X 3 rfl dL_law_1350 ?_
                                                                                      refine zg_iload_n X 0 rfl dL_law_1351 ?_
                                                                                      refine zg_iconst X 1 dL_law_1352 (by decide) (fun v771 _ hv771 => ?_)
                                                                                      refine zg_iadd X dL_law_1353 (by omega) (by omega) (fun v772 ev772 hv772 => ?_)
                                                                                      refine zg_sld X hX hbl hbA (by omega) (by omega) dL_law_1354 (fun v773 ev773 => ?_)
                                                                                      refine zg_cVi (As := [.int v773]) (st := []) X hx0 rfl (by decide) rfl (t_X10_watch l d L1 kd1 κ _ hI1 x0 hx0 v773 ) mk_L_179 mc_X10_watch mz_X10 mi_X10_watch ml_X10_watch (na := 1) ⟨md_X10.1, md_X10.2, by decide +kernel⟩ rfl ⟨by decide, by decide⟩ (Nat.le_of_ble_eq_true rfl) dL_law_1355 (fun v774 s775 hq => ?_)
                                                                                      obtain ⟨hFs775, hSs775, hq⟩ := hq
                                                                                      have h776 := hq
                                                                                      have hMs775 := zRP.c hM hx0 hI1 hSs775 (zRy.of (rz_X10_watch zRz.rf) hFs775) (by decide) (by decide)
                                                                                      refine zg_pop X dL_law_1358 rfl ?_
                                                                                      refine zg_aload_n X 1 rfl dL_law_1359 ?_
                                                                                      refine zg_aload_n X 3 rfl dL_law_1360 ?_
                                                                                      refine zg_iload_n X 0 rfl dL_law_1361 ?_
                                                                                      refine zg_iconst X 1 dL_law_1362 (by decide) (fun v777 _ hv777 => ?_)
                                                                                      refine zg_iadd X dL_law_1363 (by omega) (by omega) (fun v778 ev778 hv778 => ?_)
                                                                                      refine zg_sld X hX hbl hbA (by omega) (by omega) dL_law_1364 (fun v779 ev779 => ?_)
                                                                                      refine zg_swap ?_
                                                                                      have X : zX d L2 kd2 A 4 p s m #[Value.ref b] c cL_law RL := X
                                                                                      refine zg_cVi (As := [.int v779]) (st := []) X hm0 rfl (by decide) rfl (t_X11_watch l d L2 kd2 κ _ hI2 m0 hm0 v779  hgN hgH hgE hgL) mk_L_182 mc_X11_watch mz_X11 mi_X11_watch ml_X11_watch (na := 1) ⟨md_X11.1, md_X11.2, by decide +kernel⟩ rfl ⟨by decide, by decide⟩ (Nat.le_of_ble_eq_true rfl) dL_law_1365 (fun v780 s781 hq => ?_)
                                                                                      obtain ⟨hFs781, hq⟩ := hq
                                                                                      obtain ⟨⟨gNs781, gHs781, gEs781, gLs781⟩, h782, g783⟩ := hq
                                                                                      have gKs781 := gK.same h782 hm0 g783 (by decide) hgK
                                                                                      have hMs781 := zRP.m hMs775 hI2 hm0 g783 (by decide) (by decide)
                                                                                      refine zg_pop X dL_law_1368 rfl ?_
                                                                                      refine zg_goto X 1441 dL_law_1369 (by decide) ?_
                                                                                      refine zg_iinc X 6 (fun v784 => [(3, .int v784), (2, .ref m0), (1, .ref x0), (0, .ref b)]) 0 dL_law_1441 rfl (by decide) (by decide) (by omega) (by omega) (fun _ => rfl) (fun v784 ev784 hv784 => ?_)
                                                                                      refine zg_goto X 18 dL_law_1444 (by decide) ?_
                                                                                      refine zg_swap ?_
                                                                                      have X : zX d L1 kd1 A 4 p s m #[Value.ref b] c cL_law RL := X
                                                                                      refine zg_sub [0, 1, 2, 3] rfl ?_
                                                                                      exact ihLp _ _ _ v784 h776 h782 hMs781 gNs781 gHs781 gEs781 gLs781 gKs781 (by omega) (by omega)
                                                                                    · skip
                                                                                      by_cases q785 : v8.toInt = 40
                                                                                      · refine zg_tabIn X 1372 40 dL_law_33 q785 (by decide) (by decide) rfl (by decide) ?_
                                                                                        refine zg_aload_n X 2 rfl dL_law_1372 ?_
                                                                                        refine zg_aload_n X 3 rfl dL_law_1373 ?_
                                                                                        refine zg_iload_n X 0 rfl dL_law_1374 ?_
                                                                                        refine zg_iconst X 1 dL_law_1375 (by decide) (fun v786 _ hv786 => ?_)
                                                                                        refine zg_iadd X dL_law_1376 (by omega) (by omega) (fun v787 ev787 hv787 => ?_)
                                                                                        refine zg_sld X hX hbl hbA (by omega) (by omega) dL_law_1377 (fun v788 ev788 => ?_)
                                                                                        refine zg_cVi (As := [.int v788]) (st := []) X hx0 rfl (by decide) rfl (t_X10_hold l d L1 kd1 κ _ hI1 x0 hx0 v788 ) mk_L_183 mc_X10_hold mz_X10 mi_X10_hold ml_X10_hold (na := 1) ⟨md_X10.1, md_X10.2, by decide +kernel⟩ rfl ⟨by decide, by decide⟩ (Nat.le_of_ble_eq_true rfl) dL_law_1378 (fun v789 s790 hq => ?_)
                                                                                        obtain ⟨hFs790, hSs790, hq⟩ := hq
                                                                                        obtain ⟨hzh791, h791⟩ := hq
                                                                                        refine zg_pop X dL_law_1381 rfl ?_
                                                                                        refine zg_aload_n X 1 rfl dL_law_1382 ?_
                                                                                        refine zg_aload_n X 3 rfl dL_law_1383 ?_
                                                                                        refine zg_iload_n X 0 rfl dL_law_1384 ?_
                                                                                        refine zg_iconst X 1 dL_law_1385 (by decide) (fun v792 _ hv792 => ?_)
                                                                                        refine zg_iadd X dL_law_1386 (by omega) (by omega) (fun v793 ev793 hv793 => ?_)
                                                                                        refine zg_sld X hX hbl hbA (by omega) (by omega) dL_law_1387 (fun v794 ev794 => ?_)
                                                                                        have wv794 : v794 = v788 := by rw [ev794, ev788, show v793 = v787 from Int32.toInt_inj.mp (by omega)]
                                                                                        have tv794 : v794.toInt = v788.toInt := by rw [wv794]
                                                                                        refine zg_swap ?_
                                                                                        have X : zX d L2 kd2 A 4 p s m #[Value.ref b] c cL_law RL := X
                                                                                        refine zg_cVi (As := [.int v794]) (st := []) X hm0 rfl (by decide) rfl (t_X11_hold l d L2 kd2 κ _ hI2 m0 hm0 v794  hgN hgH hgE hgL) mk_L_186 mc_X11_hold mz_X11 mi_X11_hold ml_X11_hold (na := 1) ⟨md_X11.1, md_X11.2, by decide +kernel⟩ rfl ⟨by decide, by decide⟩ (Nat.le_of_ble_eq_true rfl) dL_law_1388 (fun v795 s796 hq => ?_)
                                                                                        obtain ⟨hFs796, hq⟩ := hq
                                                                                        obtain ⟨⟨fs796_res, fs796_fact0, gNs796, gHs796, gEs796, gLs796⟩, h797, g798⟩ := hq
                                                                                        have gKs796 := gK.same h797 hm0 g798 (by decide) hgK
                                                                                        rw [wv794] at hFs796
                                                                                        obtain ⟨hvs796, hMs796⟩ := zRP.hold hM hI1 hI2 hx0 hm0 hFs790 hFs796 hSs790 g798
                                                                                        refine zg_pop X dL_law_1391 rfl ?_
                                                                                        refine zg_goto X 1441 dL_law_1392 (by decide) ?_
                                                                                        refine zg_iinc X 6 (fun v799 => [(3, .int v799), (2, .ref m0), (1, .ref x0), (0, .ref b)]) 0 dL_law_1441 rfl (by decide) (by decide) (by omega) (by omega) (fun _ => rfl) (fun v799 ev799 hv799 => ?_)
                                                                                        refine zg_goto X 18 dL_law_1444 (by decide) ?_
                                                                                        refine zg_swap ?_
                                                                                        have X : zX d L1 kd1 A 4 p s m #[Value.ref b] c cL_law RL := X
                                                                                        refine zg_sub [0, 1, 2, 3] rfl ?_
                                                                                        exact ihLp _ _ _ v799 h791 h797 hMs796 gNs796 gHs796 gEs796 gLs796 gKs796 (by omega) (by omega)
                                                                                      · skip
                                                                                        by_cases q800 : v8.toInt = 41
                                                                                        · refine zg_tabIn X 1395 41 dL_law_33 q800 (by decide) (by decide) rfl (by decide) ?_
                                                                                          refine zg_aload_n X 2 rfl dL_law_1395 ?_
                                                                                          refine zg_aload_n X 3 rfl dL_law_1396 ?_
                                                                                          refine zg_iload_n X 0 rfl dL_law_1397 ?_
                                                                                          refine zg_iconst X 1 dL_law_1398 (by decide) (fun v801 _ hv801 => ?_)
                                                                                          refine zg_iadd X dL_law_1399 (by omega) (by omega) (fun v802 ev802 hv802 => ?_)
                                                                                          refine zg_sld X hX hbl hbA (by omega) (by omega) dL_law_1400 (fun v803 ev803 => ?_)
                                                                                          refine zg_cVi (As := [.int v803]) (st := []) X hx0 rfl (by decide) rfl (t_X10_restore l d L1 kd1 κ _ hI1 x0 hx0 v803 ) mk_L_187 mc_X10_restore mz_X10 mi_X10_restore ml_X10_restore (na := 1) ⟨md_X10.1, md_X10.2, by decide +kernel⟩ rfl ⟨by decide, by decide⟩ (Nat.le_of_ble_eq_true rfl) dL_law_1401 (fun v804 s805 hq => ?_)
                                                                                          obtain ⟨hFs805, hSs805, hq⟩ := hq
                                                                                          obtain ⟨hzh806, h806⟩ := hq
                                                                                          refine zg_pop X dL_law_1404 rfl ?_
                                                                                          refine zg_aload_n X 1 rfl dL_law_1405 ?_
                                                                                          refine zg_aload_n X 3 rfl dL_law_1406 ?_
                                                                                          refine zg_iload_n X 0 rfl dL_law_1407 ?_
                                                                                          refine zg_iconst X 1 dL_law_1408 (by decide) (fun v807 _ hv807 => ?_)
                                                                                          refine zg_iadd X dL_law_1409 (by omega) (by omega) (fun v808 ev808 hv808 => ?_)
                                                                                          refine zg_sld X hX hbl hbA (by omega) (by omega) dL_law_1410 (fun v809 ev809 => ?_)
                                                                                          have wv809 : v809 = v803 := by rw [ev809, ev803, show v808 = v802 from Int32.toInt_inj.mp (by omega)]
                                                                                          have tv809 : v809.toInt = v803.toInt := by rw [wv809]
                                                                                          refine zg_swap ?_
                                                                                          have X : zX d L2 kd2 A 4 p s m #[Value.ref b] c cL_law RL := X
                                                                                          refine zg_cVi (As := [.int v809]) (st := []) X hm0 rfl (by decide) rfl (t_X11_restore l d L2 kd2 κ _ hI2 m0 hm0 v809  hgN hgH hgE hgL) mk_L_190 mc_X11_restore mz_X11 mi_X11_restore ml_X11_restore (na := 1) ⟨md_X11.1, md_X11.2, by decide +kernel⟩ rfl ⟨by decide, by decide⟩ (Nat.le_of_ble_eq_true rfl) dL_law_1411 (fun v810 s811 hq => ?_)
                                                                                          obtain ⟨hFs811, hq⟩ := hq
                                                                                          obtain ⟨⟨fs811_res, gNs811, gHs811, gEs811, gLs811⟩, h812, g813⟩ := hq
                                                                                          have gKs811 := gK.same h812 hm0 g813 (by decide) hgK
                                                                                          rw [wv809] at hFs811
                                                                                          obtain ⟨hvs811, hMs811⟩ := zRP.restore hM hI1 hI2 hx0 hm0 hFs805 hFs811 hSs805 g813
                                                                                          refine zg_pop X dL_law_1414 rfl ?_
                                                                                          refine zg_goto X 1441 dL_law_1415 (by decide) ?_
                                                                                          refine zg_iinc X 6 (fun v814 => [(3, .int v814), (2, .ref m0), (1, .ref x0), (0, .ref b)]) 0 dL_law_1441 rfl (by decide) (by decide) (by omega) (by omega) (fun _ => rfl) (fun v814 ev814 hv814 => ?_)
                                                                                          refine zg_goto X 18 dL_law_1444 (by decide) ?_
                                                                                          refine zg_swap ?_
                                                                                          have X : zX d L1 kd1 A 4 p s m #[Value.ref b] c cL_law RL := X
                                                                                          refine zg_sub [0, 1, 2, 3] rfl ?_
                                                                                          exact ihLp _ _ _ v814 h806 h812 hMs811 gNs811 gHs811 gEs811 gLs811 gKs811 (by omega) (by omega)
                                                                                        · skip
                                                                                          by_cases q815 : v8.toInt = 42
                                                                                          · refine zg_tabIn X 1418 42 dL_law_33 q815 (by decide) (by decide) rfl (by decide) ?_
                                                                                            refine zg_aload_n X 2 rfl dL_law_1418 ?_
                                                                                            refine zg_aload_n X 3 rfl dL_law_1419 ?_
                                                                                            refine zg_iload_n X 0 rfl dL_law_1420 ?_
                                                                                            refine zg_iconst X 1 dL_law_1421 (by decide) (fun v816 _ hv816 => ?_)
                                                                                            refine zg_iadd X dL_law_1422 (by omega) (by omega) (fun v817 ev817 hv817 => ?_)
                                                                                            refine zg_sld X hX hbl hbA (by omega) (by omega) dL_law_1423 (fun v818 ev818 => ?_)
                                                                                            refine zg_cVi (As := [.int v818]) (st := []) X hx0 rfl (by decide) rfl (t_X10_count l d L1 kd1 κ _ hI1 x0 hx0 v818 ) mk_L_191 mc_X10_count mz_X10 mi_X10_count ml_X10_count (na := 1) ⟨md_X10.1, md_X10.2, by decide +kernel⟩ rfl ⟨by decide, by decide⟩ (Nat.le_of_ble_eq_true rfl) dL_law_1424 (fun v819 s820 hq => ?_)
                                                                                            obtain ⟨hFs820, hSs820, hq⟩ := hq
                                                                                            have h821 := hq
                                                                                            have hMs820 := zRP.c hM hx0 hI1 hSs820 (zRy.of (rz_X10_count zRz.rf) hFs820) (by decide) (by decide)
                                                                                            refine zg_pop X dL_law_1427 rfl ?_
                                                                                            refine zg_aload_n X 1 rfl dL_law_1428 ?_
                                                                                            refine zg_aload_n X 3 rfl dL_law_1429 ?_
                                                                                            refine zg_iload_n X 0 rfl dL_law_1430 ?_
                                                                                            refine zg_iconst X 1 dL_law_1431 (by decide) (fun v822 _ hv822 => ?_)
                                                                                            refine zg_iadd X dL_law_1432 (by omega) (by omega) (fun v823 ev823 hv823 => ?_)
                                                                                            refine zg_sld X hX hbl hbA (by omega) (by omega) dL_law_1433 (fun v824 ev824 => ?_)
                                                                                            refine zg_swap ?_
                                                                                            have X : zX d L2 kd2 A 4 p s m #[Value.ref b] c cL_law RL := X
                                                                                            refine zg_cVi (As := [.int v824]) (st := []) X hm0 rfl (by decide) rfl (t_X11_count l d L2 kd2 κ _ hI2 m0 hm0 v824  hgN hgH hgE hgL) mk_L_194 mc_X11_count mz_X11 mi_X11_count ml_X11_count (na := 1) ⟨md_X11.1, md_X11.2, by decide +kernel⟩ rfl ⟨by decide, by decide⟩ (Nat.le_of_ble_eq_true rfl) dL_law_1434 (fun v825 s826 hq => ?_)
                                                                                            obtain ⟨hFs826, hq⟩ := hq
                                                                                            obtain ⟨⟨gNs826, gHs826, gEs826, gLs826⟩, h827, g828⟩ := hq
                                                                                            have gKs826 := gK.same h827 hm0 g828 (by decide) hgK
                                                                                            have hMs826 := zRP.m hMs820 hI2 hm0 g828 (by decide) (by decide)
                                                                                            refine zg_pop X dL_law_1437 rfl ?_
                                                                                            refine zg_goto X 1441 dL_law_1438 (by decide) ?_
                                                                                            refine zg_iinc X 6 (fun v829 => [(3, .int v829), (2, .ref m0), (1, .ref x0), (0, .ref b)]) 0 dL_law_1441 rfl (by decide) (by decide) (by omega) (by omega) (fun _ => rfl) (fun v829 ev829 hv829 => ?_)
                                                                                            refine zg_goto X 18 dL_law_1444 (by decide) ?_
                                                                                            refine zg_swap ?_
                                                                                            have X : zX d L1 kd1 A 4 p s m #[Value.ref b] c cL_law RL := X
                                                                                            refine zg_sub [0, 1, 2, 3] rfl ?_
                                                                                            exact ihLp _ _ _ v829 h821 h827 hMs826 gNs826 gHs826 gEs826 gLs826 gKs826 (by omega) (by omega)
                                                                                          · skip
                                                                                            refine zg_tabOut X 1441 dL_law_33 (by omega) (by decide) ?_
                                                                                            refine zg_iinc X 6 (fun v830 => [(3, .int v830), (2, .ref m0), (1, .ref x0), (0, .ref b)]) 0 dL_law_1441 rfl (by decide) (by decide) (by omega) (by omega) (fun _ => rfl) (fun v830 ev830 hv830 => ?_)
                                                                                            refine zg_goto X 18 dL_law_1444 (by decide) ?_
                                                                                            refine zg_sub [0, 1, 2, 3] rfl ?_
                                                                                            exact ihLp _ _ _ v830 hI1 hI2 hM hgN hgH hgE hgL hgK (by omega) (by omega)
