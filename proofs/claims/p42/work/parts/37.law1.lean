set_option maxHeartbeats 40000000 in
set_option maxRecDepth 100000 in
theorem zl_loop {p : Program} {e : Env} {s : State} {m : MethodId} {below : List Frame} {meth : Method} {c : Code} (l : Launch) (d : zD2) {A : Nat → Prop} {Q : State → Prop} {b N : Nat} {xs : Nat → Int32} (hL : N ≤ 3072) (X : zX d [] (fun _ => 0) A 4 p s m #[Value.ref b] c cL_law RL) (hX : va_X b N xs s s.heap) (hbl : b < s.heap.size) (hbA : ¬ A b) (L1 L2 : List Nat) (kd1 kd2 : Nat → Nat) (x0 m0 : Nat) (hx0 : zT L1 kd1 x0 10) (hm0 : zT L2 kd2 m0 11)
    (fin : ∀ {rs : va_W} {L : List Nat} {kd : Nat → Nat} {σ : zS} (pc : Nat) (lv : List (Nat × Value)), decode cL_law pc = .ok (.ireturn, 1) → zGc rs 276 18999 d L kd A 4 p l e room_1 s m #[Value.ref b] below meth c Q σ pc lv [.int 1]) :
    ∀ (n : Nat) (κ : Int) (σ1 σ2 : zS) (x : Int32), zI κ 0 L1 kd1 σ1 → zJ κ L2 kd2 σ2 → gN m0 σ2 → gH m0 σ2 → gE m0 σ2 → gL m0 σ2 → gK m0 σ2 → 0 ≤ x.toInt ∧ x.toInt ≤ 3072 → 3072 - x.toInt < (n : Int) → zGc (zW d.2.2 L2 kd2 σ2) 276 18999 d L1 kd1 A 4 p l e room_1 s m #[Value.ref b] below meth c Q σ1 18 [(3, .int x), (2, .ref m0), (1, .ref x0), (0, .ref b)] [] := by
  intro n
  induction n with
  | zero => intro κ σ1 σ2 x hI1 hI2 hgN hgH hgE hgL hgK hx hm; exact absurd hm (by omega)
  | succ n ihLp =>
    intro κ σ1 σ2 x hI1 hI2 hgN hgH hgE hgL hgK hx hm
    have X : zX d L1 kd1 A 4 p s m #[Value.ref b] c cL_law RL := X
    refine zg_iload_n X 0 rfl dL_law_18 ?_
    refine zg_aload_n X 3 rfl dL_law_19 ?_
    refine zg_slenX X hX hbl hbA hL dL_law_20 (fun v1 hv1 => ?_)
    refine zg_bipush X 6 dL_law_21 (by decide) (fun v2 _ hv2 => ?_)
    refine zg_isub X dL_law_23 (by omega) (by omega) (fun v3 _ hv3 => ?_)
    refine zg_icmp_gt X 1447 dL_law_24 (by decide) (fun c4 => ?_) (fun c4 => ?_)
    · skip
      refine zg_iconst X 1 dL_law_1447 (by decide) (fun v5 _ hv5 => ?_)
      have e1 : v5 = 1 := Int32.toInt_inj.mp (by rw [hv5]; rfl)
      subst e1
      exact fin _ _ dL_law_1448
    · skip
      refine zg_aload_n X 3 rfl dL_law_27 ?_
      refine zg_iload_n X 0 rfl dL_law_28 ?_
      refine zg_sld X hX hbl hbA (by omega) (by omega) dL_law_29 (fun v6 ev6 => ?_)
      refine zg_bipush X 63 dL_law_30 (by decide) (fun v7 _ hv7 => ?_)
      refine zg_iandW X dL_law_32 (fun v8 _ => ?_)
      by_cases q9 : v8.toInt = 0
      · refine zg_tabIn X 220 0 dL_law_33 q9 (by decide) (by decide) rfl (by decide) ?_
        refine zg_aload_n X 2 rfl dL_law_220 ?_
        refine zg_aload_n X 3 rfl dL_law_221 ?_
        refine zg_iload_n X 0 rfl dL_law_222 ?_
        refine zg_iconst X 1 dL_law_223 (by decide) (fun v10 _ hv10 => ?_)
        refine zg_iadd X dL_law_224 (by omega) (by omega) (fun v11 _ hv11 => ?_)
        refine zg_sld X hX hbl hbA (by omega) (by omega) dL_law_225 (fun v12 ev12 => ?_)
        refine zg_aload_n X 3 rfl dL_law_226 ?_
        refine zg_iload_n X 0 rfl dL_law_227 ?_
        refine zg_iconst X 2 dL_law_228 (by decide) (fun v13 _ hv13 => ?_)
        refine zg_iadd X dL_law_229 (by omega) (by omega) (fun v14 _ hv14 => ?_)
        refine zg_sld X hX hbl hbA (by omega) (by omega) dL_law_230 (fun v15 ev15 => ?_)
        refine zg_aload_n X 3 rfl dL_law_231 ?_
        refine zg_iload_n X 0 rfl dL_law_232 ?_
        refine zg_iconst X 3 dL_law_233 (by decide) (fun v16 _ hv16 => ?_)
        refine zg_iadd X dL_law_234 (by omega) (by omega) (fun v17 _ hv17 => ?_)
        refine zg_sld X hX hbl hbA (by omega) (by omega) dL_law_235 (fun v18 ev18 => ?_)
        refine zg_aload_n X 3 rfl dL_law_236 ?_
        refine zg_iload_n X 0 rfl dL_law_237 ?_
        refine zg_iconst X 4 dL_law_238 (by decide) (fun v19 _ hv19 => ?_)
        refine zg_iadd X dL_law_239 (by omega) (by omega) (fun v20 _ hv20 => ?_)
        refine zg_sld X hX hbl hbA (by omega) (by omega) dL_law_240 (fun v21 ev21 => ?_)
        refine zg_aload_n X 3 rfl dL_law_241 ?_
        refine zg_iload_n X 0 rfl dL_law_242 ?_
        refine zg_iconst X 5 dL_law_243 (by decide) (fun v22 _ hv22 => ?_)
        refine zg_iadd X dL_law_244 (by omega) (by omega) (fun v23 _ hv23 => ?_)
        refine zg_sld X hX hbl hbA (by omega) (by omega) dL_law_245 (fun v24 ev24 => ?_)
        refine zg_cVi (As := [.int v12, .int v15, .int v18, .int v21, .int v24]) (st := []) X hx0 rfl (by decide) rfl (t_X10_feed l d L1 kd1 κ _ hI1 x0 hx0 v12 v15 v18 v21 v24 ) mk_L_13 mc_X10_feed mz_X10 mi_X10_feed ml_X10_feed (na := 5) ⟨md_X10.1, md_X10.2, by decide +kernel⟩ rfl ⟨by decide, by decide⟩ (Nat.le_of_ble_eq_true rfl) dL_law_246 (fun v25 s26 hq => ?_)
        obtain ⟨ks26, h27, fxs26⟩ : ∃ k : Int, zI k 0 L1 kd1 s26 ∧ ((v25.toInt = -1 ∧ 2000 < κ + 20 ∧ k = κ) ∨ (v25.toInt = κ + 20 ∧ κ + 20 ≤ 2000 ∧ k = κ + 20)) := by
          rcases hq with ⟨q1, q2, q3⟩ | ⟨q1, q2, q3⟩
          · exact ⟨_, q3, Or.inl ⟨q1, q2, rfl⟩⟩
          · exact ⟨_, q3, Or.inr ⟨q1, q2, rfl⟩⟩
        refine zg_pop X dL_law_249 rfl ?_
        refine zg_aload_n X 1 rfl dL_law_250 ?_
        refine zg_aload_n X 3 rfl dL_law_251 ?_
        refine zg_iload_n X 0 rfl dL_law_252 ?_
        refine zg_iconst X 1 dL_law_253 (by decide) (fun v28 _ hv28 => ?_)
        refine zg_iadd X dL_law_254 (by omega) (by omega) (fun v29 _ hv29 => ?_)
        refine zg_sld X hX hbl hbA (by omega) (by omega) dL_law_255 (fun v30 ev30 => ?_)
        refine zg_aload_n X 3 rfl dL_law_256 ?_
        refine zg_iload_n X 0 rfl dL_law_257 ?_
        refine zg_iconst X 2 dL_law_258 (by decide) (fun v31 _ hv31 => ?_)
        refine zg_iadd X dL_law_259 (by omega) (by omega) (fun v32 _ hv32 => ?_)
        refine zg_sld X hX hbl hbA (by omega) (by omega) dL_law_260 (fun v33 ev33 => ?_)
        refine zg_aload_n X 3 rfl dL_law_261 ?_
        refine zg_iload_n X 0 rfl dL_law_262 ?_
        refine zg_iconst X 3 dL_law_263 (by decide) (fun v34 _ hv34 => ?_)
        refine zg_iadd X dL_law_264 (by omega) (by omega) (fun v35 _ hv35 => ?_)
        refine zg_sld X hX hbl hbA (by omega) (by omega) dL_law_265 (fun v36 ev36 => ?_)
        refine zg_aload_n X 3 rfl dL_law_266 ?_
        refine zg_iload_n X 0 rfl dL_law_267 ?_
        refine zg_iconst X 4 dL_law_268 (by decide) (fun v37 _ hv37 => ?_)
        refine zg_iadd X dL_law_269 (by omega) (by omega) (fun v38 _ hv38 => ?_)
        refine zg_sld X hX hbl hbA (by omega) (by omega) dL_law_270 (fun v39 ev39 => ?_)
        refine zg_aload_n X 3 rfl dL_law_271 ?_
        refine zg_iload_n X 0 rfl dL_law_272 ?_
        refine zg_iconst X 5 dL_law_273 (by decide) (fun v40 _ hv40 => ?_)
        refine zg_iadd X dL_law_274 (by omega) (by omega) (fun v41 _ hv41 => ?_)
        refine zg_sld X hX hbl hbA (by omega) (by omega) dL_law_275 (fun v42 ev42 => ?_)
        refine zg_swap ?_
        have X : zX d L2 kd2 A 4 p s m #[Value.ref b] c cL_law RL := X
        refine zg_cVi (As := [.int v30, .int v33, .int v36, .int v39, .int v42]) (st := []) X hm0 rfl (by decide) rfl (t_X11_feed l d L2 kd2 κ _ hI2 m0 hm0 v30 v33 v36 v39 v42  hgN hgH hgE hgL) mk_L_17 mc_X11_feed mz_X11 mi_X11_feed ml_X11_feed (na := 5) ⟨md_X11.1, md_X11.2, by decide +kernel⟩ rfl ⟨by decide, by decide⟩ (Nat.le_of_ble_eq_true rfl) dL_law_276 (fun v43 s44 hq => ?_)
        obtain ⟨ks44, ⟨fs44_fact0, gNs44, gHs44, gEs44, gLs44⟩, h45, g46⟩ := hq
        have gKs44 := gK.same h45 hm0 g46 (by decide) hgK
        refine zg_pop X dL_law_279 rfl ?_
        refine zg_goto X 1441 dL_law_280 (by decide) ?_
        refine zg_iinc X 6 (fun v47 => [(3, .int v47), (2, .ref m0), (1, .ref x0), (0, .ref b)]) 0 dL_law_1441 rfl (by decide) (by decide) (by omega) (by omega) (fun _ => rfl) (fun v47 _ hv47 => ?_)
        refine zg_goto X 18 dL_law_1444 (by decide) ?_
        refine zg_swap ?_
        have X : zX d L1 kd1 A 4 p s m #[Value.ref b] c cL_law RL := X
        refine zg_sub [0, 1, 2, 3] rfl ?_
        exact ihLp _ _ _ v47 h27 (zj_eq (by omega : ks44 = ks26) h45) gNs44 gHs44 gEs44 gLs44 gKs44 (by omega) (by omega)
      · skip
        by_cases q48 : v8.toInt = 1
        · refine zg_tabIn X 283 1 dL_law_33 q48 (by decide) (by decide) rfl (by decide) ?_
          refine zg_aload_n X 2 rfl dL_law_283 ?_
          refine zg_aload_n X 3 rfl dL_law_284 ?_
          refine zg_iload_n X 0 rfl dL_law_285 ?_
          refine zg_iconst X 1 dL_law_286 (by decide) (fun v49 _ hv49 => ?_)
          refine zg_iadd X dL_law_287 (by omega) (by omega) (fun v50 _ hv50 => ?_)
          refine zg_sld X hX hbl hbA (by omega) (by omega) dL_law_288 (fun v51 ev51 => ?_)
          refine zg_cVi (As := [.int v51]) (st := []) X hx0 rfl (by decide) rfl (t_X10_back l d L1 kd1 κ _ hI1 x0 hx0 v51 ) mk_L_18 mc_X10_back mz_X10 mi_X10_back ml_X10_back (na := 1) ⟨md_X10.1, md_X10.2, by decide +kernel⟩ rfl ⟨by decide, by decide⟩ (Nat.le_of_ble_eq_true rfl) dL_law_289 (fun v52 s53 hq => ?_)
          obtain ⟨ks53, h54, fxs53⟩ : ∃ k : Int, zI k 0 L1 kd1 s53 ∧ ((v52.toInt = -1 ∧ (v51.toInt < 0 ∨ κ < v51.toInt) ∧ k = κ) ∨ (v52.toInt = κ - v51.toInt ∧ 0 ≤ v51.toInt ∧ v51.toInt ≤ κ ∧ k = κ - v51.toInt)) := by
            rcases hq with ⟨q1, q2, q3⟩ | ⟨q1, q2, q3, q4⟩
            · exact ⟨_, q3, Or.inl ⟨q1, q2, rfl⟩⟩
            · exact ⟨_, q4, Or.inr ⟨q1, q2, q3, rfl⟩⟩
          refine zg_pop X dL_law_292 rfl ?_
          refine zg_aload_n X 1 rfl dL_law_293 ?_
          refine zg_aload_n X 3 rfl dL_law_294 ?_
          refine zg_iload_n X 0 rfl dL_law_295 ?_
          refine zg_iconst X 1 dL_law_296 (by decide) (fun v55 _ hv55 => ?_)
          refine zg_iadd X dL_law_297 (by omega) (by omega) (fun v56 _ hv56 => ?_)
          refine zg_sld X hX hbl hbA (by omega) (by omega) dL_law_298 (fun v57 ev57 => ?_)
          have tv57 : v57.toInt = v51.toInt := by rw [ev57, ev51, show v56 = v50 from Int32.toInt_inj.mp (by omega)]
          refine zg_swap ?_
          have X : zX d L2 kd2 A 4 p s m #[Value.ref b] c cL_law RL := X
          refine zg_cVi (As := [.int v57]) (st := []) X hm0 rfl (by decide) rfl (t_X11_back l d L2 kd2 κ _ hI2 m0 hm0 v57  hgN hgH hgE hgL) mk_L_22 mc_X11_back mz_X11 mi_X11_back ml_X11_back (na := 1) ⟨md_X11.1, md_X11.2, by decide +kernel⟩ rfl ⟨by decide, by decide⟩ (Nat.le_of_ble_eq_true rfl) dL_law_299 (fun v58 s59 hq => ?_)
          obtain ⟨ks59, ⟨fs59_fact0, gNs59, gHs59, gEs59, gLs59⟩, h60, g61⟩ := hq
          have gKs59 := gK.same h60 hm0 g61 (by decide) hgK
          refine zg_pop X dL_law_302 rfl ?_
          refine zg_goto X 1441 dL_law_303 (by decide) ?_
          refine zg_iinc X 6 (fun v62 => [(3, .int v62), (2, .ref m0), (1, .ref x0), (0, .ref b)]) 0 dL_law_1441 rfl (by decide) (by decide) (by omega) (by omega) (fun _ => rfl) (fun v62 _ hv62 => ?_)
          refine zg_goto X 18 dL_law_1444 (by decide) ?_
          refine zg_swap ?_
          have X : zX d L1 kd1 A 4 p s m #[Value.ref b] c cL_law RL := X
          refine zg_sub [0, 1, 2, 3] rfl ?_
          exact ihLp _ _ _ v62 h54 (zj_eq (by omega : ks59 = ks53) h60) gNs59 gHs59 gEs59 gLs59 gKs59 (by omega) (by omega)
        · skip
          by_cases q63 : v8.toInt = 2
          · refine zg_tabIn X 306 2 dL_law_33 q63 (by decide) (by decide) rfl (by decide) ?_
            refine zg_aload_n X 2 rfl dL_law_306 ?_
            refine zg_cVi (As := []) (st := []) X hx0 rfl (by decide) rfl (t_X10_read l d L1 kd1 κ _ hI1 x0 hx0  ) mk_L_23 mc_X10_read mz_X10 mi_X10_read ml_X10_read (na := 0) ⟨md_X10.1, md_X10.2, by decide +kernel⟩ rfl ⟨by decide, by decide⟩ (Nat.le_of_ble_eq_true rfl) dL_law_307 (fun v64 s65 hq => ?_)
            have h66 := hq
            refine zg_pop X dL_law_310 rfl ?_
            refine zg_aload_n X 1 rfl dL_law_311 ?_
            refine zg_swap ?_
            have X : zX d L2 kd2 A 4 p s m #[Value.ref b] c cL_law RL := X
            refine zg_cVi (As := []) (st := []) X hm0 rfl (by decide) rfl (t_X11_read l d L2 kd2 κ _ hI2 m0 hm0   hgN hgH hgE hgL hgK) mk_L_27 mc_X11_read mz_X11 mi_X11_read ml_X11_read (na := 0) ⟨md_X11.1, md_X11.2, by decide +kernel⟩ rfl ⟨by decide, by decide⟩ (Nat.le_of_ble_eq_true rfl) dL_law_312 (fun v67 s68 hq => ?_)
            obtain ⟨⟨gNs68, gHs68, gEs68, gLs68, gKs68⟩, h69, g70⟩ := hq
            refine zg_pop X dL_law_315 rfl ?_
            refine zg_goto X 1441 dL_law_316 (by decide) ?_
            refine zg_iinc X 6 (fun v71 => [(3, .int v71), (2, .ref m0), (1, .ref x0), (0, .ref b)]) 0 dL_law_1441 rfl (by decide) (by decide) (by omega) (by omega) (fun _ => rfl) (fun v71 _ hv71 => ?_)
            refine zg_goto X 18 dL_law_1444 (by decide) ?_
            refine zg_swap ?_
            have X : zX d L1 kd1 A 4 p s m #[Value.ref b] c cL_law RL := X
            refine zg_sub [0, 1, 2, 3] rfl ?_
            exact ihLp _ _ _ v71 h66 h69 gNs68 gHs68 gEs68 gLs68 gKs68 (by omega) (by omega)
          · skip
            by_cases q72 : v8.toInt = 3
            · refine zg_tabIn X 319 3 dL_law_33 q72 (by decide) (by decide) rfl (by decide) ?_
              refine zg_aload_n X 2 rfl dL_law_319 ?_
              refine zg_cVi (As := []) (st := []) X hx0 rfl (by decide) rfl (t_X10_place l d L1 kd1 κ _ hI1 x0 hx0  ) mk_L_28 mc_X10_place mz_X10 mi_X10_place ml_X10_place (na := 0) ⟨md_X10.1, md_X10.2, by decide +kernel⟩ rfl ⟨by decide, by decide⟩ (Nat.le_of_ble_eq_true rfl) dL_law_320 (fun v73 s74 hq => ?_)
              have h75 := hq
              refine zg_pop X dL_law_323 rfl ?_
              refine zg_aload_n X 1 rfl dL_law_324 ?_
              refine zg_swap ?_
              have X : zX d L2 kd2 A 4 p s m #[Value.ref b] c cL_law RL := X
              refine zg_cVi (As := []) (st := []) X hm0 rfl (by decide) rfl (t_X11_place l d L2 kd2 κ _ hI2 m0 hm0   ) mk_L_31 mc_X11_place mz_X11 mi_X11_place ml_X11_place (na := 0) ⟨md_X11.1, md_X11.2, by decide +kernel⟩ rfl ⟨by decide, by decide⟩ (Nat.le_of_ble_eq_true rfl) dL_law_325 (fun v76 s77 hq => ?_)
              subst hq
              refine zg_pop X dL_law_328 rfl ?_
              refine zg_goto X 1441 dL_law_329 (by decide) ?_
              refine zg_iinc X 6 (fun v79 => [(3, .int v79), (2, .ref m0), (1, .ref x0), (0, .ref b)]) 0 dL_law_1441 rfl (by decide) (by decide) (by omega) (by omega) (fun _ => rfl) (fun v79 _ hv79 => ?_)
              refine zg_goto X 18 dL_law_1444 (by decide) ?_
              refine zg_swap ?_
              have X : zX d L1 kd1 A 4 p s m #[Value.ref b] c cL_law RL := X
              refine zg_sub [0, 1, 2, 3] rfl ?_
              exact ihLp _ _ _ v79 h75 hI2 hgN hgH hgE hgL hgK (by omega) (by omega)
            · skip
              by_cases q80 : v8.toInt = 4
              · refine zg_tabIn X 332 4 dL_law_33 q80 (by decide) (by decide) rfl (by decide) ?_
                refine zg_aload_n X 2 rfl dL_law_332 ?_
                refine zg_aload_n X 3 rfl dL_law_333 ?_
                refine zg_iload_n X 0 rfl dL_law_334 ?_
                refine zg_iconst X 1 dL_law_335 (by decide) (fun v81 _ hv81 => ?_)
                refine zg_iadd X dL_law_336 (by omega) (by omega) (fun v82 _ hv82 => ?_)
                refine zg_sld X hX hbl hbA (by omega) (by omega) dL_law_337 (fun v83 ev83 => ?_)
                refine zg_aload_n X 3 rfl dL_law_338 ?_
                refine zg_iload_n X 0 rfl dL_law_339 ?_
                refine zg_iconst X 2 dL_law_340 (by decide) (fun v84 _ hv84 => ?_)
                refine zg_iadd X dL_law_341 (by omega) (by omega) (fun v85 _ hv85 => ?_)
                refine zg_sld X hX hbl hbA (by omega) (by omega) dL_law_342 (fun v86 ev86 => ?_)
                refine zg_cVi (As := [.int v83, .int v86]) (st := []) X hx0 rfl (by decide) rfl (t_X10_spot l d L1 kd1 κ _ hI1 x0 hx0 v83 v86 ) mk_L_32 mc_X10_spot mz_X10 mi_X10_spot ml_X10_spot (na := 2) ⟨md_X10.1, md_X10.2, by decide +kernel⟩ rfl ⟨by decide, by decide⟩ (Nat.le_of_ble_eq_true rfl) dL_law_343 (fun v87 s88 hq => ?_)
                have h89 := hq
                refine zg_pop X dL_law_346 rfl ?_
                refine zg_aload_n X 1 rfl dL_law_347 ?_
                refine zg_aload_n X 3 rfl dL_law_348 ?_
                refine zg_iload_n X 0 rfl dL_law_349 ?_
                refine zg_iconst X 1 dL_law_350 (by decide) (fun v90 _ hv90 => ?_)
                refine zg_iadd X dL_law_351 (by omega) (by omega) (fun v91 _ hv91 => ?_)
                refine zg_sld X hX hbl hbA (by omega) (by omega) dL_law_352 (fun v92 ev92 => ?_)
                refine zg_aload_n X 3 rfl dL_law_353 ?_
                refine zg_iload_n X 0 rfl dL_law_354 ?_
                refine zg_iconst X 2 dL_law_355 (by decide) (fun v93 _ hv93 => ?_)
                refine zg_iadd X dL_law_356 (by omega) (by omega) (fun v94 _ hv94 => ?_)
                refine zg_sld X hX hbl hbA (by omega) (by omega) dL_law_357 (fun v95 ev95 => ?_)
                refine zg_swap ?_
                have X : zX d L2 kd2 A 4 p s m #[Value.ref b] c cL_law RL := X
                refine zg_cVi (As := [.int v92, .int v95]) (st := []) X hm0 rfl (by decide) rfl (t_X11_spot l d L2 kd2 κ _ hI2 m0 hm0 v92 v95  hgN hgH hgE hgL) mk_L_36 mc_X11_spot mz_X11 mi_X11_spot ml_X11_spot (na := 2) ⟨md_X11.1, md_X11.2, by decide +kernel⟩ rfl ⟨by decide, by decide⟩ (Nat.le_of_ble_eq_true rfl) dL_law_358 (fun v96 s97 hq => ?_)
                obtain ⟨⟨gNs97, gHs97, gEs97, gLs97⟩, h98, g99⟩ := hq
                have gKs97 := gK.same h98 hm0 g99 (by decide) hgK
                refine zg_pop X dL_law_361 rfl ?_
                refine zg_goto X 1441 dL_law_362 (by decide) ?_
                refine zg_iinc X 6 (fun v100 => [(3, .int v100), (2, .ref m0), (1, .ref x0), (0, .ref b)]) 0 dL_law_1441 rfl (by decide) (by decide) (by omega) (by omega) (fun _ => rfl) (fun v100 _ hv100 => ?_)
                refine zg_goto X 18 dL_law_1444 (by decide) ?_
                refine zg_swap ?_
                have X : zX d L1 kd1 A 4 p s m #[Value.ref b] c cL_law RL := X
                refine zg_sub [0, 1, 2, 3] rfl ?_
                exact ihLp _ _ _ v100 h89 h98 gNs97 gHs97 gEs97 gLs97 gKs97 (by omega) (by omega)
              · skip
                by_cases q101 : v8.toInt = 5
                · refine zg_tabIn X 365 5 dL_law_33 q101 (by decide) (by decide) rfl (by decide) ?_
                  refine zg_aload_n X 2 rfl dL_law_365 ?_
                  refine zg_aload_n X 3 rfl dL_law_366 ?_
                  refine zg_iload_n X 0 rfl dL_law_367 ?_
                  refine zg_iconst X 1 dL_law_368 (by decide) (fun v102 _ hv102 => ?_)
                  refine zg_iadd X dL_law_369 (by omega) (by omega) (fun v103 _ hv103 => ?_)
                  refine zg_sld X hX hbl hbA (by omega) (by omega) dL_law_370 (fun v104 ev104 => ?_)
                  refine zg_aload_n X 3 rfl dL_law_371 ?_
                  refine zg_iload_n X 0 rfl dL_law_372 ?_
                  refine zg_iconst X 2 dL_law_373 (by decide) (fun v105 _ hv105 => ?_)
                  refine zg_iadd X dL_law_374 (by omega) (by omega) (fun v106 _ hv106 => ?_)
                  refine zg_sld X hX hbl hbA (by omega) (by omega) dL_law_375 (fun v107 ev107 => ?_)
                  refine zg_cVi (As := [.int v104, .int v107]) (st := []) X hx0 rfl (by decide) rfl (t_X10_claim l d L1 kd1 κ _ hI1 x0 hx0 v104 v107 ) mk_L_37 mc_X10_claim mz_X10 mi_X10_claim ml_X10_claim (na := 2) ⟨md_X10.1, md_X10.2, by decide +kernel⟩ rfl ⟨by decide, by decide⟩ (Nat.le_of_ble_eq_true rfl) dL_law_376 (fun v108 s109 hq => ?_)
                  have h110 := hq
                  refine zg_pop X dL_law_379 rfl ?_
                  refine zg_aload_n X 1 rfl dL_law_380 ?_
                  refine zg_aload_n X 3 rfl dL_law_381 ?_
                  refine zg_iload_n X 0 rfl dL_law_382 ?_
                  refine zg_iconst X 1 dL_law_383 (by decide) (fun v111 _ hv111 => ?_)
                  refine zg_iadd X dL_law_384 (by omega) (by omega) (fun v112 _ hv112 => ?_)
                  refine zg_sld X hX hbl hbA (by omega) (by omega) dL_law_385 (fun v113 ev113 => ?_)
                  refine zg_aload_n X 3 rfl dL_law_386 ?_
                  refine zg_iload_n X 0 rfl dL_law_387 ?_
                  refine zg_iconst X 2 dL_law_388 (by decide) (fun v114 _ hv114 => ?_)
                  refine zg_iadd X dL_law_389 (by omega) (by omega) (fun v115 _ hv115 => ?_)
                  refine zg_sld X hX hbl hbA (by omega) (by omega) dL_law_390 (fun v116 ev116 => ?_)
                  refine zg_swap ?_
                  have X : zX d L2 kd2 A 4 p s m #[Value.ref b] c cL_law RL := X
                  refine zg_cVi (As := [.int v113, .int v116]) (st := []) X hm0 rfl (by decide) rfl (t_X11_claim l d L2 kd2 κ _ hI2 m0 hm0 v113 v116  hgN hgH hgE hgL) mk_L_40 mc_X11_claim mz_X11 mi_X11_claim ml_X11_claim (na := 2) ⟨md_X11.1, md_X11.2, by decide +kernel⟩ rfl ⟨by decide, by decide⟩ (Nat.le_of_ble_eq_true rfl) dL_law_391 (fun v117 s118 hq => ?_)
                  obtain ⟨⟨gNs118, gHs118, gEs118, gLs118⟩, h119, g120⟩ := hq
                  have gKs118 := gK.same h119 hm0 g120 (by decide) hgK
                  refine zg_pop X dL_law_394 rfl ?_
                  refine zg_goto X 1441 dL_law_395 (by decide) ?_
                  refine zg_iinc X 6 (fun v121 => [(3, .int v121), (2, .ref m0), (1, .ref x0), (0, .ref b)]) 0 dL_law_1441 rfl (by decide) (by decide) (by omega) (by omega) (fun _ => rfl) (fun v121 _ hv121 => ?_)
                  refine zg_goto X 18 dL_law_1444 (by decide) ?_
                  refine zg_swap ?_
                  have X : zX d L1 kd1 A 4 p s m #[Value.ref b] c cL_law RL := X
                  refine zg_sub [0, 1, 2, 3] rfl ?_
                  exact ihLp _ _ _ v121 h110 h119 gNs118 gHs118 gEs118 gLs118 gKs118 (by omega) (by omega)
                · skip
                  by_cases q122 : v8.toInt = 6
                  · refine zg_tabIn X 398 6 dL_law_33 q122 (by decide) (by decide) rfl (by decide) ?_
                    refine zg_aload_n X 2 rfl dL_law_398 ?_
                    refine zg_aload_n X 3 rfl dL_law_399 ?_
                    refine zg_iload_n X 0 rfl dL_law_400 ?_
                    refine zg_iconst X 1 dL_law_401 (by decide) (fun v123 _ hv123 => ?_)
                    refine zg_iadd X dL_law_402 (by omega) (by omega) (fun v124 _ hv124 => ?_)
                    refine zg_sld X hX hbl hbA (by omega) (by omega) dL_law_403 (fun v125 ev125 => ?_)
                    refine zg_cVi (As := [.int v125]) (st := []) X hx0 rfl (by decide) rfl (t_X10_winner l d L1 kd1 κ _ hI1 x0 hx0 v125 ) mk_L_41 mc_X10_winner mz_X10 mi_X10_winner ml_X10_winner (na := 1) ⟨md_X10.1, md_X10.2, by decide +kernel⟩ rfl ⟨by decide, by decide⟩ (Nat.le_of_ble_eq_true rfl) dL_law_404 (fun v126 s127 hq => ?_)
                    have h128 := hq
                    refine zg_pop X dL_law_407 rfl ?_
                    refine zg_aload_n X 1 rfl dL_law_408 ?_
                    refine zg_aload_n X 3 rfl dL_law_409 ?_
                    refine zg_iload_n X 0 rfl dL_law_410 ?_
                    refine zg_iconst X 1 dL_law_411 (by decide) (fun v129 _ hv129 => ?_)
                    refine zg_iadd X dL_law_412 (by omega) (by omega) (fun v130 _ hv130 => ?_)
                    refine zg_sld X hX hbl hbA (by omega) (by omega) dL_law_413 (fun v131 ev131 => ?_)
                    refine zg_swap ?_
                    have X : zX d L2 kd2 A 4 p s m #[Value.ref b] c cL_law RL := X
                    refine zg_cVi (As := [.int v131]) (st := []) X hm0 rfl (by decide) rfl (t_X11_winner l d L2 kd2 κ _ hI2 m0 hm0 v131  hgN hgH hgE hgL) mk_L_44 mc_X11_winner mz_X11 mi_X11_winner ml_X11_winner (na := 1) ⟨md_X11.1, md_X11.2, by decide +kernel⟩ rfl ⟨by decide, by decide⟩ (Nat.le_of_ble_eq_true rfl) dL_law_414 (fun v132 s133 hq => ?_)
                    obtain ⟨⟨gNs133, gHs133, gEs133, gLs133⟩, h134, g135⟩ := hq
                    have gKs133 := gK.same h134 hm0 g135 (by decide) hgK
                    refine zg_pop X dL_law_417 rfl ?_
                    refine zg_goto X 1441 dL_law_418 (by decide) ?_
                    refine zg_iinc X 6 (fun v136 => [(3, .int v136), (2, .ref m0), (1, .ref x0), (0, .ref b)]) 0 dL_law_1441 rfl (by decide) (by decide) (by omega) (by omega) (fun _ => rfl) (fun v136 _ hv136 => ?_)
                    refine zg_goto X 18 dL_law_1444 (by decide) ?_
                    refine zg_swap ?_
                    have X : zX d L1 kd1 A 4 p s m #[Value.ref b] c cL_law RL := X
                    refine zg_sub [0, 1, 2, 3] rfl ?_
                    exact ihLp _ _ _ v136 h128 h134 gNs133 gHs133 gEs133 gLs133 gKs133 (by omega) (by omega)
                  · skip
                    by_cases q137 : v8.toInt = 7
                    · refine zg_tabIn X 421 7 dL_law_33 q137 (by decide) (by decide) rfl (by decide) ?_
                      refine zg_aload_n X 2 rfl dL_law_421 ?_
                      refine zg_aload_n X 3 rfl dL_law_422 ?_
                      refine zg_iload_n X 0 rfl dL_law_423 ?_
                      refine zg_iconst X 1 dL_law_424 (by decide) (fun v138 _ hv138 => ?_)
                      refine zg_iadd X dL_law_425 (by omega) (by omega) (fun v139 _ hv139 => ?_)
                      refine zg_sld X hX hbl hbA (by omega) (by omega) dL_law_426 (fun v140 ev140 => ?_)
                      refine zg_aload_n X 3 rfl dL_law_427 ?_
                      refine zg_iload_n X 0 rfl dL_law_428 ?_
                      refine zg_iconst X 2 dL_law_429 (by decide) (fun v141 _ hv141 => ?_)
                      refine zg_iadd X dL_law_430 (by omega) (by omega) (fun v142 _ hv142 => ?_)
                      refine zg_sld X hX hbl hbA (by omega) (by omega) dL_law_431 (fun v143 ev143 => ?_)
                      refine zg_if_eq X 439 dL_law_432 (by decide) (fun c144 => ?_) (fun c144 => ?_)
                      · skip
                        refine zg_iconst X 0 dL_law_439 (by decide) (fun v145 _ hv145 => ?_)
                        refine zg_cVi (As := [.int v140, .int v145]) (st := []) X hx0 rfl (by decide) rfl (t_X10_dam l d L1 kd1 κ _ hI1 x0 hx0 v140 v145 (by omega)) mk_L_45 mc_X10_dam mz_X10 mi_X10_dam ml_X10_dam (na := 2) ⟨md_X10.1, md_X10.2, by decide +kernel⟩ rfl ⟨by decide, by decide⟩ (Nat.le_of_ble_eq_true rfl) dL_law_440 (fun v146 s147 hq => ?_)
                        obtain ⟨hzh148, h148⟩ := hq
                        refine zg_pop X dL_law_443 rfl ?_
                        refine zg_aload_n X 1 rfl dL_law_444 ?_
                        refine zg_aload_n X 3 rfl dL_law_445 ?_
                        refine zg_iload_n X 0 rfl dL_law_446 ?_
                        refine zg_iconst X 1 dL_law_447 (by decide) (fun v149 _ hv149 => ?_)
                        refine zg_iadd X dL_law_448 (by omega) (by omega) (fun v150 _ hv150 => ?_)
                        refine zg_sld X hX hbl hbA (by omega) (by omega) dL_law_449 (fun v151 ev151 => ?_)
                        refine zg_aload_n X 3 rfl dL_law_450 ?_
                        refine zg_iload_n X 0 rfl dL_law_451 ?_
                        refine zg_iconst X 2 dL_law_452 (by decide) (fun v152 _ hv152 => ?_)
                        refine zg_iadd X dL_law_453 (by omega) (by omega) (fun v153 _ hv153 => ?_)
                        refine zg_sld X hX hbl hbA (by omega) (by omega) dL_law_454 (fun v154 ev154 => ?_)
                        refine zg_if_eq X 462 dL_law_455 (by decide) (fun c155 => ?_) (fun c155 => ?_)
                        · skip
                          refine zg_iconst X 0 dL_law_462 (by decide) (fun v156 _ hv156 => ?_)
                          refine zg_swap ?_
                          have X : zX d L2 kd2 A 4 p s m #[Value.ref b] c cL_law RL := X
                          refine zg_cVi (As := [.int v151, .int v156]) (st := []) X hm0 rfl (by decide) rfl (t_X11_dam l d L2 kd2 κ _ hI2 m0 hm0 v151 v156  hgN hgH hgE hgL) mk_L_49 mc_X11_dam mz_X11 mi_X11_dam ml_X11_dam (na := 2) ⟨md_X11.1, md_X11.2, by decide +kernel⟩ rfl ⟨by decide, by decide⟩ (Nat.le_of_ble_eq_true rfl) dL_law_463 (fun v157 s158 hq => ?_)
                          obtain ⟨⟨fs158_res, gNs158, gHs158, gEs158, gLs158⟩, h159, g160⟩ := hq
                          have gKs158 := gK.same h159 hm0 g160 (by decide) hgK
                          refine zg_pop X dL_law_466 rfl ?_
                          refine zg_goto X 1441 dL_law_467 (by decide) ?_
                          refine zg_iinc X 6 (fun v161 => [(3, .int v161), (2, .ref m0), (1, .ref x0), (0, .ref b)]) 0 dL_law_1441 rfl (by decide) (by decide) (by omega) (by omega) (fun _ => rfl) (fun v161 _ hv161 => ?_)
                          refine zg_goto X 18 dL_law_1444 (by decide) ?_
                          refine zg_swap ?_
                          have X : zX d L1 kd1 A 4 p s m #[Value.ref b] c cL_law RL := X
                          refine zg_sub [0, 1, 2, 3] rfl ?_
                          exact ihLp _ _ _ v161 h148 h159 gNs158 gHs158 gEs158 gLs158 gKs158 (by omega) (by omega)
                        · skip
                          refine zg_iconst X 1 dL_law_458 (by decide) (fun v162 _ hv162 => ?_)
                          refine zg_goto X 463 dL_law_459 (by decide) ?_
                          refine zg_swap ?_
                          have X : zX d L2 kd2 A 4 p s m #[Value.ref b] c cL_law RL := X
                          refine zg_cVi (As := [.int v151, .int v162]) (st := []) X hm0 rfl (by decide) rfl (t_X11_dam l d L2 kd2 κ _ hI2 m0 hm0 v151 v162  hgN hgH hgE hgL) mk_L_49 mc_X11_dam mz_X11 mi_X11_dam ml_X11_dam (na := 2) ⟨md_X11.1, md_X11.2, by decide +kernel⟩ rfl ⟨by decide, by decide⟩ (Nat.le_of_ble_eq_true rfl) dL_law_463 (fun v163 s164 hq => ?_)
                          obtain ⟨⟨fs164_res, gNs164, gHs164, gEs164, gLs164⟩, h165, g166⟩ := hq
                          have gKs164 := gK.same h165 hm0 g166 (by decide) hgK
                          refine zg_pop X dL_law_466 rfl ?_
                          refine zg_goto X 1441 dL_law_467 (by decide) ?_
                          refine zg_iinc X 6 (fun v167 => [(3, .int v167), (2, .ref m0), (1, .ref x0), (0, .ref b)]) 0 dL_law_1441 rfl (by decide) (by decide) (by omega) (by omega) (fun _ => rfl) (fun v167 _ hv167 => ?_)
                          refine zg_goto X 18 dL_law_1444 (by decide) ?_
                          refine zg_swap ?_
                          have X : zX d L1 kd1 A 4 p s m #[Value.ref b] c cL_law RL := X
                          refine zg_sub [0, 1, 2, 3] rfl ?_
                          exact ihLp _ _ _ v167 h148 h165 gNs164 gHs164 gEs164 gLs164 gKs164 (by omega) (by omega)
                      · skip
                        refine zg_iconst X 1 dL_law_435 (by decide) (fun v168 _ hv168 => ?_)
                        refine zg_goto X 440 dL_law_436 (by decide) ?_
                        refine zg_cVi (As := [.int v140, .int v168]) (st := []) X hx0 rfl (by decide) rfl (t_X10_dam l d L1 kd1 κ _ hI1 x0 hx0 v140 v168 (by omega)) mk_L_45 mc_X10_dam mz_X10 mi_X10_dam ml_X10_dam (na := 2) ⟨md_X10.1, md_X10.2, by decide +kernel⟩ rfl ⟨by decide, by decide⟩ (Nat.le_of_ble_eq_true rfl) dL_law_440 (fun v169 s170 hq => ?_)
                        obtain ⟨hzh171, h171⟩ := hq
                        refine zg_pop X dL_law_443 rfl ?_
                        refine zg_aload_n X 1 rfl dL_law_444 ?_
                        refine zg_aload_n X 3 rfl dL_law_445 ?_
                        refine zg_iload_n X 0 rfl dL_law_446 ?_
                        refine zg_iconst X 1 dL_law_447 (by decide) (fun v172 _ hv172 => ?_)
                        refine zg_iadd X dL_law_448 (by omega) (by omega) (fun v173 _ hv173 => ?_)
                        refine zg_sld X hX hbl hbA (by omega) (by omega) dL_law_449 (fun v174 ev174 => ?_)
                        refine zg_aload_n X 3 rfl dL_law_450 ?_
                        refine zg_iload_n X 0 rfl dL_law_451 ?_
                        refine zg_iconst X 2 dL_law_452 (by decide) (fun v175 _ hv175 => ?_)
                        refine zg_iadd X dL_law_453 (by omega) (by omega) (fun v176 _ hv176 => ?_)
                        refine zg_sld X hX hbl hbA (by omega) (by omega) dL_law_454 (fun v177 ev177 => ?_)
                        refine zg_if_eq X 462 dL_law_455 (by decide) (fun c178 => ?_) (fun c178 => ?_)
                        · skip
                          refine zg_iconst X 0 dL_law_462 (by decide) (fun v179 _ hv179 => ?_)
                          refine zg_swap ?_
                          have X : zX d L2 kd2 A 4 p s m #[Value.ref b] c cL_law RL := X
                          refine zg_cVi (As := [.int v174, .int v179]) (st := []) X hm0 rfl (by decide) rfl (t_X11_dam l d L2 kd2 κ _ hI2 m0 hm0 v174 v179  hgN hgH hgE hgL) mk_L_49 mc_X11_dam mz_X11 mi_X11_dam ml_X11_dam (na := 2) ⟨md_X11.1, md_X11.2, by decide +kernel⟩ rfl ⟨by decide, by decide⟩ (Nat.le_of_ble_eq_true rfl) dL_law_463 (fun v180 s181 hq => ?_)
                          obtain ⟨⟨fs181_res, gNs181, gHs181, gEs181, gLs181⟩, h182, g183⟩ := hq
                          have gKs181 := gK.same h182 hm0 g183 (by decide) hgK
                          refine zg_pop X dL_law_466 rfl ?_
                          refine zg_goto X 1441 dL_law_467 (by decide) ?_
                          refine zg_iinc X 6 (fun v184 => [(3, .int v184), (2, .ref m0), (1, .ref x0), (0, .ref b)]) 0 dL_law_1441 rfl (by decide) (by decide) (by omega) (by omega) (fun _ => rfl) (fun v184 _ hv184 => ?_)
                          refine zg_goto X 18 dL_law_1444 (by decide) ?_
                          refine zg_swap ?_
                          have X : zX d L1 kd1 A 4 p s m #[Value.ref b] c cL_law RL := X
                          refine zg_sub [0, 1, 2, 3] rfl ?_
                          exact ihLp _ _ _ v184 h171 h182 gNs181 gHs181 gEs181 gLs181 gKs181 (by omega) (by omega)
                        · skip
                          refine zg_iconst X 1 dL_law_458 (by decide) (fun v185 _ hv185 => ?_)
                          refine zg_goto X 463 dL_law_459 (by decide) ?_
                          refine zg_swap ?_
                          have X : zX d L2 kd2 A 4 p s m #[Value.ref b] c cL_law RL := X
                          refine zg_cVi (As := [.int v174, .int v185]) (st := []) X hm0 rfl (by decide) rfl (t_X11_dam l d L2 kd2 κ _ hI2 m0 hm0 v174 v185  hgN hgH hgE hgL) mk_L_49 mc_X11_dam mz_X11 mi_X11_dam ml_X11_dam (na := 2) ⟨md_X11.1, md_X11.2, by decide +kernel⟩ rfl ⟨by decide, by decide⟩ (Nat.le_of_ble_eq_true rfl) dL_law_463 (fun v186 s187 hq => ?_)
                          obtain ⟨⟨fs187_res, gNs187, gHs187, gEs187, gLs187⟩, h188, g189⟩ := hq
                          have gKs187 := gK.same h188 hm0 g189 (by decide) hgK
                          refine zg_pop X dL_law_466 rfl ?_
                          refine zg_goto X 1441 dL_law_467 (by decide) ?_
                          refine zg_iinc X 6 (fun v190 => [(3, .int v190), (2, .ref m0), (1, .ref x0), (0, .ref b)]) 0 dL_law_1441 rfl (by decide) (by decide) (by omega) (by omega) (fun _ => rfl) (fun v190 _ hv190 => ?_)
                          refine zg_goto X 18 dL_law_1444 (by decide) ?_
                          refine zg_swap ?_
                          have X : zX d L1 kd1 A 4 p s m #[Value.ref b] c cL_law RL := X
                          refine zg_sub [0, 1, 2, 3] rfl ?_
                          exact ihLp _ _ _ v190 h171 h188 gNs187 gHs187 gEs187 gLs187 gKs187 (by omega) (by omega)
                    · skip
                      by_cases q191 : v8.toInt = 8
                      · refine zg_tabIn X 470 8 dL_law_33 q191 (by decide) (by decide) rfl (by decide) ?_
                        refine zg_aload_n X 2 rfl dL_law_470 ?_
                        refine zg_aload_n X 3 rfl dL_law_471 ?_
                        refine zg_iload_n X 0 rfl dL_law_472 ?_
                        refine zg_iconst X 1 dL_law_473 (by decide) (fun v192 _ hv192 => ?_)
                        refine zg_iadd X dL_law_474 (by omega) (by omega) (fun v193 _ hv193 => ?_)
                        refine zg_sld X hX hbl hbA (by omega) (by omega) dL_law_475 (fun v194 ev194 => ?_)
                        refine zg_aload_n X 3 rfl dL_law_476 ?_
                        refine zg_iload_n X 0 rfl dL_law_477 ?_
                        refine zg_iconst X 2 dL_law_478 (by decide) (fun v195 _ hv195 => ?_)
                        refine zg_iadd X dL_law_479 (by omega) (by omega) (fun v196 _ hv196 => ?_)
                        refine zg_sld X hX hbl hbA (by omega) (by omega) dL_law_480 (fun v197 ev197 => ?_)
                        refine zg_cVi (As := [.int v194, .int v197]) (st := []) X hx0 rfl (by decide) rfl (t_X10_turn l d L1 kd1 κ _ hI1 x0 hx0 v194 v197 ) mk_L_50 mc_X10_turn mz_X10 mi_X10_turn ml_X10_turn (na := 2) ⟨md_X10.1, md_X10.2, by decide +kernel⟩ rfl ⟨by decide, by decide⟩ (Nat.le_of_ble_eq_true rfl) dL_law_481 (fun v198 s199 hq => ?_)
                        obtain ⟨hzh200, h200⟩ := hq
                        refine zg_pop X dL_law_484 rfl ?_
                        refine zg_aload_n X 1 rfl dL_law_485 ?_
                        refine zg_aload_n X 3 rfl dL_law_486 ?_
                        refine zg_iload_n X 0 rfl dL_law_487 ?_
                        refine zg_iconst X 1 dL_law_488 (by decide) (fun v201 _ hv201 => ?_)
                        refine zg_iadd X dL_law_489 (by omega) (by omega) (fun v202 _ hv202 => ?_)
                        refine zg_sld X hX hbl hbA (by omega) (by omega) dL_law_490 (fun v203 ev203 => ?_)
                        refine zg_aload_n X 3 rfl dL_law_491 ?_
                        refine zg_iload_n X 0 rfl dL_law_492 ?_
                        refine zg_iconst X 2 dL_law_493 (by decide) (fun v204 _ hv204 => ?_)
                        refine zg_iadd X dL_law_494 (by omega) (by omega) (fun v205 _ hv205 => ?_)
                        refine zg_sld X hX hbl hbA (by omega) (by omega) dL_law_495 (fun v206 ev206 => ?_)
                        refine zg_swap ?_
                        have X : zX d L2 kd2 A 4 p s m #[Value.ref b] c cL_law RL := X
                        refine zg_cVi (As := [.int v203, .int v206]) (st := []) X hm0 rfl (by decide) rfl (t_X11_turn l d L2 kd2 κ _ hI2 m0 hm0 v203 v206  hgN hgH hgE hgL) mk_L_54 mc_X11_turn mz_X11 mi_X11_turn ml_X11_turn (na := 2) ⟨md_X11.1, md_X11.2, by decide +kernel⟩ rfl ⟨by decide, by decide⟩ (Nat.le_of_ble_eq_true rfl) dL_law_496 (fun v207 s208 hq => ?_)
                        obtain ⟨⟨fs208_res, gNs208, gHs208, gEs208, gLs208⟩, h209, g210⟩ := hq
                        have gKs208 := gK.same h209 hm0 g210 (by decide) hgK
                        refine zg_pop X dL_law_499 rfl ?_
                        refine zg_goto X 1441 dL_law_500 (by decide) ?_
                        refine zg_iinc X 6 (fun v211 => [(3, .int v211), (2, .ref m0), (1, .ref x0), (0, .ref b)]) 0 dL_law_1441 rfl (by decide) (by decide) (by omega) (by omega) (fun _ => rfl) (fun v211 _ hv211 => ?_)
                        refine zg_goto X 18 dL_law_1444 (by decide) ?_
                        refine zg_swap ?_
                        have X : zX d L1 kd1 A 4 p s m #[Value.ref b] c cL_law RL := X
                        refine zg_sub [0, 1, 2, 3] rfl ?_
                        exact ihLp _ _ _ v211 h200 h209 gNs208 gHs208 gEs208 gLs208 gKs208 (by omega) (by omega)
                      · skip
                        by_cases q212 : v8.toInt = 9
                        · refine zg_tabIn X 503 9 dL_law_33 q212 (by decide) (by decide) rfl (by decide) ?_
                          refine zg_aload_n X 2 rfl dL_law_503 ?_
                          refine zg_aload_n X 3 rfl dL_law_504 ?_
                          refine zg_iload_n X 0 rfl dL_law_505 ?_
                          refine zg_iconst X 1 dL_law_506 (by decide) (fun v213 _ hv213 => ?_)
                          refine zg_iadd X dL_law_507 (by omega) (by omega) (fun v214 _ hv214 => ?_)
                          refine zg_sld X hX hbl hbA (by omega) (by omega) dL_law_508 (fun v215 ev215 => ?_)
                          refine zg_cVi (As := [.int v215]) (st := []) X hx0 rfl (by decide) rfl (t_X10_rule l d L1 kd1 κ _ hI1 x0 hx0 v215 ) mk_L_55 mc_X10_rule mz_X10 mi_X10_rule ml_X10_rule (na := 1) ⟨md_X10.1, md_X10.2, by decide +kernel⟩ rfl ⟨by decide, by decide⟩ (Nat.le_of_ble_eq_true rfl) dL_law_509 (fun v216 s217 hq => ?_)
                          obtain ⟨hzh218, h218⟩ := hq
                          refine zg_pop X dL_law_512 rfl ?_
                          refine zg_aload_n X 1 rfl dL_law_513 ?_
                          refine zg_aload_n X 3 rfl dL_law_514 ?_
                          refine zg_iload_n X 0 rfl dL_law_515 ?_
                          refine zg_iconst X 1 dL_law_516 (by decide) (fun v219 _ hv219 => ?_)
                          refine zg_iadd X dL_law_517 (by omega) (by omega) (fun v220 _ hv220 => ?_)
                          refine zg_sld X hX hbl hbA (by omega) (by omega) dL_law_518 (fun v221 ev221 => ?_)
                          refine zg_swap ?_
                          have X : zX d L2 kd2 A 4 p s m #[Value.ref b] c cL_law RL := X
                          refine zg_cVi (As := [.int v221]) (st := []) X hm0 rfl (by decide) rfl (t_X11_rule l d L2 kd2 κ _ hI2 m0 hm0 v221  hgN hgH hgE hgL) mk_L_59 mc_X11_rule mz_X11 mi_X11_rule ml_X11_rule (na := 1) ⟨md_X11.1, md_X11.2, by decide +kernel⟩ rfl ⟨by decide, by decide⟩ (Nat.le_of_ble_eq_true rfl) dL_law_519 (fun v222 s223 hq => ?_)
                          obtain ⟨⟨fs223_res, gNs223, gHs223, gEs223, gLs223⟩, h224, g225⟩ := hq
                          have gKs223 := gK.same h224 hm0 g225 (by decide) hgK
                          refine zg_pop X dL_law_522 rfl ?_
                          refine zg_goto X 1441 dL_law_523 (by decide) ?_
                          refine zg_iinc X 6 (fun v226 => [(3, .int v226), (2, .ref m0), (1, .ref x0), (0, .ref b)]) 0 dL_law_1441 rfl (by decide) (by decide) (by omega) (by omega) (fun _ => rfl) (fun v226 _ hv226 => ?_)
                          refine zg_goto X 18 dL_law_1444 (by decide) ?_
                          refine zg_swap ?_
                          have X : zX d L1 kd1 A 4 p s m #[Value.ref b] c cL_law RL := X
                          refine zg_sub [0, 1, 2, 3] rfl ?_
                          exact ihLp _ _ _ v226 h218 h224 gNs223 gHs223 gEs223 gLs223 gKs223 (by omega) (by omega)
                        · skip
                          by_cases q227 : v8.toInt = 10
                          · refine zg_tabIn X 526 10 dL_law_33 q227 (by decide) (by decide) rfl (by decide) ?_
                            refine zg_aload_n X 2 rfl dL_law_526 ?_
                            refine zg_aload_n X 3 rfl dL_law_527 ?_
                            refine zg_iload_n X 0 rfl dL_law_528 ?_
                            refine zg_iconst X 1 dL_law_529 (by decide) (fun v228 _ hv228 => ?_)
                            refine zg_iadd X dL_law_530 (by omega) (by omega) (fun v229 _ hv229 => ?_)
                            refine zg_sld X hX hbl hbA (by omega) (by omega) dL_law_531 (fun v230 ev230 => ?_)
                            refine zg_cVi (As := [.int v230]) (st := []) X hx0 rfl (by decide) rfl (t_X10_months l d L1 kd1 κ _ hI1 x0 hx0 v230 ) mk_L_60 mc_X10_months mz_X10 mi_X10_months ml_X10_months (na := 1) ⟨md_X10.1, md_X10.2, by decide +kernel⟩ rfl ⟨by decide, by decide⟩ (Nat.le_of_ble_eq_true rfl) dL_law_532 (fun v231 s232 hq => ?_)
                            have h233 := hq
                            refine zg_pop X dL_law_535 rfl ?_
                            refine zg_aload_n X 1 rfl dL_law_536 ?_
                            refine zg_aload_n X 3 rfl dL_law_537 ?_
                            refine zg_iload_n X 0 rfl dL_law_538 ?_
                            refine zg_iconst X 1 dL_law_539 (by decide) (fun v234 _ hv234 => ?_)
                            refine zg_iadd X dL_law_540 (by omega) (by omega) (fun v235 _ hv235 => ?_)
                            refine zg_sld X hX hbl hbA (by omega) (by omega) dL_law_541 (fun v236 ev236 => ?_)
                            refine zg_swap ?_
                            have X : zX d L2 kd2 A 4 p s m #[Value.ref b] c cL_law RL := X
                            refine zg_cVi (As := [.int v236]) (st := []) X hm0 rfl (by decide) rfl (t_X11_months l d L2 kd2 κ _ hI2 m0 hm0 v236  hgN hgH hgE hgL) mk_L_63 mc_X11_months mz_X11 mi_X11_months ml_X11_months (na := 1) ⟨md_X11.1, md_X11.2, by decide +kernel⟩ rfl ⟨by decide, by decide⟩ (Nat.le_of_ble_eq_true rfl) dL_law_542 (fun v237 s238 hq => ?_)
                            obtain ⟨⟨gNs238, gHs238, gEs238, gLs238⟩, h239, g240⟩ := hq
                            have gKs238 := gK.same h239 hm0 g240 (by decide) hgK
                            refine zg_pop X dL_law_545 rfl ?_
                            refine zg_goto X 1441 dL_law_546 (by decide) ?_
                            refine zg_iinc X 6 (fun v241 => [(3, .int v241), (2, .ref m0), (1, .ref x0), (0, .ref b)]) 0 dL_law_1441 rfl (by decide) (by decide) (by omega) (by omega) (fun _ => rfl) (fun v241 _ hv241 => ?_)
                            refine zg_goto X 18 dL_law_1444 (by decide) ?_
                            refine zg_swap ?_
                            have X : zX d L1 kd1 A 4 p s m #[Value.ref b] c cL_law RL := X
                            refine zg_sub [0, 1, 2, 3] rfl ?_
                            exact ihLp _ _ _ v241 h233 h239 gNs238 gHs238 gEs238 gLs238 gKs238 (by omega) (by omega)
                          · skip
                            by_cases q242 : v8.toInt = 11
                            · refine zg_tabIn X 549 11 dL_law_33 q242 (by decide) (by decide) rfl (by decide) ?_
                              refine zg_aload_n X 2 rfl dL_law_549 ?_
                              refine zg_cVi (As := []) (st := []) X hx0 rfl (by decide) rfl (t_X10_undo l d L1 kd1 κ _ hI1 x0 hx0  ) mk_L_64 mc_X10_undo mz_X10 mi_X10_undo ml_X10_undo (na := 0) ⟨md_X10.1, md_X10.2, by decide +kernel⟩ rfl ⟨by decide, by decide⟩ (Nat.le_of_ble_eq_true rfl) dL_law_550 (fun v243 s244 hq => ?_)
                              obtain ⟨hzh245, h245⟩ := hq
                              refine zg_pop X dL_law_553 rfl ?_
                              refine zg_aload_n X 1 rfl dL_law_554 ?_
                              refine zg_swap ?_
                              have X : zX d L2 kd2 A 4 p s m #[Value.ref b] c cL_law RL := X
                              refine zg_cVi (As := []) (st := []) X hm0 rfl (by decide) rfl (t_X11_undo l d L2 kd2 κ _ hI2 m0 hm0   hgN hgH hgE hgL) mk_L_68 mc_X11_undo mz_X11 mi_X11_undo ml_X11_undo (na := 0) ⟨md_X11.1, md_X11.2, by decide +kernel⟩ rfl ⟨by decide, by decide⟩ (Nat.le_of_ble_eq_true rfl) dL_law_555 (fun v246 s247 hq => ?_)
                              obtain ⟨⟨fs247_res, gNs247, gHs247, gEs247, gLs247⟩, h248, g249⟩ := hq
                              have gKs247 := gK.same h248 hm0 g249 (by decide) hgK
                              refine zg_pop X dL_law_558 rfl ?_
                              refine zg_goto X 1441 dL_law_559 (by decide) ?_
                              refine zg_iinc X 6 (fun v250 => [(3, .int v250), (2, .ref m0), (1, .ref x0), (0, .ref b)]) 0 dL_law_1441 rfl (by decide) (by decide) (by omega) (by omega) (fun _ => rfl) (fun v250 _ hv250 => ?_)
                              refine zg_goto X 18 dL_law_1444 (by decide) ?_
                              refine zg_swap ?_
                              have X : zX d L1 kd1 A 4 p s m #[Value.ref b] c cL_law RL := X
                              refine zg_sub [0, 1, 2, 3] rfl ?_
                              exact ihLp _ _ _ v250 h245 h248 gNs247 gHs247 gEs247 gLs247 gKs247 (by omega) (by omega)
                            · skip
                              by_cases q251 : v8.toInt = 12
                              · refine zg_tabIn X 562 12 dL_law_33 q251 (by decide) (by decide) rfl (by decide) ?_
                                refine zg_aload_n X 2 rfl dL_law_562 ?_
                                refine zg_aload_n X 3 rfl dL_law_563 ?_
                                refine zg_iload_n X 0 rfl dL_law_564 ?_
                                refine zg_iconst X 1 dL_law_565 (by decide) (fun v252 _ hv252 => ?_)
                                refine zg_iadd X dL_law_566 (by omega) (by omega) (fun v253 _ hv253 => ?_)
                                refine zg_sld X hX hbl hbA (by omega) (by omega) dL_law_567 (fun v254 ev254 => ?_)
                                refine zg_cVi (As := [.int v254]) (st := []) X hx0 rfl (by decide) rfl (t_X10_agree l d L1 kd1 κ _ hI1 x0 hx0 v254 ) mk_L_69 mc_X10_agree mz_X10 mi_X10_agree ml_X10_agree (na := 1) ⟨md_X10.1, md_X10.2, by decide +kernel⟩ rfl ⟨by decide, by decide⟩ (Nat.le_of_ble_eq_true rfl) dL_law_568 (fun v255 s256 hq => ?_)
                                have h257 := hq
                                refine zg_pop X dL_law_571 rfl ?_
                                refine zg_aload_n X 1 rfl dL_law_572 ?_
                                refine zg_aload_n X 3 rfl dL_law_573 ?_
                                refine zg_iload_n X 0 rfl dL_law_574 ?_
                                refine zg_iconst X 1 dL_law_575 (by decide) (fun v258 _ hv258 => ?_)
                                refine zg_iadd X dL_law_576 (by omega) (by omega) (fun v259 _ hv259 => ?_)
                                refine zg_sld X hX hbl hbA (by omega) (by omega) dL_law_577 (fun v260 ev260 => ?_)
                                refine zg_swap ?_
                                have X : zX d L2 kd2 A 4 p s m #[Value.ref b] c cL_law RL := X
                                refine zg_cVi (As := [.int v260]) (st := []) X hm0 rfl (by decide) rfl (t_X11_agree l d L2 kd2 κ _ hI2 m0 hm0 v260  hgN hgH hgE hgL) mk_L_72 mc_X11_agree mz_X11 mi_X11_agree ml_X11_agree (na := 1) ⟨md_X11.1, md_X11.2, by decide +kernel⟩ rfl ⟨by decide, by decide⟩ (Nat.le_of_ble_eq_true rfl) dL_law_578 (fun v261 s262 hq => ?_)
                                obtain ⟨⟨gNs262, gHs262, gEs262, gLs262⟩, h263, g264⟩ := hq
                                have gKs262 := gK.same h263 hm0 g264 (by decide) hgK
                                refine zg_pop X dL_law_581 rfl ?_
                                refine zg_goto X 1441 dL_law_582 (by decide) ?_
                                refine zg_iinc X 6 (fun v265 => [(3, .int v265), (2, .ref m0), (1, .ref x0), (0, .ref b)]) 0 dL_law_1441 rfl (by decide) (by decide) (by omega) (by omega) (fun _ => rfl) (fun v265 _ hv265 => ?_)
                                refine zg_goto X 18 dL_law_1444 (by decide) ?_
                                refine zg_swap ?_
                                have X : zX d L1 kd1 A 4 p s m #[Value.ref b] c cL_law RL := X
                                refine zg_sub [0, 1, 2, 3] rfl ?_
                                exact ihLp _ _ _ v265 h257 h263 gNs262 gHs262 gEs262 gLs262 gKs262 (by omega) (by omega)
                              · skip
                                by_cases q266 : v8.toInt = 13
                                · refine zg_tabIn X 585 13 dL_law_33 q266 (by decide) (by decide) rfl (by decide) ?_
                                  refine zg_aload_n X 2 rfl dL_law_585 ?_
                                  refine zg_aload_n X 3 rfl dL_law_586 ?_
                                  refine zg_iload_n X 0 rfl dL_law_587 ?_
                                  refine zg_iconst X 1 dL_law_588 (by decide) (fun v267 _ hv267 => ?_)
                                  refine zg_iadd X dL_law_589 (by omega) (by omega) (fun v268 _ hv268 => ?_)
                                  refine zg_sld X hX hbl hbA (by omega) (by omega) dL_law_590 (fun v269 ev269 => ?_)
                                  refine zg_aload_n X 3 rfl dL_law_591 ?_
                                  refine zg_iload_n X 0 rfl dL_law_592 ?_
                                  refine zg_iconst X 2 dL_law_593 (by decide) (fun v270 _ hv270 => ?_)
                                  refine zg_iadd X dL_law_594 (by omega) (by omega) (fun v271 _ hv271 => ?_)
                                  refine zg_sld X hX hbl hbA (by omega) (by omega) dL_law_595 (fun v272 ev272 => ?_)
                                  refine zg_cVi (As := [.int v269, .int v272]) (st := []) X hx0 rfl (by decide) rfl (t_X10_behind l d L1 kd1 κ _ hI1 x0 hx0 v269 v272 ) mk_L_73 mc_X10_behind mz_X10 mi_X10_behind ml_X10_behind (na := 2) ⟨md_X10.1, md_X10.2, by decide +kernel⟩ rfl ⟨by decide, by decide⟩ (Nat.le_of_ble_eq_true rfl) dL_law_596 (fun v273 s274 hq => ?_)
                                  have h275 := hq
                                  refine zg_pop X dL_law_599 rfl ?_
                                  refine zg_aload_n X 1 rfl dL_law_600 ?_
                                  refine zg_aload_n X 3 rfl dL_law_601 ?_
                                  refine zg_iload_n X 0 rfl dL_law_602 ?_
                                  refine zg_iconst X 1 dL_law_603 (by decide) (fun v276 _ hv276 => ?_)
                                  refine zg_iadd X dL_law_604 (by omega) (by omega) (fun v277 _ hv277 => ?_)
                                  refine zg_sld X hX hbl hbA (by omega) (by omega) dL_law_605 (fun v278 ev278 => ?_)
                                  refine zg_aload_n X 3 rfl dL_law_606 ?_
                                  refine zg_iload_n X 0 rfl dL_law_607 ?_
                                  refine zg_iconst X 2 dL_law_608 (by decide) (fun v279 _ hv279 => ?_)
                                  refine zg_iadd X dL_law_609 (by omega) (by omega) (fun v280 _ hv280 => ?_)
                                  refine zg_sld X hX hbl hbA (by omega) (by omega) dL_law_610 (fun v281 ev281 => ?_)
                                  refine zg_swap ?_
                                  have X : zX d L2 kd2 A 4 p s m #[Value.ref b] c cL_law RL := X
                                  refine zg_cVi (As := [.int v278, .int v281]) (st := []) X hm0 rfl (by decide) rfl (t_X11_behind l d L2 kd2 κ _ hI2 m0 hm0 v278 v281  hgN hgH hgE hgL) mk_L_76 mc_X11_behind mz_X11 mi_X11_behind ml_X11_behind (na := 2) ⟨md_X11.1, md_X11.2, by decide +kernel⟩ rfl ⟨by decide, by decide⟩ (Nat.le_of_ble_eq_true rfl) dL_law_611 (fun v282 s283 hq => ?_)
                                  obtain ⟨⟨gNs283, gHs283, gEs283, gLs283⟩, h284, g285⟩ := hq
                                  have gKs283 := gK.same h284 hm0 g285 (by decide) hgK
                                  refine zg_pop X dL_law_614 rfl ?_
                                  refine zg_goto X 1441 dL_law_615 (by decide) ?_
                                  refine zg_iinc X 6 (fun v286 => [(3, .int v286), (2, .ref m0), (1, .ref x0), (0, .ref b)]) 0 dL_law_1441 rfl (by decide) (by decide) (by omega) (by omega) (fun _ => rfl) (fun v286 _ hv286 => ?_)
                                  refine zg_goto X 18 dL_law_1444 (by decide) ?_
                                  refine zg_swap ?_
                                  have X : zX d L1 kd1 A 4 p s m #[Value.ref b] c cL_law RL := X
                                  refine zg_sub [0, 1, 2, 3] rfl ?_
                                  exact ihLp _ _ _ v286 h275 h284 gNs283 gHs283 gEs283 gLs283 gKs283 (by omega) (by omega)
                                · skip
                                  by_cases q287 : v8.toInt = 14
                                  · refine zg_tabIn X 618 14 dL_law_33 q287 (by decide) (by decide) rfl (by decide) ?_
                                    refine zg_aload_n X 2 rfl dL_law_618 ?_
                                    refine zg_aload_n X 3 rfl dL_law_619 ?_
                                    refine zg_iload_n X 0 rfl dL_law_620 ?_
                                    refine zg_iconst X 1 dL_law_621 (by decide) (fun v288 _ hv288 => ?_)
                                    refine zg_iadd X dL_law_622 (by omega) (by omega) (fun v289 _ hv289 => ?_)
                                    refine zg_sld X hX hbl hbA (by omega) (by omega) dL_law_623 (fun v290 ev290 => ?_)
                                    refine zg_cVi (As := [.int v290]) (st := []) X hx0 rfl (by decide) rfl (t_X10_margin l d L1 kd1 κ _ hI1 x0 hx0 v290 ) mk_L_77 mc_X10_margin mz_X10 mi_X10_margin ml_X10_margin (na := 1) ⟨md_X10.1, md_X10.2, by decide +kernel⟩ rfl ⟨by decide, by decide⟩ (Nat.le_of_ble_eq_true rfl) dL_law_624 (fun v291 s292 hq => ?_)
                                    have h293 := hq
                                    refine zg_pop X dL_law_627 rfl ?_
                                    refine zg_aload_n X 1 rfl dL_law_628 ?_
                                    refine zg_aload_n X 3 rfl dL_law_629 ?_
                                    refine zg_iload_n X 0 rfl dL_law_630 ?_
                                    refine zg_iconst X 1 dL_law_631 (by decide) (fun v294 _ hv294 => ?_)
                                    refine zg_iadd X dL_law_632 (by omega) (by omega) (fun v295 _ hv295 => ?_)
                                    refine zg_sld X hX hbl hbA (by omega) (by omega) dL_law_633 (fun v296 ev296 => ?_)
                                    refine zg_swap ?_
                                    have X : zX d L2 kd2 A 4 p s m #[Value.ref b] c cL_law RL := X
                                    refine zg_cVi (As := [.int v296]) (st := []) X hm0 rfl (by decide) rfl (t_X11_margin l d L2 kd2 κ _ hI2 m0 hm0 v296  hgN hgH hgE hgL) mk_L_80 mc_X11_margin mz_X11 mi_X11_margin ml_X11_margin (na := 1) ⟨md_X11.1, md_X11.2, by decide +kernel⟩ rfl ⟨by decide, by decide⟩ (Nat.le_of_ble_eq_true rfl) dL_law_634 (fun v297 s298 hq => ?_)
                                    obtain ⟨⟨gNs298, gHs298, gEs298, gLs298⟩, h299, g300⟩ := hq
                                    have gKs298 := gK.same h299 hm0 g300 (by decide) hgK
                                    refine zg_pop X dL_law_637 rfl ?_
                                    refine zg_goto X 1441 dL_law_638 (by decide) ?_
                                    refine zg_iinc X 6 (fun v301 => [(3, .int v301), (2, .ref m0), (1, .ref x0), (0, .ref b)]) 0 dL_law_1441 rfl (by decide) (by decide) (by omega) (by omega) (fun _ => rfl) (fun v301 _ hv301 => ?_)
                                    refine zg_goto X 18 dL_law_1444 (by decide) ?_
                                    refine zg_swap ?_
                                    have X : zX d L1 kd1 A 4 p s m #[Value.ref b] c cL_law RL := X
                                    refine zg_sub [0, 1, 2, 3] rfl ?_
                                    exact ihLp _ _ _ v301 h293 h299 gNs298 gHs298 gEs298 gLs298 gKs298 (by omega) (by omega)
                                  · skip
                                    by_cases q302 : v8.toInt = 15
                                    · refine zg_tabIn X 641 15 dL_law_33 q302 (by decide) (by decide) rfl (by decide) ?_
                                      refine zg_aload_n X 2 rfl dL_law_641 ?_
                                      refine zg_aload_n X 3 rfl dL_law_642 ?_
                                      refine zg_iload_n X 0 rfl dL_law_643 ?_
                                      refine zg_iconst X 1 dL_law_644 (by decide) (fun v303 _ hv303 => ?_)
                                      refine zg_iadd X dL_law_645 (by omega) (by omega) (fun v304 _ hv304 => ?_)
                                      refine zg_sld X hX hbl hbA (by omega) (by omega) dL_law_646 (fun v305 ev305 => ?_)
                                      refine zg_cVi (As := [.int v305]) (st := []) X hx0 rfl (by decide) rfl (t_X10_richest l d L1 kd1 κ _ hI1 x0 hx0 v305 ) mk_L_81 mc_X10_richest mz_X10 mi_X10_richest ml_X10_richest (na := 1) ⟨md_X10.1, md_X10.2, by decide +kernel⟩ rfl ⟨by decide, by decide⟩ (Nat.le_of_ble_eq_true rfl) dL_law_647 (fun v306 s307 hq => ?_)
                                      have h308 := hq
                                      refine zg_pop X dL_law_650 rfl ?_
                                      refine zg_aload_n X 1 rfl dL_law_651 ?_
                                      refine zg_aload_n X 3 rfl dL_law_652 ?_
                                      refine zg_iload_n X 0 rfl dL_law_653 ?_
                                      refine zg_iconst X 1 dL_law_654 (by decide) (fun v309 _ hv309 => ?_)
                                      refine zg_iadd X dL_law_655 (by omega) (by omega) (fun v310 _ hv310 => ?_)
                                      refine zg_sld X hX hbl hbA (by omega) (by omega) dL_law_656 (fun v311 ev311 => ?_)
                                      refine zg_swap ?_
                                      have X : zX d L2 kd2 A 4 p s m #[Value.ref b] c cL_law RL := X
                                      refine zg_cVi (As := [.int v311]) (st := []) X hm0 rfl (by decide) rfl (t_X11_richest l d L2 kd2 κ _ hI2 m0 hm0 v311  ) mk_L_84 mc_X11_richest mz_X11 mi_X11_richest ml_X11_richest (na := 1) ⟨md_X11.1, md_X11.2, by decide +kernel⟩ rfl ⟨by decide, by decide⟩ (Nat.le_of_ble_eq_true rfl) dL_law_657 (fun v312 s313 hq => ?_)
                                      subst hq
                                      refine zg_pop X dL_law_660 rfl ?_
                                      refine zg_goto X 1441 dL_law_661 (by decide) ?_
                                      refine zg_iinc X 6 (fun v315 => [(3, .int v315), (2, .ref m0), (1, .ref x0), (0, .ref b)]) 0 dL_law_1441 rfl (by decide) (by decide) (by omega) (by omega) (fun _ => rfl) (fun v315 _ hv315 => ?_)
                                      refine zg_goto X 18 dL_law_1444 (by decide) ?_
                                      refine zg_swap ?_
                                      have X : zX d L1 kd1 A 4 p s m #[Value.ref b] c cL_law RL := X
                                      refine zg_sub [0, 1, 2, 3] rfl ?_
                                      exact ihLp _ _ _ v315 h308 hI2 hgN hgH hgE hgL hgK (by omega) (by omega)
                                    · skip
                                      by_cases q316 : v8.toInt = 16
                                      · refine zg_tabIn X 664 16 dL_law_33 q316 (by decide) (by decide) rfl (by decide) ?_
                                        refine zg_aload_n X 2 rfl dL_law_664 ?_
                                        refine zg_aload_n X 3 rfl dL_law_665 ?_
                                        refine zg_iload_n X 0 rfl dL_law_666 ?_
                                        refine zg_iconst X 1 dL_law_667 (by decide) (fun v317 _ hv317 => ?_)
                                        refine zg_iadd X dL_law_668 (by omega) (by omega) (fun v318 _ hv318 => ?_)
                                        refine zg_sld X hX hbl hbA (by omega) (by omega) dL_law_669 (fun v319 ev319 => ?_)
                                        refine zg_aload_n X 3 rfl dL_law_670 ?_
                                        refine zg_iload_n X 0 rfl dL_law_671 ?_
                                        refine zg_iconst X 2 dL_law_672 (by decide) (fun v320 _ hv320 => ?_)
                                        refine zg_iadd X dL_law_673 (by omega) (by omega) (fun v321 _ hv321 => ?_)
                                        refine zg_sld X hX hbl hbA (by omega) (by omega) dL_law_674 (fun v322 ev322 => ?_)
                                        refine zg_cVi (As := [.int v319, .int v322]) (st := []) X hx0 rfl (by decide) rfl (t_X10_rank l d L1 kd1 κ _ hI1 x0 hx0 v319 v322 ) mk_L_85 mc_X10_rank mz_X10 mi_X10_rank ml_X10_rank (na := 2) ⟨md_X10.1, md_X10.2, by decide +kernel⟩ rfl ⟨by decide, by decide⟩ (Nat.le_of_ble_eq_true rfl) dL_law_675 (fun v323 s324 hq => ?_)
                                        have h325 := hq
                                        refine zg_pop X dL_law_678 rfl ?_
                                        refine zg_aload_n X 1 rfl dL_law_679 ?_
                                        refine zg_aload_n X 3 rfl dL_law_680 ?_
                                        refine zg_iload_n X 0 rfl dL_law_681 ?_
                                        refine zg_iconst X 1 dL_law_682 (by decide) (fun v326 _ hv326 => ?_)
                                        refine zg_iadd X dL_law_683 (by omega) (by omega) (fun v327 _ hv327 => ?_)
                                        refine zg_sld X hX hbl hbA (by omega) (by omega) dL_law_684 (fun v328 ev328 => ?_)
                                        refine zg_aload_n X 3 rfl dL_law_685 ?_
                                        refine zg_iload_n X 0 rfl dL_law_686 ?_
                                        refine zg_iconst X 2 dL_law_687 (by decide) (fun v329 _ hv329 => ?_)
                                        refine zg_iadd X dL_law_688 (by omega) (by omega) (fun v330 _ hv330 => ?_)
                                        refine zg_sld X hX hbl hbA (by omega) (by omega) dL_law_689 (fun v331 ev331 => ?_)
                                        refine zg_swap ?_
                                        have X : zX d L2 kd2 A 4 p s m #[Value.ref b] c cL_law RL := X
                                        refine zg_cVi (As := [.int v328, .int v331]) (st := []) X hm0 rfl (by decide) rfl (t_X11_rank l d L2 kd2 κ _ hI2 m0 hm0 v328 v331  hgN hgH hgE hgL) mk_L_88 mc_X11_rank mz_X11 mi_X11_rank ml_X11_rank (na := 2) ⟨md_X11.1, md_X11.2, by decide +kernel⟩ rfl ⟨by decide, by decide⟩ (Nat.le_of_ble_eq_true rfl) dL_law_690 (fun v332 s333 hq => ?_)
                                        obtain ⟨⟨gNs333, gHs333, gEs333, gLs333⟩, h334, g335⟩ := hq
                                        have gKs333 := gK.same h334 hm0 g335 (by decide) hgK
                                        refine zg_pop X dL_law_693 rfl ?_
                                        refine zg_goto X 1441 dL_law_694 (by decide) ?_
                                        refine zg_iinc X 6 (fun v336 => [(3, .int v336), (2, .ref m0), (1, .ref x0), (0, .ref b)]) 0 dL_law_1441 rfl (by decide) (by decide) (by omega) (by omega) (fun _ => rfl) (fun v336 _ hv336 => ?_)
                                        refine zg_goto X 18 dL_law_1444 (by decide) ?_
                                        refine zg_swap ?_
                                        have X : zX d L1 kd1 A 4 p s m #[Value.ref b] c cL_law RL := X
                                        refine zg_sub [0, 1, 2, 3] rfl ?_
                                        exact ihLp _ _ _ v336 h325 h334 gNs333 gHs333 gEs333 gLs333 gKs333 (by omega) (by omega)
                                      · skip
                                        by_cases q337 : v8.toInt = 17
                                        · refine zg_tabIn X 697 17 dL_law_33 q337 (by decide) (by decide) rfl (by decide) ?_
                                          refine zg_aload_n X 2 rfl dL_law_697 ?_
                                          refine zg_aload_n X 3 rfl dL_law_698 ?_
                                          refine zg_iload_n X 0 rfl dL_law_699 ?_
                                          refine zg_iconst X 1 dL_law_700 (by decide) (fun v338 _ hv338 => ?_)
                                          refine zg_iadd X dL_law_701 (by omega) (by omega) (fun v339 _ hv339 => ?_)
                                          refine zg_sld X hX hbl hbA (by omega) (by omega) dL_law_702 (fun v340 ev340 => ?_)
                                          refine zg_cVi (As := [.int v340]) (st := []) X hx0 rfl (by decide) rfl (t_X10_vote l d L1 kd1 κ _ hI1 x0 hx0 v340 ) mk_L_89 mc_X10_vote mz_X10 mi_X10_vote ml_X10_vote (na := 1) ⟨md_X10.1, md_X10.2, by decide +kernel⟩ rfl ⟨by decide, by decide⟩ (Nat.le_of_ble_eq_true rfl) dL_law_703 (fun v341 s342 hq => ?_)
                                          have h343 := hq
                                          refine zg_pop X dL_law_706 rfl ?_
                                          refine zg_aload_n X 1 rfl dL_law_707 ?_
                                          refine zg_aload_n X 3 rfl dL_law_708 ?_
                                          refine zg_iload_n X 0 rfl dL_law_709 ?_
                                          refine zg_iconst X 1 dL_law_710 (by decide) (fun v344 _ hv344 => ?_)
                                          refine zg_iadd X dL_law_711 (by omega) (by omega) (fun v345 _ hv345 => ?_)
                                          refine zg_sld X hX hbl hbA (by omega) (by omega) dL_law_712 (fun v346 ev346 => ?_)
                                          refine zg_swap ?_
                                          have X : zX d L2 kd2 A 4 p s m #[Value.ref b] c cL_law RL := X
                                          refine zg_cVi (As := [.int v346]) (st := []) X hm0 rfl (by decide) rfl (t_X11_vote l d L2 kd2 κ _ hI2 m0 hm0 v346  hgN hgH hgE hgL) mk_L_92 mc_X11_vote mz_X11 mi_X11_vote ml_X11_vote (na := 1) ⟨md_X11.1, md_X11.2, by decide +kernel⟩ rfl ⟨by decide, by decide⟩ (Nat.le_of_ble_eq_true rfl) dL_law_713 (fun v347 s348 hq => ?_)
                                          obtain ⟨⟨gNs348, gHs348, gEs348, gLs348⟩, h349, g350⟩ := hq
                                          have gKs348 := gK.same h349 hm0 g350 (by decide) hgK
                                          refine zg_pop X dL_law_716 rfl ?_
                                          refine zg_goto X 1441 dL_law_717 (by decide) ?_
                                          refine zg_iinc X 6 (fun v351 => [(3, .int v351), (2, .ref m0), (1, .ref x0), (0, .ref b)]) 0 dL_law_1441 rfl (by decide) (by decide) (by omega) (by omega) (fun _ => rfl) (fun v351 _ hv351 => ?_)
                                          refine zg_goto X 18 dL_law_1444 (by decide) ?_
                                          refine zg_swap ?_
                                          have X : zX d L1 kd1 A 4 p s m #[Value.ref b] c cL_law RL := X
                                          refine zg_sub [0, 1, 2, 3] rfl ?_
                                          exact ihLp _ _ _ v351 h343 h349 gNs348 gHs348 gEs348 gLs348 gKs348 (by omega) (by omega)
                                        · skip
                                          by_cases q352 : v8.toInt = 18
                                          · refine zg_tabIn X 720 18 dL_law_33 q352 (by decide) (by decide) rfl (by decide) ?_
                                            refine zg_aload_n X 2 rfl dL_law_720 ?_
                                            refine zg_aload_n X 3 rfl dL_law_721 ?_
                                            refine zg_iload_n X 0 rfl dL_law_722 ?_
                                            refine zg_iconst X 1 dL_law_723 (by decide) (fun v353 _ hv353 => ?_)
                                            refine zg_iadd X dL_law_724 (by omega) (by omega) (fun v354 _ hv354 => ?_)
                                            refine zg_sld X hX hbl hbA (by omega) (by omega) dL_law_725 (fun v355 ev355 => ?_)
                                            refine zg_aload_n X 3 rfl dL_law_726 ?_
                                            refine zg_iload_n X 0 rfl dL_law_727 ?_
                                            refine zg_iconst X 2 dL_law_728 (by decide) (fun v356 _ hv356 => ?_)
                                            refine zg_iadd X dL_law_729 (by omega) (by omega) (fun v357 _ hv357 => ?_)
                                            refine zg_sld X hX hbl hbA (by omega) (by omega) dL_law_730 (fun v358 ev358 => ?_)
                                            refine zg_cVi (As := [.int v355, .int v358]) (st := []) X hx0 rfl (by decide) rfl (t_X10_dams l d L1 kd1 κ _ hI1 x0 hx0 v355 v358 ) mk_L_93 mc_X10_dams mz_X10 mi_X10_dams ml_X10_dams (na := 2) ⟨md_X10.1, md_X10.2, by decide +kernel⟩ rfl ⟨by decide, by decide⟩ (Nat.le_of_ble_eq_true rfl) dL_law_731 (fun v359 s360 hq => ?_)
                                            have h361 := hq
                                            refine zg_pop X dL_law_734 rfl ?_
                                            refine zg_aload_n X 1 rfl dL_law_735 ?_
                                            refine zg_aload_n X 3 rfl dL_law_736 ?_
                                            refine zg_iload_n X 0 rfl dL_law_737 ?_
                                            refine zg_iconst X 1 dL_law_738 (by decide) (fun v362 _ hv362 => ?_)
                                            refine zg_iadd X dL_law_739 (by omega) (by omega) (fun v363 _ hv363 => ?_)
                                            refine zg_sld X hX hbl hbA (by omega) (by omega) dL_law_740 (fun v364 ev364 => ?_)
                                            refine zg_aload_n X 3 rfl dL_law_741 ?_
                                            refine zg_iload_n X 0 rfl dL_law_742 ?_
                                            refine zg_iconst X 2 dL_law_743 (by decide) (fun v365 _ hv365 => ?_)
                                            refine zg_iadd X dL_law_744 (by omega) (by omega) (fun v366 _ hv366 => ?_)
                                            refine zg_sld X hX hbl hbA (by omega) (by omega) dL_law_745 (fun v367 ev367 => ?_)
                                            refine zg_swap ?_
                                            have X : zX d L2 kd2 A 4 p s m #[Value.ref b] c cL_law RL := X
                                            refine zg_cVi (As := [.int v364, .int v367]) (st := []) X hm0 rfl (by decide) rfl (t_X11_dams l d L2 kd2 κ _ hI2 m0 hm0 v364 v367  hgN hgH hgE hgL) mk_L_96 mc_X11_dams mz_X11 mi_X11_dams ml_X11_dams (na := 2) ⟨md_X11.1, md_X11.2, by decide +kernel⟩ rfl ⟨by decide, by decide⟩ (Nat.le_of_ble_eq_true rfl) dL_law_746 (fun v368 s369 hq => ?_)
                                            obtain ⟨⟨gNs369, gHs369, gEs369, gLs369⟩, h370, g371⟩ := hq
                                            have gKs369 := gK.same h370 hm0 g371 (by decide) hgK
                                            refine zg_pop X dL_law_749 rfl ?_
                                            refine zg_goto X 1441 dL_law_750 (by decide) ?_
                                            refine zg_iinc X 6 (fun v372 => [(3, .int v372), (2, .ref m0), (1, .ref x0), (0, .ref b)]) 0 dL_law_1441 rfl (by decide) (by decide) (by omega) (by omega) (fun _ => rfl) (fun v372 _ hv372 => ?_)
                                            refine zg_goto X 18 dL_law_1444 (by decide) ?_
                                            refine zg_swap ?_
                                            have X : zX d L1 kd1 A 4 p s m #[Value.ref b] c cL_law RL := X
                                            refine zg_sub [0, 1, 2, 3] rfl ?_
                                            exact ihLp _ _ _ v372 h361 h370 gNs369 gHs369 gEs369 gLs369 gKs369 (by omega) (by omega)
                                          · skip
                                            by_cases q373 : v8.toInt = 19
                                            · refine zg_tabIn X 753 19 dL_law_33 q373 (by decide) (by decide) rfl (by decide) ?_
                                              refine zg_aload_n X 2 rfl dL_law_753 ?_
                                              refine zg_aload_n X 3 rfl dL_law_754 ?_
                                              refine zg_iload_n X 0 rfl dL_law_755 ?_
                                              refine zg_iconst X 1 dL_law_756 (by decide) (fun v374 _ hv374 => ?_)
                                              refine zg_iadd X dL_law_757 (by omega) (by omega) (fun v375 _ hv375 => ?_)
                                              refine zg_sld X hX hbl hbA (by omega) (by omega) dL_law_758 (fun v376 ev376 => ?_)
                                              refine zg_cVi (As := [.int v376]) (st := []) X hx0 rfl (by decide) rfl (t_X10_loss l d L1 kd1 κ _ hI1 x0 hx0 v376 ) mk_L_97 mc_X10_loss mz_X10 mi_X10_loss ml_X10_loss (na := 1) ⟨md_X10.1, md_X10.2, by decide +kernel⟩ rfl ⟨by decide, by decide⟩ (Nat.le_of_ble_eq_true rfl) dL_law_759 (fun v377 s378 hq => ?_)
                                              have h379 := hq
                                              refine zg_pop X dL_law_762 rfl ?_
                                              refine zg_aload_n X 1 rfl dL_law_763 ?_
                                              refine zg_aload_n X 3 rfl dL_law_764 ?_
                                              refine zg_iload_n X 0 rfl dL_law_765 ?_
                                              refine zg_iconst X 1 dL_law_766 (by decide) (fun v380 _ hv380 => ?_)
                                              refine zg_iadd X dL_law_767 (by omega) (by omega) (fun v381 _ hv381 => ?_)
                                              refine zg_sld X hX hbl hbA (by omega) (by omega) dL_law_768 (fun v382 ev382 => ?_)
                                              refine zg_swap ?_
                                              have X : zX d L2 kd2 A 4 p s m #[Value.ref b] c cL_law RL := X
                                              refine zg_cVi (As := [.int v382]) (st := []) X hm0 rfl (by decide) rfl (t_X11_loss l d L2 kd2 κ _ hI2 m0 hm0 v382  hgN hgH hgE hgL) mk_L_100 mc_X11_loss mz_X11 mi_X11_loss ml_X11_loss (na := 1) ⟨md_X11.1, md_X11.2, by decide +kernel⟩ rfl ⟨by decide, by decide⟩ (Nat.le_of_ble_eq_true rfl) dL_law_769 (fun v383 s384 hq => ?_)
                                              obtain ⟨⟨gNs384, gHs384, gEs384, gLs384⟩, h385, g386⟩ := hq
                                              have gKs384 := gK.same h385 hm0 g386 (by decide) hgK
                                              refine zg_pop X dL_law_772 rfl ?_
                                              refine zg_goto X 1441 dL_law_773 (by decide) ?_
                                              refine zg_iinc X 6 (fun v387 => [(3, .int v387), (2, .ref m0), (1, .ref x0), (0, .ref b)]) 0 dL_law_1441 rfl (by decide) (by decide) (by omega) (by omega) (fun _ => rfl) (fun v387 _ hv387 => ?_)
                                              refine zg_goto X 18 dL_law_1444 (by decide) ?_
                                              refine zg_swap ?_
                                              have X : zX d L1 kd1 A 4 p s m #[Value.ref b] c cL_law RL := X
                                              refine zg_sub [0, 1, 2, 3] rfl ?_
                                              exact ihLp _ _ _ v387 h379 h385 gNs384 gHs384 gEs384 gLs384 gKs384 (by omega) (by omega)
                                            · skip
                                              by_cases q388 : v8.toInt = 20
                                              · refine zg_tabIn X 776 20 dL_law_33 q388 (by decide) (by decide) rfl (by decide) ?_
                                                refine zg_aload_n X 2 rfl dL_law_776 ?_
                                                refine zg_aload_n X 3 rfl dL_law_777 ?_
                                                refine zg_iload_n X 0 rfl dL_law_778 ?_
                                                refine zg_iconst X 1 dL_law_779 (by decide) (fun v389 _ hv389 => ?_)
                                                refine zg_iadd X dL_law_780 (by omega) (by omega) (fun v390 _ hv390 => ?_)
                                                refine zg_sld X hX hbl hbA (by omega) (by omega) dL_law_781 (fun v391 ev391 => ?_)
                                                refine zg_cVi (As := [.int v391]) (st := []) X hx0 rfl (by decide) rfl (t_X10_main l d L1 kd1 κ _ hI1 x0 hx0 v391 ) mk_L_101 mc_X10_main mz_X10 mi_X10_main ml_X10_main (na := 1) ⟨md_X10.1, md_X10.2, by decide +kernel⟩ rfl ⟨by decide, by decide⟩ (Nat.le_of_ble_eq_true rfl) dL_law_782 (fun v392 s393 hq => ?_)
                                                have h394 := hq
                                                refine zg_pop X dL_law_785 rfl ?_
                                                refine zg_aload_n X 1 rfl dL_law_786 ?_
                                                refine zg_aload_n X 3 rfl dL_law_787 ?_
                                                refine zg_iload_n X 0 rfl dL_law_788 ?_
                                                refine zg_iconst X 1 dL_law_789 (by decide) (fun v395 _ hv395 => ?_)
                                                refine zg_iadd X dL_law_790 (by omega) (by omega) (fun v396 _ hv396 => ?_)
                                                refine zg_sld X hX hbl hbA (by omega) (by omega) dL_law_791 (fun v397 ev397 => ?_)
                                                refine zg_swap ?_
                                                have X : zX d L2 kd2 A 4 p s m #[Value.ref b] c cL_law RL := X
                                                refine zg_cVi (As := [.int v397]) (st := []) X hm0 rfl (by decide) rfl (t_X11_main l d L2 kd2 κ _ hI2 m0 hm0 v397  hgN hgH hgE hgL) mk_L_104 mc_X11_main mz_X11 mi_X11_main ml_X11_main (na := 1) ⟨md_X11.1, md_X11.2, by decide +kernel⟩ rfl ⟨by decide, by decide⟩ (Nat.le_of_ble_eq_true rfl) dL_law_792 (fun v398 s399 hq => ?_)
                                                obtain ⟨⟨gNs399, gHs399, gEs399, gLs399⟩, h400, g401⟩ := hq
                                                have gKs399 := gK.same h400 hm0 g401 (by decide) hgK
                                                refine zg_pop X dL_law_795 rfl ?_
                                                refine zg_goto X 1441 dL_law_796 (by decide) ?_
                                                refine zg_iinc X 6 (fun v402 => [(3, .int v402), (2, .ref m0), (1, .ref x0), (0, .ref b)]) 0 dL_law_1441 rfl (by decide) (by decide) (by omega) (by omega) (fun _ => rfl) (fun v402 _ hv402 => ?_)
                                                refine zg_goto X 18 dL_law_1444 (by decide) ?_
                                                refine zg_swap ?_
                                                have X : zX d L1 kd1 A 4 p s m #[Value.ref b] c cL_law RL := X
                                                refine zg_sub [0, 1, 2, 3] rfl ?_
                                                exact ihLp _ _ _ v402 h394 h400 gNs399 gHs399 gEs399 gLs399 gKs399 (by omega) (by omega)
                                              · skip
                                                by_cases q403 : v8.toInt = 21
                                                · refine zg_tabIn X 799 21 dL_law_33 q403 (by decide) (by decide) rfl (by decide) ?_
                                                  refine zg_aload_n X 2 rfl dL_law_799 ?_
                                                  refine zg_aload_n X 3 rfl dL_law_800 ?_
                                                  refine zg_iload_n X 0 rfl dL_law_801 ?_
                                                  refine zg_iconst X 1 dL_law_802 (by decide) (fun v404 _ hv404 => ?_)
                                                  refine zg_iadd X dL_law_803 (by omega) (by omega) (fun v405 _ hv405 => ?_)
                                                  refine zg_sld X hX hbl hbA (by omega) (by omega) dL_law_804 (fun v406 ev406 => ?_)
                                                  refine zg_aload_n X 3 rfl dL_law_805 ?_
                                                  refine zg_iload_n X 0 rfl dL_law_806 ?_
                                                  refine zg_iconst X 2 dL_law_807 (by decide) (fun v407 _ hv407 => ?_)
                                                  refine zg_iadd X dL_law_808 (by omega) (by omega) (fun v408 _ hv408 => ?_)
                                                  refine zg_sld X hX hbl hbA (by omega) (by omega) dL_law_809 (fun v409 ev409 => ?_)
                                                  refine zg_cVi (As := [.int v406, .int v409]) (st := []) X hx0 rfl (by decide) rfl (t_X10_driest l d L1 kd1 κ _ hI1 x0 hx0 v406 v409 ) mk_L_105 mc_X10_driest mz_X10 mi_X10_driest ml_X10_driest (na := 2) ⟨md_X10.1, md_X10.2, by decide +kernel⟩ rfl ⟨by decide, by decide⟩ (Nat.le_of_ble_eq_true rfl) dL_law_810 (fun v410 s411 hq => ?_)
                                                  have h412 := hq
                                                  refine zg_pop X dL_law_813 rfl ?_
                                                  refine zg_aload_n X 1 rfl dL_law_814 ?_
                                                  refine zg_aload_n X 3 rfl dL_law_815 ?_
                                                  refine zg_iload_n X 0 rfl dL_law_816 ?_
                                                  refine zg_iconst X 1 dL_law_817 (by decide) (fun v413 _ hv413 => ?_)
                                                  refine zg_iadd X dL_law_818 (by omega) (by omega) (fun v414 _ hv414 => ?_)
                                                  refine zg_sld X hX hbl hbA (by omega) (by omega) dL_law_819 (fun v415 ev415 => ?_)
                                                  refine zg_aload_n X 3 rfl dL_law_820 ?_
                                                  refine zg_iload_n X 0 rfl dL_law_821 ?_
                                                  refine zg_iconst X 2 dL_law_822 (by decide) (fun v416 _ hv416 => ?_)
                                                  refine zg_iadd X dL_law_823 (by omega) (by omega) (fun v417 _ hv417 => ?_)
                                                  refine zg_sld X hX hbl hbA (by omega) (by omega) dL_law_824 (fun v418 ev418 => ?_)
                                                  refine zg_swap ?_
                                                  have X : zX d L2 kd2 A 4 p s m #[Value.ref b] c cL_law RL := X
                                                  refine zg_cVi (As := [.int v415, .int v418]) (st := []) X hm0 rfl (by decide) rfl (t_X11_driest l d L2 kd2 κ _ hI2 m0 hm0 v415 v418  hgN hgH hgE hgL) mk_L_108 mc_X11_driest mz_X11 mi_X11_driest ml_X11_driest (na := 2) ⟨md_X11.1, md_X11.2, by decide +kernel⟩ rfl ⟨by decide, by decide⟩ (Nat.le_of_ble_eq_true rfl) dL_law_825 (fun v419 s420 hq => ?_)
                                                  obtain ⟨⟨gNs420, gHs420, gEs420, gLs420⟩, h421, g422⟩ := hq
                                                  have gKs420 := gK.same h421 hm0 g422 (by decide) hgK
                                                  refine zg_pop X dL_law_828 rfl ?_
                                                  refine zg_goto X 1441 dL_law_829 (by decide) ?_
                                                  refine zg_iinc X 6 (fun v423 => [(3, .int v423), (2, .ref m0), (1, .ref x0), (0, .ref b)]) 0 dL_law_1441 rfl (by decide) (by decide) (by omega) (by omega) (fun _ => rfl) (fun v423 _ hv423 => ?_)
                                                  refine zg_goto X 18 dL_law_1444 (by decide) ?_
                                                  refine zg_swap ?_
                                                  have X : zX d L1 kd1 A 4 p s m #[Value.ref b] c cL_law RL := X
                                                  refine zg_sub [0, 1, 2, 3] rfl ?_
                                                  exact ihLp _ _ _ v423 h412 h421 gNs420 gHs420 gEs420 gLs420 gKs420 (by omega) (by omega)
                                                · skip
                                                  by_cases q424 : v8.toInt = 22
                                                  · refine zg_tabIn X 832 22 dL_law_33 q424 (by decide) (by decide) rfl (by decide) ?_
                                                    refine zg_aload_n X 2 rfl dL_law_832 ?_
                                                    refine zg_aload_n X 3 rfl dL_law_833 ?_
                                                    refine zg_iload_n X 0 rfl dL_law_834 ?_
                                                    refine zg_iconst X 1 dL_law_835 (by decide) (fun v425 _ hv425 => ?_)
                                                    refine zg_iadd X dL_law_836 (by omega) (by omega) (fun v426 _ hv426 => ?_)
                                                    refine zg_sld X hX hbl hbA (by omega) (by omega) dL_law_837 (fun v427 ev427 => ?_)
                                                    refine zg_aload_n X 3 rfl dL_law_838 ?_
                                                    refine zg_iload_n X 0 rfl dL_law_839 ?_
                                                    refine zg_iconst X 2 dL_law_840 (by decide) (fun v428 _ hv428 => ?_)
                                                    refine zg_iadd X dL_law_841 (by omega) (by omega) (fun v429 _ hv429 => ?_)
                                                    refine zg_sld X hX hbl hbA (by omega) (by omega) dL_law_842 (fun v430 ev430 => ?_)
                                                    refine zg_cVi (As := [.int v427, .int v430]) (st := []) X hx0 rfl (by decide) rfl (t_X10_turnFor l d L1 kd1 κ _ hI1 x0 hx0 v427 v430 ) mk_L_109 mc_X10_turnFor mz_X10 mi_X10_turnFor ml_X10_turnFor (na := 2) ⟨md_X10.1, md_X10.2, by decide +kernel⟩ rfl ⟨by decide, by decide⟩ (Nat.le_of_ble_eq_true rfl) dL_law_843 (fun v431 s432 hq => ?_)
                                                    have h433 := hq
                                                    refine zg_pop X dL_law_846 rfl ?_
                                                    refine zg_aload_n X 1 rfl dL_law_847 ?_
                                                    refine zg_aload_n X 3 rfl dL_law_848 ?_
                                                    refine zg_iload_n X 0 rfl dL_law_849 ?_
                                                    refine zg_iconst X 1 dL_law_850 (by decide) (fun v434 _ hv434 => ?_)
                                                    refine zg_iadd X dL_law_851 (by omega) (by omega) (fun v435 _ hv435 => ?_)
                                                    refine zg_sld X hX hbl hbA (by omega) (by omega) dL_law_852 (fun v436 ev436 => ?_)
                                                    refine zg_aload_n X 3 rfl dL_law_853 ?_
                                                    refine zg_iload_n X 0 rfl dL_law_854 ?_
                                                    refine zg_iconst X 2 dL_law_855 (by decide) (fun v437 _ hv437 => ?_)
                                                    refine zg_iadd X dL_law_856 (by omega) (by omega) (fun v438 _ hv438 => ?_)
                                                    refine zg_sld X hX hbl hbA (by omega) (by omega) dL_law_857 (fun v439 ev439 => ?_)
                                                    refine zg_swap ?_
                                                    have X : zX d L2 kd2 A 4 p s m #[Value.ref b] c cL_law RL := X
                                                    refine zg_cVi (As := [.int v436, .int v439]) (st := []) X hm0 rfl (by decide) rfl (t_X11_turnFor l d L2 kd2 κ _ hI2 m0 hm0 v436 v439  hgN hgH hgE hgL) mk_L_112 mc_X11_turnFor mz_X11 mi_X11_turnFor ml_X11_turnFor (na := 2) ⟨md_X11.1, md_X11.2, by decide +kernel⟩ rfl ⟨by decide, by decide⟩ (Nat.le_of_ble_eq_true rfl) dL_law_858 (fun v440 s441 hq => ?_)
                                                    obtain ⟨⟨gNs441, gHs441, gEs441, gLs441⟩, h442, g443⟩ := hq
                                                    have gKs441 := gK.same h442 hm0 g443 (by decide) hgK
                                                    refine zg_pop X dL_law_861 rfl ?_
                                                    refine zg_goto X 1441 dL_law_862 (by decide) ?_
                                                    refine zg_iinc X 6 (fun v444 => [(3, .int v444), (2, .ref m0), (1, .ref x0), (0, .ref b)]) 0 dL_law_1441 rfl (by decide) (by decide) (by omega) (by omega) (fun _ => rfl) (fun v444 _ hv444 => ?_)
                                                    refine zg_goto X 18 dL_law_1444 (by decide) ?_
                                                    refine zg_swap ?_
                                                    have X : zX d L1 kd1 A 4 p s m #[Value.ref b] c cL_law RL := X
                                                    refine zg_sub [0, 1, 2, 3] rfl ?_
                                                    exact ihLp _ _ _ v444 h433 h442 gNs441 gHs441 gEs441 gLs441 gKs441 (by omega) (by omega)
                                                  · skip
                                                    by_cases q445 : v8.toInt = 23
                                                    · refine zg_tabIn X 865 23 dL_law_33 q445 (by decide) (by decide) rfl (by decide) ?_
                                                      refine zg_aload_n X 2 rfl dL_law_865 ?_
                                                      refine zg_aload_n X 3 rfl dL_law_866 ?_
                                                      refine zg_iload_n X 0 rfl dL_law_867 ?_
                                                      refine zg_iconst X 1 dL_law_868 (by decide) (fun v446 _ hv446 => ?_)
                                                      refine zg_iadd X dL_law_869 (by omega) (by omega) (fun v447 _ hv447 => ?_)
                                                      refine zg_sld X hX hbl hbA (by omega) (by omega) dL_law_870 (fun v448 ev448 => ?_)
                                                      refine zg_aload_n X 3 rfl dL_law_871 ?_
                                                      refine zg_iload_n X 0 rfl dL_law_872 ?_
                                                      refine zg_iconst X 2 dL_law_873 (by decide) (fun v449 _ hv449 => ?_)
                                                      refine zg_iadd X dL_law_874 (by omega) (by omega) (fun v450 _ hv450 => ?_)
                                                      refine zg_sld X hX hbl hbA (by omega) (by omega) dL_law_875 (fun v451 ev451 => ?_)
                                                      refine zg_cVi (As := [.int v448, .int v451]) (st := []) X hx0 rfl (by decide) rfl (t_X10_damFor l d L1 kd1 κ _ hI1 x0 hx0 v448 v451 ) mk_L_113 mc_X10_damFor mz_X10 mi_X10_damFor ml_X10_damFor (na := 2) ⟨md_X10.1, md_X10.2, by decide +kernel⟩ rfl ⟨by decide, by decide⟩ (Nat.le_of_ble_eq_true rfl) dL_law_876 (fun v452 s453 hq => ?_)
                                                      have h454 := hq
                                                      refine zg_pop X dL_law_879 rfl ?_
                                                      refine zg_aload_n X 1 rfl dL_law_880 ?_
                                                      refine zg_aload_n X 3 rfl dL_law_881 ?_
                                                      refine zg_iload_n X 0 rfl dL_law_882 ?_
                                                      refine zg_iconst X 1 dL_law_883 (by decide) (fun v455 _ hv455 => ?_)
                                                      refine zg_iadd X dL_law_884 (by omega) (by omega) (fun v456 _ hv456 => ?_)
                                                      refine zg_sld X hX hbl hbA (by omega) (by omega) dL_law_885 (fun v457 ev457 => ?_)
                                                      refine zg_aload_n X 3 rfl dL_law_886 ?_
                                                      refine zg_iload_n X 0 rfl dL_law_887 ?_
                                                      refine zg_iconst X 2 dL_law_888 (by decide) (fun v458 _ hv458 => ?_)
                                                      refine zg_iadd X dL_law_889 (by omega) (by omega) (fun v459 _ hv459 => ?_)
                                                      refine zg_sld X hX hbl hbA (by omega) (by omega) dL_law_890 (fun v460 ev460 => ?_)
                                                      refine zg_swap ?_
                                                      have X : zX d L2 kd2 A 4 p s m #[Value.ref b] c cL_law RL := X
                                                      refine zg_cVi (As := [.int v457, .int v460]) (st := []) X hm0 rfl (by decide) rfl (t_X11_damFor l d L2 kd2 κ _ hI2 m0 hm0 v457 v460  hgN hgH hgE hgL) mk_L_116 mc_X11_damFor mz_X11 mi_X11_damFor ml_X11_damFor (na := 2) ⟨md_X11.1, md_X11.2, by decide +kernel⟩ rfl ⟨by decide, by decide⟩ (Nat.le_of_ble_eq_true rfl) dL_law_891 (fun v461 s462 hq => ?_)
                                                      obtain ⟨⟨gNs462, gHs462, gEs462, gLs462⟩, h463, g464⟩ := hq
                                                      have gKs462 := gK.same h463 hm0 g464 (by decide) hgK
                                                      refine zg_pop X dL_law_894 rfl ?_
                                                      refine zg_goto X 1441 dL_law_895 (by decide) ?_
                                                      refine zg_iinc X 6 (fun v465 => [(3, .int v465), (2, .ref m0), (1, .ref x0), (0, .ref b)]) 0 dL_law_1441 rfl (by decide) (by decide) (by omega) (by omega) (fun _ => rfl) (fun v465 _ hv465 => ?_)
                                                      refine zg_goto X 18 dL_law_1444 (by decide) ?_
                                                      refine zg_swap ?_
                                                      have X : zX d L1 kd1 A 4 p s m #[Value.ref b] c cL_law RL := X
                                                      refine zg_sub [0, 1, 2, 3] rfl ?_
                                                      exact ihLp _ _ _ v465 h454 h463 gNs462 gHs462 gEs462 gLs462 gKs462 (by omega) (by omega)
                                                    · skip
                                                      by_cases q466 : v8.toInt = 24
                                                      · refine zg_tabIn X 898 24 dL_law_33 q466 (by decide) (by decide) rfl (by decide) ?_
                                                        refine zg_aload_n X 2 rfl dL_law_898 ?_
                                                        refine zg_cVi (As := []) (st := []) X hx0 rfl (by decide) rfl (t_X10_depth l d L1 kd1 κ _ hI1 x0 hx0  ) mk_L_117 mc_X10_depth mz_X10 mi_X10_depth ml_X10_depth (na := 0) ⟨md_X10.1, md_X10.2, by decide +kernel⟩ rfl ⟨by decide, by decide⟩ (Nat.le_of_ble_eq_true rfl) dL_law_899 (fun v467 s468 hq => ?_)
                                                        have h469 := hq
                                                        refine zg_pop X dL_law_902 rfl ?_
                                                        refine zg_aload_n X 1 rfl dL_law_903 ?_
                                                        refine zg_swap ?_
                                                        have X : zX d L2 kd2 A 4 p s m #[Value.ref b] c cL_law RL := X
                                                        refine zg_cVi (As := []) (st := []) X hm0 rfl (by decide) rfl (t_X11_depth l d L2 kd2 κ _ hI2 m0 hm0   hgN hgH hgE hgL) mk_L_120 mc_X11_depth mz_X11 mi_X11_depth ml_X11_depth (na := 0) ⟨md_X11.1, md_X11.2, by decide +kernel⟩ rfl ⟨by decide, by decide⟩ (Nat.le_of_ble_eq_true rfl) dL_law_904 (fun v470 s471 hq => ?_)
                                                        obtain ⟨⟨gNs471, gHs471, gEs471, gLs471⟩, h472, g473⟩ := hq
                                                        have gKs471 := gK.same h472 hm0 g473 (by decide) hgK
                                                        refine zg_pop X dL_law_907 rfl ?_
                                                        refine zg_goto X 1441 dL_law_908 (by decide) ?_
                                                        refine zg_iinc X 6 (fun v474 => [(3, .int v474), (2, .ref m0), (1, .ref x0), (0, .ref b)]) 0 dL_law_1441 rfl (by decide) (by decide) (by omega) (by omega) (fun _ => rfl) (fun v474 _ hv474 => ?_)
                                                        refine zg_goto X 18 dL_law_1444 (by decide) ?_
                                                        refine zg_swap ?_
                                                        have X : zX d L1 kd1 A 4 p s m #[Value.ref b] c cL_law RL := X
                                                        refine zg_sub [0, 1, 2, 3] rfl ?_
                                                        exact ihLp _ _ _ v474 h469 h472 gNs471 gHs471 gEs471 gLs471 gKs471 (by omega) (by omega)
                                                      · skip
                                                        by_cases q475 : v8.toInt = 25
                                                        · refine zg_tabIn X 911 25 dL_law_33 q475 (by decide) (by decide) rfl (by decide) ?_
                                                          refine zg_aload_n X 2 rfl dL_law_911 ?_
                                                          refine zg_aload_n X 3 rfl dL_law_912 ?_
                                                          refine zg_iload_n X 0 rfl dL_law_913 ?_
                                                          refine zg_iconst X 1 dL_law_914 (by decide) (fun v476 _ hv476 => ?_)
                                                          refine zg_iadd X dL_law_915 (by omega) (by omega) (fun v477 _ hv477 => ?_)
                                                          refine zg_sld X hX hbl hbA (by omega) (by omega) dL_law_916 (fun v478 ev478 => ?_)
                                                          refine zg_cVi (As := [.int v478]) (st := []) X hx0 rfl (by decide) rfl (t_X10_order l d L1 kd1 κ _ hI1 x0 hx0 v478 ) mk_L_121 mc_X10_order mz_X10 mi_X10_order ml_X10_order (na := 1) ⟨md_X10.1, md_X10.2, by decide +kernel⟩ rfl ⟨by decide, by decide⟩ (Nat.le_of_ble_eq_true rfl) dL_law_917 (fun v479 s480 hq => ?_)
                                                          have h481 := hq
                                                          refine zg_pop X dL_law_920 rfl ?_
                                                          refine zg_aload_n X 1 rfl dL_law_921 ?_
                                                          refine zg_aload_n X 3 rfl dL_law_922 ?_
                                                          refine zg_iload_n X 0 rfl dL_law_923 ?_
                                                          refine zg_iconst X 1 dL_law_924 (by decide) (fun v482 _ hv482 => ?_)
                                                          refine zg_iadd X dL_law_925 (by omega) (by omega) (fun v483 _ hv483 => ?_)
                                                          refine zg_sld X hX hbl hbA (by omega) (by omega) dL_law_926 (fun v484 ev484 => ?_)
                                                          refine zg_swap ?_
                                                          have X : zX d L2 kd2 A 4 p s m #[Value.ref b] c cL_law RL := X
                                                          refine zg_cVi (As := [.int v484]) (st := []) X hm0 rfl (by decide) rfl (t_X11_order l d L2 kd2 κ _ hI2 m0 hm0 v484  hgN hgH hgE hgL) mk_L_124 mc_X11_order mz_X11 mi_X11_order ml_X11_order (na := 1) ⟨md_X11.1, md_X11.2, by decide +kernel⟩ rfl ⟨by decide, by decide⟩ (Nat.le_of_ble_eq_true rfl) dL_law_927 (fun v485 s486 hq => ?_)
                                                          obtain ⟨⟨gNs486, gHs486, gEs486, gLs486⟩, h487, g488⟩ := hq
                                                          have gKs486 := gK.same h487 hm0 g488 (by decide) hgK
                                                          refine zg_pop X dL_law_930 rfl ?_
                                                          refine zg_goto X 1441 dL_law_931 (by decide) ?_
                                                          refine zg_iinc X 6 (fun v489 => [(3, .int v489), (2, .ref m0), (1, .ref x0), (0, .ref b)]) 0 dL_law_1441 rfl (by decide) (by decide) (by omega) (by omega) (fun _ => rfl) (fun v489 _ hv489 => ?_)
                                                          refine zg_goto X 18 dL_law_1444 (by decide) ?_
                                                          refine zg_swap ?_
                                                          have X : zX d L1 kd1 A 4 p s m #[Value.ref b] c cL_law RL := X
                                                          refine zg_sub [0, 1, 2, 3] rfl ?_
                                                          exact ihLp _ _ _ v489 h481 h487 gNs486 gHs486 gEs486 gLs486 gKs486 (by omega) (by omega)
                                                        · skip
                                                          by_cases q490 : v8.toInt = 26
                                                          · refine zg_tabIn X 934 26 dL_law_33 q490 (by decide) (by decide) rfl (by decide) ?_
                                                            refine zg_aload_n X 2 rfl dL_law_934 ?_
                                                            refine zg_aload_n X 3 rfl dL_law_935 ?_
                                                            refine zg_iload_n X 0 rfl dL_law_936 ?_
                                                            refine zg_iconst X 1 dL_law_937 (by decide) (fun v491 _ hv491 => ?_)
                                                            refine zg_iadd X dL_law_938 (by omega) (by omega) (fun v492 _ hv492 => ?_)
                                                            refine zg_sld X hX hbl hbA (by omega) (by omega) dL_law_939 (fun v493 ev493 => ?_)
                                                            refine zg_aload_n X 3 rfl dL_law_940 ?_
                                                            refine zg_iload_n X 0 rfl dL_law_941 ?_
                                                            refine zg_iconst X 2 dL_law_942 (by decide) (fun v494 _ hv494 => ?_)
                                                            refine zg_iadd X dL_law_943 (by omega) (by omega) (fun v495 _ hv495 => ?_)
                                                            refine zg_sld X hX hbl hbA (by omega) (by omega) dL_law_944 (fun v496 ev496 => ?_)
                                                            refine zg_cVi (As := [.int v493, .int v496]) (st := []) X hx0 rfl (by decide) rfl (t_X10_basin l d L1 kd1 κ _ hI1 x0 hx0 v493 v496 ) mk_L_125 mc_X10_basin mz_X10 mi_X10_basin ml_X10_basin (na := 2) ⟨md_X10.1, md_X10.2, by decide +kernel⟩ rfl ⟨by decide, by decide⟩ (Nat.le_of_ble_eq_true rfl) dL_law_945 (fun v497 s498 hq => ?_)
                                                            have h499 := hq
                                                            refine zg_pop X dL_law_948 rfl ?_
                                                            refine zg_aload_n X 1 rfl dL_law_949 ?_
                                                            refine zg_aload_n X 3 rfl dL_law_950 ?_
                                                            refine zg_iload_n X 0 rfl dL_law_951 ?_
                                                            refine zg_iconst X 1 dL_law_952 (by decide) (fun v500 _ hv500 => ?_)
                                                            refine zg_iadd X dL_law_953 (by omega) (by omega) (fun v501 _ hv501 => ?_)
                                                            refine zg_sld X hX hbl hbA (by omega) (by omega) dL_law_954 (fun v502 ev502 => ?_)
                                                            refine zg_aload_n X 3 rfl dL_law_955 ?_
                                                            refine zg_iload_n X 0 rfl dL_law_956 ?_
                                                            refine zg_iconst X 2 dL_law_957 (by decide) (fun v503 _ hv503 => ?_)
                                                            refine zg_iadd X dL_law_958 (by omega) (by omega) (fun v504 _ hv504 => ?_)
                                                            refine zg_sld X hX hbl hbA (by omega) (by omega) dL_law_959 (fun v505 ev505 => ?_)
                                                            refine zg_swap ?_
                                                            have X : zX d L2 kd2 A 4 p s m #[Value.ref b] c cL_law RL := X
                                                            refine zg_cVi (As := [.int v502, .int v505]) (st := []) X hm0 rfl (by decide) rfl (t_X11_basin l d L2 kd2 κ _ hI2 m0 hm0 v502 v505  hgN hgH hgE hgL) mk_L_128 mc_X11_basin mz_X11 mi_X11_basin ml_X11_basin (na := 2) ⟨md_X11.1, md_X11.2, by decide +kernel⟩ rfl ⟨by decide, by decide⟩ (Nat.le_of_ble_eq_true rfl) dL_law_960 (fun v506 s507 hq => ?_)
                                                            obtain ⟨⟨gNs507, gHs507, gEs507, gLs507⟩, h508, g509⟩ := hq
                                                            have gKs507 := gK.same h508 hm0 g509 (by decide) hgK
                                                            refine zg_pop X dL_law_963 rfl ?_
                                                            refine zg_goto X 1441 dL_law_964 (by decide) ?_
                                                            refine zg_iinc X 6 (fun v510 => [(3, .int v510), (2, .ref m0), (1, .ref x0), (0, .ref b)]) 0 dL_law_1441 rfl (by decide) (by decide) (by omega) (by omega) (fun _ => rfl) (fun v510 _ hv510 => ?_)
                                                            refine zg_goto X 18 dL_law_1444 (by decide) ?_
                                                            refine zg_swap ?_
                                                            have X : zX d L1 kd1 A 4 p s m #[Value.ref b] c cL_law RL := X
                                                            refine zg_sub [0, 1, 2, 3] rfl ?_
                                                            exact ihLp _ _ _ v510 h499 h508 gNs507 gHs507 gEs507 gLs507 gKs507 (by omega) (by omega)
                                                          · skip
                                                            by_cases q511 : v8.toInt = 27
                                                            · refine zg_tabIn X 967 27 dL_law_33 q511 (by decide) (by decide) rfl (by decide) ?_
                                                              refine zg_aload_n X 2 rfl dL_law_967 ?_
                                                              refine zg_aload_n X 3 rfl dL_law_968 ?_
                                                              refine zg_iload_n X 0 rfl dL_law_969 ?_
                                                              refine zg_iconst X 1 dL_law_970 (by decide) (fun v512 _ hv512 => ?_)
                                                              refine zg_iadd X dL_law_971 (by omega) (by omega) (fun v513 _ hv513 => ?_)
                                                              refine zg_sld X hX hbl hbA (by omega) (by omega) dL_law_972 (fun v514 ev514 => ?_)
                                                              refine zg_cVi (As := [.int v514]) (st := []) X hx0 rfl (by decide) rfl (t_X10_part l d L1 kd1 κ _ hI1 x0 hx0 v514 ) mk_L_129 mc_X10_part mz_X10 mi_X10_part ml_X10_part (na := 1) ⟨md_X10.1, md_X10.2, by decide +kernel⟩ rfl ⟨by decide, by decide⟩ (Nat.le_of_ble_eq_true rfl) dL_law_973 (fun v515 s516 hq => ?_)
                                                              have h517 := hq
                                                              refine zg_pop X dL_law_976 rfl ?_
                                                              refine zg_aload_n X 1 rfl dL_law_977 ?_
                                                              refine zg_aload_n X 3 rfl dL_law_978 ?_
                                                              refine zg_iload_n X 0 rfl dL_law_979 ?_
                                                              refine zg_iconst X 1 dL_law_980 (by decide) (fun v518 _ hv518 => ?_)
                                                              refine zg_iadd X dL_law_981 (by omega) (by omega) (fun v519 _ hv519 => ?_)
                                                              refine zg_sld X hX hbl hbA (by omega) (by omega) dL_law_982 (fun v520 ev520 => ?_)
                                                              refine zg_swap ?_
                                                              have X : zX d L2 kd2 A 4 p s m #[Value.ref b] c cL_law RL := X
                                                              refine zg_cVi (As := [.int v520]) (st := []) X hm0 rfl (by decide) rfl (t_X11_part l d L2 kd2 κ _ hI2 m0 hm0 v520  hgN hgH hgE hgL) mk_L_132 mc_X11_part mz_X11 mi_X11_part ml_X11_part (na := 1) ⟨md_X11.1, md_X11.2, by decide +kernel⟩ rfl ⟨by decide, by decide⟩ (Nat.le_of_ble_eq_true rfl) dL_law_983 (fun v521 s522 hq => ?_)
                                                              obtain ⟨⟨gNs522, gHs522, gEs522, gLs522⟩, h523, g524⟩ := hq
                                                              have gKs522 := gK.same h523 hm0 g524 (by decide) hgK
                                                              refine zg_pop X dL_law_986 rfl ?_
                                                              refine zg_goto X 1441 dL_law_987 (by decide) ?_
                                                              refine zg_iinc X 6 (fun v525 => [(3, .int v525), (2, .ref m0), (1, .ref x0), (0, .ref b)]) 0 dL_law_1441 rfl (by decide) (by decide) (by omega) (by omega) (fun _ => rfl) (fun v525 _ hv525 => ?_)
                                                              refine zg_goto X 18 dL_law_1444 (by decide) ?_
                                                              refine zg_swap ?_
                                                              have X : zX d L1 kd1 A 4 p s m #[Value.ref b] c cL_law RL := X
                                                              refine zg_sub [0, 1, 2, 3] rfl ?_
                                                              exact ihLp _ _ _ v525 h517 h523 gNs522 gHs522 gEs522 gLs522 gKs522 (by omega) (by omega)
                                                            · skip
                                                              by_cases q526 : v8.toInt = 28
                                                              · refine zg_tabIn X 990 28 dL_law_33 q526 (by decide) (by decide) rfl (by decide) ?_
                                                                refine zg_aload_n X 2 rfl dL_law_990 ?_
                                                                refine zg_aload_n X 3 rfl dL_law_991 ?_
                                                                refine zg_iload_n X 0 rfl dL_law_992 ?_
                                                                refine zg_iconst X 1 dL_law_993 (by decide) (fun v527 _ hv527 => ?_)
                                                                refine zg_iadd X dL_law_994 (by omega) (by omega) (fun v528 _ hv528 => ?_)
                                                                refine zg_sld X hX hbl hbA (by omega) (by omega) dL_law_995 (fun v529 ev529 => ?_)
                                                                refine zg_aload_n X 3 rfl dL_law_996 ?_
                                                                refine zg_iload_n X 0 rfl dL_law_997 ?_
                                                                refine zg_iconst X 2 dL_law_998 (by decide) (fun v530 _ hv530 => ?_)
                                                                refine zg_iadd X dL_law_999 (by omega) (by omega) (fun v531 _ hv531 => ?_)
                                                                refine zg_sld X hX hbl hbA (by omega) (by omega) dL_law_1000 (fun v532 ev532 => ?_)
                                                                refine zg_aload_n X 3 rfl dL_law_1001 ?_
                                                                refine zg_iload_n X 0 rfl dL_law_1002 ?_
                                                                refine zg_iconst X 3 dL_law_1003 (by decide) (fun v533 _ hv533 => ?_)
                                                                refine zg_iadd X dL_law_1004 (by omega) (by omega) (fun v534 _ hv534 => ?_)
                                                                refine zg_sld X hX hbl hbA (by omega) (by omega) dL_law_1005 (fun v535 ev535 => ?_)
                                                                refine zg_cVi (As := [.int v529, .int v532, .int v535]) (st := []) X hx0 rfl (by decide) rfl (t_X10_reign l d L1 kd1 κ _ hI1 x0 hx0 v529 v532 v535 ) mk_L_133 mc_X10_reign mz_X10 mi_X10_reign ml_X10_reign (na := 3) ⟨md_X10.1, md_X10.2, by decide +kernel⟩ rfl ⟨by decide, by decide⟩ (Nat.le_of_ble_eq_true rfl) dL_law_1006 (fun v536 s537 hq => ?_)
                                                                have h538 := hq
                                                                refine zg_pop X dL_law_1009 rfl ?_
                                                                refine zg_aload_n X 1 rfl dL_law_1010 ?_
                                                                refine zg_aload_n X 3 rfl dL_law_1011 ?_
                                                                refine zg_iload_n X 0 rfl dL_law_1012 ?_
                                                                refine zg_iconst X 1 dL_law_1013 (by decide) (fun v539 _ hv539 => ?_)
                                                                refine zg_iadd X dL_law_1014 (by omega) (by omega) (fun v540 _ hv540 => ?_)
                                                                refine zg_sld X hX hbl hbA (by omega) (by omega) dL_law_1015 (fun v541 ev541 => ?_)
                                                                refine zg_aload_n X 3 rfl dL_law_1016 ?_
                                                                refine zg_iload_n X 0 rfl dL_law_1017 ?_
                                                                refine zg_iconst X 2 dL_law_1018 (by decide) (fun v542 _ hv542 => ?_)
                                                                refine zg_iadd X dL_law_1019 (by omega) (by omega) (fun v543 _ hv543 => ?_)
                                                                refine zg_sld X hX hbl hbA (by omega) (by omega) dL_law_1020 (fun v544 ev544 => ?_)
                                                                refine zg_aload_n X 3 rfl dL_law_1021 ?_
                                                                refine zg_iload_n X 0 rfl dL_law_1022 ?_
                                                                refine zg_iconst X 3 dL_law_1023 (by decide) (fun v545 _ hv545 => ?_)
                                                                refine zg_iadd X dL_law_1024 (by omega) (by omega) (fun v546 _ hv546 => ?_)
                                                                refine zg_sld X hX hbl hbA (by omega) (by omega) dL_law_1025 (fun v547 ev547 => ?_)
                                                                refine zg_swap ?_
                                                                have X : zX d L2 kd2 A 4 p s m #[Value.ref b] c cL_law RL := X
                                                                refine zg_cVi (As := [.int v541, .int v544, .int v547]) (st := []) X hm0 rfl (by decide) rfl (t_X11_reign l d L2 kd2 κ _ hI2 m0 hm0 v541 v544 v547  hgN hgH hgE hgL) mk_L_137 mc_X11_reign mz_X11 mi_X11_reign ml_X11_reign (na := 3) ⟨md_X11.1, md_X11.2, by decide +kernel⟩ rfl ⟨by decide, by decide⟩ (Nat.le_of_ble_eq_true rfl) dL_law_1026 (fun v548 s549 hq => ?_)
                                                                obtain ⟨⟨gNs549, gHs549, gEs549, gLs549⟩, h550, g551⟩ := hq
                                                                have gKs549 := gK.same h550 hm0 g551 (by decide) hgK
                                                                refine zg_pop X dL_law_1029 rfl ?_
                                                                refine zg_goto X 1441 dL_law_1030 (by decide) ?_
                                                                refine zg_iinc X 6 (fun v552 => [(3, .int v552), (2, .ref m0), (1, .ref x0), (0, .ref b)]) 0 dL_law_1441 rfl (by decide) (by decide) (by omega) (by omega) (fun _ => rfl) (fun v552 _ hv552 => ?_)
                                                                refine zg_goto X 18 dL_law_1444 (by decide) ?_
                                                                refine zg_swap ?_
                                                                have X : zX d L1 kd1 A 4 p s m #[Value.ref b] c cL_law RL := X
                                                                refine zg_sub [0, 1, 2, 3] rfl ?_
                                                                exact ihLp _ _ _ v552 h538 h550 gNs549 gHs549 gEs549 gLs549 gKs549 (by omega) (by omega)
                                                              · skip
                                                                by_cases q553 : v8.toInt = 29
                                                                · refine zg_tabIn X 1033 29 dL_law_33 q553 (by decide) (by decide) rfl (by decide) ?_
                                                                  refine zg_aload_n X 2 rfl dL_law_1033 ?_
                                                                  refine zg_cVi (As := []) (st := []) X hx0 rfl (by decide) rfl (t_X10_tour l d L1 kd1 κ _ hI1 x0 hx0  ) mk_L_138 mc_X10_tour mz_X10 mi_X10_tour ml_X10_tour (na := 0) ⟨md_X10.1, md_X10.2, by decide +kernel⟩ rfl ⟨by decide, by decide⟩ (Nat.le_of_ble_eq_true rfl) dL_law_1034 (fun v554 s555 hq => ?_)
                                                                  have h556 := hq
                                                                  refine zg_pop X dL_law_1037 rfl ?_
                                                                  refine zg_aload_n X 1 rfl dL_law_1038 ?_
                                                                  refine zg_swap ?_
                                                                  have X : zX d L2 kd2 A 4 p s m #[Value.ref b] c cL_law RL := X
                                                                  refine zg_cVi (As := []) (st := []) X hm0 rfl (by decide) rfl (t_X11_tour l d L2 kd2 κ _ hI2 m0 hm0   hgN hgH hgE hgL) mk_L_141 mc_X11_tour mz_X11 mi_X11_tour ml_X11_tour (na := 0) ⟨md_X11.1, md_X11.2, by decide +kernel⟩ rfl ⟨by decide, by decide⟩ (Nat.le_of_ble_eq_true rfl) dL_law_1039 (fun v557 s558 hq => ?_)
                                                                  obtain ⟨⟨gNs558, gHs558, gEs558, gLs558⟩, h559, g560⟩ := hq
                                                                  have gKs558 := gK.same h559 hm0 g560 (by decide) hgK
                                                                  refine zg_pop X dL_law_1042 rfl ?_
                                                                  refine zg_goto X 1441 dL_law_1043 (by decide) ?_
                                                                  refine zg_iinc X 6 (fun v561 => [(3, .int v561), (2, .ref m0), (1, .ref x0), (0, .ref b)]) 0 dL_law_1441 rfl (by decide) (by decide) (by omega) (by omega) (fun _ => rfl) (fun v561 _ hv561 => ?_)
                                                                  refine zg_goto X 18 dL_law_1444 (by decide) ?_
                                                                  refine zg_swap ?_
                                                                  have X : zX d L1 kd1 A 4 p s m #[Value.ref b] c cL_law RL := X
                                                                  refine zg_sub [0, 1, 2, 3] rfl ?_
                                                                  exact ihLp _ _ _ v561 h556 h559 gNs558 gHs558 gEs558 gLs558 gKs558 (by omega) (by omega)
                                                                · skip
                                                                  by_cases q562 : v8.toInt = 30
                                                                  · refine zg_tabIn X 1046 30 dL_law_33 q562 (by decide) (by decide) rfl (by decide) ?_
                                                                    refine zg_aload_n X 2 rfl dL_law_1046 ?_
                                                                    refine zg_cVi (As := []) (st := []) X hx0 rfl (by decide) rfl (t_X10_parted l d L1 kd1 κ _ hI1 x0 hx0  ) mk_L_142 mc_X10_parted mz_X10 mi_X10_parted ml_X10_parted (na := 0) ⟨md_X10.1, md_X10.2, by decide +kernel⟩ rfl ⟨by decide, by decide⟩ (Nat.le_of_ble_eq_true rfl) dL_law_1047 (fun v563 s564 hq => ?_)
                                                                    have h565 := hq
                                                                    refine zg_pop X dL_law_1050 rfl ?_
                                                                    refine zg_aload_n X 1 rfl dL_law_1051 ?_
                                                                    refine zg_swap ?_
                                                                    have X : zX d L2 kd2 A 4 p s m #[Value.ref b] c cL_law RL := X
                                                                    refine zg_cVi (As := []) (st := []) X hm0 rfl (by decide) rfl (t_X11_parted l d L2 kd2 κ _ hI2 m0 hm0   hgN hgH hgE hgL) mk_L_145 mc_X11_parted mz_X11 mi_X11_parted ml_X11_parted (na := 0) ⟨md_X11.1, md_X11.2, by decide +kernel⟩ rfl ⟨by decide, by decide⟩ (Nat.le_of_ble_eq_true rfl) dL_law_1052 (fun v566 s567 hq => ?_)
                                                                    obtain ⟨⟨gNs567, gHs567, gEs567, gLs567⟩, h568, g569⟩ := hq
                                                                    have gKs567 := gK.same h568 hm0 g569 (by decide) hgK
                                                                    refine zg_pop X dL_law_1055 rfl ?_
                                                                    refine zg_goto X 1441 dL_law_1056 (by decide) ?_
                                                                    refine zg_iinc X 6 (fun v570 => [(3, .int v570), (2, .ref m0), (1, .ref x0), (0, .ref b)]) 0 dL_law_1441 rfl (by decide) (by decide) (by omega) (by omega) (fun _ => rfl) (fun v570 _ hv570 => ?_)
                                                                    refine zg_goto X 18 dL_law_1444 (by decide) ?_
                                                                    refine zg_swap ?_
                                                                    have X : zX d L1 kd1 A 4 p s m #[Value.ref b] c cL_law RL := X
                                                                    refine zg_sub [0, 1, 2, 3] rfl ?_
                                                                    exact ihLp _ _ _ v570 h565 h568 gNs567 gHs567 gEs567 gLs567 gKs567 (by omega) (by omega)
                                                                  · skip
                                                                    by_cases q571 : v8.toInt = 31
                                                                    · refine zg_tabIn X 1059 31 dL_law_33 q571 (by decide) (by decide) rfl (by decide) ?_
                                                                      refine zg_aload_n X 2 rfl dL_law_1059 ?_
                                                                      refine zg_aload_n X 3 rfl dL_law_1060 ?_
                                                                      refine zg_iload_n X 0 rfl dL_law_1061 ?_
                                                                      refine zg_iconst X 1 dL_law_1062 (by decide) (fun v572 _ hv572 => ?_)
                                                                      refine zg_iadd X dL_law_1063 (by omega) (by omega) (fun v573 _ hv573 => ?_)
                                                                      refine zg_sld X hX hbl hbA (by omega) (by omega) dL_law_1064 (fun v574 ev574 => ?_)
                                                                      refine zg_aload_n X 3 rfl dL_law_1065 ?_
                                                                      refine zg_iload_n X 0 rfl dL_law_1066 ?_
                                                                      refine zg_iconst X 2 dL_law_1067 (by decide) (fun v575 _ hv575 => ?_)
                                                                      refine zg_iadd X dL_law_1068 (by omega) (by omega) (fun v576 _ hv576 => ?_)
                                                                      refine zg_sld X hX hbl hbA (by omega) (by omega) dL_law_1069 (fun v577 ev577 => ?_)
                                                                      refine zg_aload_n X 3 rfl dL_law_1070 ?_
                                                                      refine zg_iload_n X 0 rfl dL_law_1071 ?_
                                                                      refine zg_iconst X 3 dL_law_1072 (by decide) (fun v578 _ hv578 => ?_)
                                                                      refine zg_iadd X dL_law_1073 (by omega) (by omega) (fun v579 _ hv579 => ?_)
                                                                      refine zg_sld X hX hbl hbA (by omega) (by omega) dL_law_1074 (fun v580 ev580 => ?_)
                                                                      refine zg_cVi (As := [.int v574, .int v577, .int v580]) (st := []) X hx0 rfl (by decide) rfl (t_X10_meet l d L1 kd1 κ _ hI1 x0 hx0 v574 v577 v580 ) mk_L_146 mc_X10_meet mz_X10 mi_X10_meet ml_X10_meet (na := 3) ⟨md_X10.1, md_X10.2, by decide +kernel⟩ rfl ⟨by decide, by decide⟩ (Nat.le_of_ble_eq_true rfl) dL_law_1075 (fun v581 s582 hq => ?_)
                                                                      have h583 := hq
                                                                      refine zg_pop X dL_law_1078 rfl ?_
                                                                      refine zg_aload_n X 1 rfl dL_law_1079 ?_
                                                                      refine zg_aload_n X 3 rfl dL_law_1080 ?_
                                                                      refine zg_iload_n X 0 rfl dL_law_1081 ?_
                                                                      refine zg_iconst X 1 dL_law_1082 (by decide) (fun v584 _ hv584 => ?_)
                                                                      refine zg_iadd X dL_law_1083 (by omega) (by omega) (fun v585 _ hv585 => ?_)
                                                                      refine zg_sld X hX hbl hbA (by omega) (by omega) dL_law_1084 (fun v586 ev586 => ?_)
                                                                      refine zg_aload_n X 3 rfl dL_law_1085 ?_
                                                                      refine zg_iload_n X 0 rfl dL_law_1086 ?_
                                                                      refine zg_iconst X 2 dL_law_1087 (by decide) (fun v587 _ hv587 => ?_)
                                                                      refine zg_iadd X dL_law_1088 (by omega) (by omega) (fun v588 _ hv588 => ?_)
                                                                      refine zg_sld X hX hbl hbA (by omega) (by omega) dL_law_1089 (fun v589 ev589 => ?_)
                                                                      refine zg_aload_n X 3 rfl dL_law_1090 ?_
                                                                      refine zg_iload_n X 0 rfl dL_law_1091 ?_
                                                                      refine zg_iconst X 3 dL_law_1092 (by decide) (fun v590 _ hv590 => ?_)
                                                                      refine zg_iadd X dL_law_1093 (by omega) (by omega) (fun v591 _ hv591 => ?_)
                                                                      refine zg_sld X hX hbl hbA (by omega) (by omega) dL_law_1094 (fun v592 ev592 => ?_)
                                                                      refine zg_swap ?_
                                                                      have X : zX d L2 kd2 A 4 p s m #[Value.ref b] c cL_law RL := X
                                                                      refine zg_cVi (As := [.int v586, .int v589, .int v592]) (st := []) X hm0 rfl (by decide) rfl (t_X11_meet l d L2 kd2 κ _ hI2 m0 hm0 v586 v589 v592  hgN hgH hgE hgL) mk_L_149 mc_X11_meet mz_X11 mi_X11_meet ml_X11_meet (na := 3) ⟨md_X11.1, md_X11.2, by decide +kernel⟩ rfl ⟨by decide, by decide⟩ (Nat.le_of_ble_eq_true rfl) dL_law_1095 (fun v593 s594 hq => ?_)
                                                                      obtain ⟨⟨gNs594, gHs594, gEs594, gLs594⟩, h595, g596⟩ := hq
                                                                      have gKs594 := gK.same h595 hm0 g596 (by decide) hgK
                                                                      refine zg_pop X dL_law_1098 rfl ?_
                                                                      refine zg_goto X 1441 dL_law_1099 (by decide) ?_
                                                                      refine zg_iinc X 6 (fun v597 => [(3, .int v597), (2, .ref m0), (1, .ref x0), (0, .ref b)]) 0 dL_law_1441 rfl (by decide) (by decide) (by omega) (by omega) (fun _ => rfl) (fun v597 _ hv597 => ?_)
                                                                      refine zg_goto X 18 dL_law_1444 (by decide) ?_
                                                                      refine zg_swap ?_
                                                                      have X : zX d L1 kd1 A 4 p s m #[Value.ref b] c cL_law RL := X
                                                                      refine zg_sub [0, 1, 2, 3] rfl ?_
                                                                      exact ihLp _ _ _ v597 h583 h595 gNs594 gHs594 gEs594 gLs594 gKs594 (by omega) (by omega)
                                                                    · skip
                                                                      by_cases q598 : v8.toInt = 32
                                                                      · refine zg_tabIn X 1102 32 dL_law_33 q598 (by decide) (by decide) rfl (by decide) ?_
                                                                        refine zg_aload_n X 2 rfl dL_law_1102 ?_
                                                                        refine zg_aload_n X 3 rfl dL_law_1103 ?_
                                                                        refine zg_iload_n X 0 rfl dL_law_1104 ?_
                                                                        refine zg_iconst X 1 dL_law_1105 (by decide) (fun v599 _ hv599 => ?_)
                                                                        refine zg_iadd X dL_law_1106 (by omega) (by omega) (fun v600 _ hv600 => ?_)
                                                                        refine zg_sld X hX hbl hbA (by omega) (by omega) dL_law_1107 (fun v601 ev601 => ?_)
                                                                        refine zg_cVi (As := [.int v601]) (st := []) X hx0 rfl (by decide) rfl (t_X10_when l d L1 kd1 κ _ hI1 x0 hx0 v601 ) mk_L_150 mc_X10_when mz_X10 mi_X10_when ml_X10_when (na := 1) ⟨md_X10.1, md_X10.2, by decide +kernel⟩ rfl ⟨by decide, by decide⟩ (Nat.le_of_ble_eq_true rfl) dL_law_1108 (fun v602 s603 hq => ?_)
                                                                        have h604 := hq
                                                                        refine zg_pop X dL_law_1111 rfl ?_
                                                                        refine zg_aload_n X 1 rfl dL_law_1112 ?_
                                                                        refine zg_aload_n X 3 rfl dL_law_1113 ?_
                                                                        refine zg_iload_n X 0 rfl dL_law_1114 ?_
                                                                        refine zg_iconst X 1 dL_law_1115 (by decide) (fun v605 _ hv605 => ?_)
                                                                        refine zg_iadd X dL_law_1116 (by omega) (by omega) (fun v606 _ hv606 => ?_)
                                                                        refine zg_sld X hX hbl hbA (by omega) (by omega) dL_law_1117 (fun v607 ev607 => ?_)
                                                                        refine zg_swap ?_
                                                                        have X : zX d L2 kd2 A 4 p s m #[Value.ref b] c cL_law RL := X
                                                                        refine zg_cVi (As := [.int v607]) (st := []) X hm0 rfl (by decide) rfl (t_X11_when l d L2 kd2 κ _ hI2 m0 hm0 v607  hgN hgH hgE hgL) mk_L_153 mc_X11_when mz_X11 mi_X11_when ml_X11_when (na := 1) ⟨md_X11.1, md_X11.2, by decide +kernel⟩ rfl ⟨by decide, by decide⟩ (Nat.le_of_ble_eq_true rfl) dL_law_1118 (fun v608 s609 hq => ?_)
                                                                        obtain ⟨⟨gNs609, gHs609, gEs609, gLs609⟩, h610, g611⟩ := hq
                                                                        have gKs609 := gK.same h610 hm0 g611 (by decide) hgK
                                                                        refine zg_pop X dL_law_1121 rfl ?_
                                                                        refine zg_goto X 1441 dL_law_1122 (by decide) ?_
                                                                        refine zg_iinc X 6 (fun v612 => [(3, .int v612), (2, .ref m0), (1, .ref x0), (0, .ref b)]) 0 dL_law_1441 rfl (by decide) (by decide) (by omega) (by omega) (fun _ => rfl) (fun v612 _ hv612 => ?_)
                                                                        refine zg_goto X 18 dL_law_1444 (by decide) ?_
                                                                        refine zg_swap ?_
                                                                        have X : zX d L1 kd1 A 4 p s m #[Value.ref b] c cL_law RL := X
                                                                        refine zg_sub [0, 1, 2, 3] rfl ?_
                                                                        exact ihLp _ _ _ v612 h604 h610 gNs609 gHs609 gEs609 gLs609 gKs609 (by omega) (by omega)
                                                                      · skip
                                                                        by_cases q613 : v8.toInt = 33
                                                                        · refine zg_tabIn X 1125 33 dL_law_33 q613 (by decide) (by decide) rfl (by decide) ?_
                                                                          refine zg_aload_n X 2 rfl dL_law_1125 ?_
                                                                          refine zg_aload_n X 3 rfl dL_law_1126 ?_
                                                                          refine zg_iload_n X 0 rfl dL_law_1127 ?_
                                                                          refine zg_iconst X 1 dL_law_1128 (by decide) (fun v614 _ hv614 => ?_)
                                                                          refine zg_iadd X dL_law_1129 (by omega) (by omega) (fun v615 _ hv615 => ?_)
                                                                          refine zg_sld X hX hbl hbA (by omega) (by omega) dL_law_1130 (fun v616 ev616 => ?_)
                                                                          refine zg_aload_n X 3 rfl dL_law_1131 ?_
                                                                          refine zg_iload_n X 0 rfl dL_law_1132 ?_
                                                                          refine zg_iconst X 2 dL_law_1133 (by decide) (fun v617 _ hv617 => ?_)
                                                                          refine zg_iadd X dL_law_1134 (by omega) (by omega) (fun v618 _ hv618 => ?_)
                                                                          refine zg_sld X hX hbl hbA (by omega) (by omega) dL_law_1135 (fun v619 ev619 => ?_)
                                                                          refine zg_aload_n X 3 rfl dL_law_1136 ?_
                                                                          refine zg_iload_n X 0 rfl dL_law_1137 ?_
                                                                          refine zg_iconst X 3 dL_law_1138 (by decide) (fun v620 _ hv620 => ?_)
                                                                          refine zg_iadd X dL_law_1139 (by omega) (by omega) (fun v621 _ hv621 => ?_)
                                                                          refine zg_sld X hX hbl hbA (by omega) (by omega) dL_law_1140 (fun v622 ev622 => ?_)
                                                                          refine zg_cVi (As := [.int v616, .int v619, .int v622]) (st := []) X hx0 rfl (by decide) rfl (t_X10_then l d L1 kd1 κ _ hI1 x0 hx0 v616 v619 v622 ) mk_L_154 mc_X10_then mz_X10 mi_X10_then ml_X10_then (na := 3) ⟨md_X10.1, md_X10.2, by decide +kernel⟩ rfl ⟨by decide, by decide⟩ (Nat.le_of_ble_eq_true rfl) dL_law_1141 (fun v623 s624 hq => ?_)
                                                                          have h625 := hq
                                                                          refine zg_pop X dL_law_1144 rfl ?_
                                                                          refine zg_aload_n X 1 rfl dL_law_1145 ?_
                                                                          refine zg_aload_n X 3 rfl dL_law_1146 ?_
                                                                          refine zg_iload_n X 0 rfl dL_law_1147 ?_
                                                                          refine zg_iconst X 1 dL_law_1148 (by decide) (fun v626 _ hv626 => ?_)
                                                                          refine zg_iadd X dL_law_1149 (by omega) (by omega) (fun v627 _ hv627 => ?_)
                                                                          refine zg_sld X hX hbl hbA (by omega) (by omega) dL_law_1150 (fun v628 ev628 => ?_)
                                                                          refine zg_aload_n X 3 rfl dL_law_1151 ?_
                                                                          refine zg_iload_n X 0 rfl dL_law_1152 ?_
                                                                          refine zg_iconst X 2 dL_law_1153 (by decide) (fun v629 _ hv629 => ?_)
                                                                          refine zg_iadd X dL_law_1154 (by omega) (by omega) (fun v630 _ hv630 => ?_)
                                                                          refine zg_sld X hX hbl hbA (by omega) (by omega) dL_law_1155 (fun v631 ev631 => ?_)
                                                                          refine zg_aload_n X 3 rfl dL_law_1156 ?_
                                                                          refine zg_iload_n X 0 rfl dL_law_1157 ?_
                                                                          refine zg_iconst X 3 dL_law_1158 (by decide) (fun v632 _ hv632 => ?_)
                                                                          refine zg_iadd X dL_law_1159 (by omega) (by omega) (fun v633 _ hv633 => ?_)
                                                                          refine zg_sld X hX hbl hbA (by omega) (by omega) dL_law_1160 (fun v634 ev634 => ?_)
                                                                          refine zg_swap ?_
                                                                          have X : zX d L2 kd2 A 4 p s m #[Value.ref b] c cL_law RL := X
                                                                          refine zg_cVi (As := [.int v628, .int v631, .int v634]) (st := []) X hm0 rfl (by decide) rfl (t_X11_then l d L2 kd2 κ _ hI2 m0 hm0 v628 v631 v634  hgN hgH hgE hgL) mk_L_157 mc_X11_then mz_X11 mi_X11_then ml_X11_then (na := 3) ⟨md_X11.1, md_X11.2, by decide +kernel⟩ rfl ⟨by decide, by decide⟩ (Nat.le_of_ble_eq_true rfl) dL_law_1161 (fun v635 s636 hq => ?_)
                                                                          obtain ⟨⟨gNs636, gHs636, gEs636, gLs636⟩, h637, g638⟩ := hq
                                                                          have gKs636 := gK.same h637 hm0 g638 (by decide) hgK
                                                                          refine zg_pop X dL_law_1164 rfl ?_
                                                                          refine zg_goto X 1441 dL_law_1165 (by decide) ?_
                                                                          refine zg_iinc X 6 (fun v639 => [(3, .int v639), (2, .ref m0), (1, .ref x0), (0, .ref b)]) 0 dL_law_1441 rfl (by decide) (by decide) (by omega) (by omega) (fun _ => rfl) (fun v639 _ hv639 => ?_)
                                                                          refine zg_goto X 18 dL_law_1444 (by decide) ?_
                                                                          refine zg_swap ?_
                                                                          have X : zX d L1 kd1 A 4 p s m #[Value.ref b] c cL_law RL := X
                                                                          refine zg_sub [0, 1, 2, 3] rfl ?_
                                                                          exact ihLp _ _ _ v639 h625 h637 gNs636 gHs636 gEs636 gLs636 gKs636 (by omega) (by omega)
                                                                        · skip
                                                                          by_cases q640 : v8.toInt = 34
                                                                          · refine zg_tabIn X 1168 34 dL_law_33 q640 (by decide) (by decide) rfl (by decide) ?_
                                                                            refine zg_aload_n X 2 rfl dL_law_1168 ?_
                                                                            refine zg_aload_n X 3 rfl dL_law_1169 ?_
                                                                            refine zg_iload_n X 0 rfl dL_law_1170 ?_
                                                                            refine zg_iconst X 1 dL_law_1171 (by decide) (fun v641 _ hv641 => ?_)
                                                                            refine zg_iadd X dL_law_1172 (by omega) (by omega) (fun v642 _ hv642 => ?_)
                                                                            refine zg_sld X hX hbl hbA (by omega) (by omega) dL_law_1173 (fun v643 ev643 => ?_)
                                                                            refine zg_cVi (As := [.int v643]) (st := []) X hx0 rfl (by decide) rfl (t_X10_flowIn l d L1 kd1 κ _ hI1 x0 hx0 v643 ) mk_L_158 mc_X10_flowIn mz_X10 mi_X10_flowIn ml_X10_flowIn (na := 1) ⟨md_X10.1, md_X10.2, by decide +kernel⟩ rfl ⟨by decide, by decide⟩ (Nat.le_of_ble_eq_true rfl) dL_law_1174 (fun v644 s645 hq => ?_)
                                                                            have h646 := hq
                                                                            refine zg_pop X dL_law_1177 rfl ?_
                                                                            refine zg_aload_n X 1 rfl dL_law_1178 ?_
                                                                            refine zg_aload_n X 3 rfl dL_law_1179 ?_
                                                                            refine zg_iload_n X 0 rfl dL_law_1180 ?_
                                                                            refine zg_iconst X 1 dL_law_1181 (by decide) (fun v647 _ hv647 => ?_)
                                                                            refine zg_iadd X dL_law_1182 (by omega) (by omega) (fun v648 _ hv648 => ?_)
                                                                            refine zg_sld X hX hbl hbA (by omega) (by omega) dL_law_1183 (fun v649 ev649 => ?_)
                                                                            refine zg_swap ?_
                                                                            have X : zX d L2 kd2 A 4 p s m #[Value.ref b] c cL_law RL := X
                                                                            refine zg_cVi (As := [.int v649]) (st := []) X hm0 rfl (by decide) rfl (t_X11_flowIn l d L2 kd2 κ _ hI2 m0 hm0 v649  hgN hgH hgE hgL) mk_L_161 mc_X11_flowIn mz_X11 mi_X11_flowIn ml_X11_flowIn (na := 1) ⟨md_X11.1, md_X11.2, by decide +kernel⟩ rfl ⟨by decide, by decide⟩ (Nat.le_of_ble_eq_true rfl) dL_law_1184 (fun v650 s651 hq => ?_)
                                                                            obtain ⟨⟨gNs651, gHs651, gEs651, gLs651⟩, h652, g653⟩ := hq
                                                                            have gKs651 := gK.same h652 hm0 g653 (by decide) hgK
                                                                            refine zg_pop X dL_law_1187 rfl ?_
                                                                            refine zg_goto X 1441 dL_law_1188 (by decide) ?_
                                                                            refine zg_iinc X 6 (fun v654 => [(3, .int v654), (2, .ref m0), (1, .ref x0), (0, .ref b)]) 0 dL_law_1441 rfl (by decide) (by decide) (by omega) (by omega) (fun _ => rfl) (fun v654 _ hv654 => ?_)
                                                                            refine zg_goto X 18 dL_law_1444 (by decide) ?_
                                                                            refine zg_swap ?_
                                                                            have X : zX d L1 kd1 A 4 p s m #[Value.ref b] c cL_law RL := X
                                                                            refine zg_sub [0, 1, 2, 3] rfl ?_
                                                                            exact ihLp _ _ _ v654 h646 h652 gNs651 gHs651 gEs651 gLs651 gKs651 (by omega) (by omega)
                                                                          · skip
                                                                            by_cases q655 : v8.toInt = 35
                                                                            · refine zg_tabIn X 1191 35 dL_law_33 q655 (by decide) (by decide) rfl (by decide) ?_
                                                                              refine zg_aload_n X 2 rfl dL_law_1191 ?_
                                                                              refine zg_aload_n X 3 rfl dL_law_1192 ?_
                                                                              refine zg_iload_n X 0 rfl dL_law_1193 ?_
                                                                              refine zg_iconst X 1 dL_law_1194 (by decide) (fun v656 _ hv656 => ?_)
                                                                              refine zg_iadd X dL_law_1195 (by omega) (by omega) (fun v657 _ hv657 => ?_)
                                                                              refine zg_sld X hX hbl hbA (by omega) (by omega) dL_law_1196 (fun v658 ev658 => ?_)
                                                                              refine zg_aload_n X 3 rfl dL_law_1197 ?_
                                                                              refine zg_iload_n X 0 rfl dL_law_1198 ?_
                                                                              refine zg_iconst X 2 dL_law_1199 (by decide) (fun v659 _ hv659 => ?_)
                                                                              refine zg_iadd X dL_law_1200 (by omega) (by omega) (fun v660 _ hv660 => ?_)
                                                                              refine zg_sld X hX hbl hbA (by omega) (by omega) dL_law_1201 (fun v661 ev661 => ?_)
                                                                              refine zg_aload_n X 3 rfl dL_law_1202 ?_
                                                                              refine zg_iload_n X 0 rfl dL_law_1203 ?_
                                                                              refine zg_iconst X 3 dL_law_1204 (by decide) (fun v662 _ hv662 => ?_)
                                                                              refine zg_iadd X dL_law_1205 (by omega) (by omega) (fun v663 _ hv663 => ?_)
                                                                              refine zg_sld X hX hbl hbA (by omega) (by omega) dL_law_1206 (fun v664 ev664 => ?_)
                                                                              refine zg_cVi (As := [.int v658, .int v661, .int v664]) (st := []) X hx0 rfl (by decide) rfl (t_X10_year l d L1 kd1 κ _ hI1 x0 hx0 v658 v661 v664 ) mk_L_162 mc_X10_year mz_X10 mi_X10_year ml_X10_year (na := 3) ⟨md_X10.1, md_X10.2, by decide +kernel⟩ rfl ⟨by decide, by decide⟩ (Nat.le_of_ble_eq_true rfl) dL_law_1207 (fun v665 s666 hq => ?_)
                                                                              have h667 := hq
                                                                              refine zg_pop X dL_law_1210 rfl ?_
                                                                              refine zg_aload_n X 1 rfl dL_law_1211 ?_
                                                                              refine zg_aload_n X 3 rfl dL_law_1212 ?_
                                                                              refine zg_iload_n X 0 rfl dL_law_1213 ?_
                                                                              refine zg_iconst X 1 dL_law_1214 (by decide) (fun v668 _ hv668 => ?_)
                                                                              refine zg_iadd X dL_law_1215 (by omega) (by omega) (fun v669 _ hv669 => ?_)
                                                                              refine zg_sld X hX hbl hbA (by omega) (by omega) dL_law_1216 (fun v670 ev670 => ?_)
                                                                              refine zg_aload_n X 3 rfl dL_law_1217 ?_
                                                                              refine zg_iload_n X 0 rfl dL_law_1218 ?_
                                                                              refine zg_iconst X 2 dL_law_1219 (by decide) (fun v671 _ hv671 => ?_)
                                                                              refine zg_iadd X dL_law_1220 (by omega) (by omega) (fun v672 _ hv672 => ?_)
                                                                              refine zg_sld X hX hbl hbA (by omega) (by omega) dL_law_1221 (fun v673 ev673 => ?_)
                                                                              refine zg_aload_n X 3 rfl dL_law_1222 ?_
                                                                              refine zg_iload_n X 0 rfl dL_law_1223 ?_
                                                                              refine zg_iconst X 3 dL_law_1224 (by decide) (fun v674 _ hv674 => ?_)
                                                                              refine zg_iadd X dL_law_1225 (by omega) (by omega) (fun v675 _ hv675 => ?_)
                                                                              refine zg_sld X hX hbl hbA (by omega) (by omega) dL_law_1226 (fun v676 ev676 => ?_)
                                                                              refine zg_swap ?_
                                                                              have X : zX d L2 kd2 A 4 p s m #[Value.ref b] c cL_law RL := X
                                                                              refine zg_cVi (As := [.int v670, .int v673, .int v676]) (st := []) X hm0 rfl (by decide) rfl (t_X11_year l d L2 kd2 κ _ hI2 m0 hm0 v670 v673 v676  hgN hgH hgE hgL) mk_L_165 mc_X11_year mz_X11 mi_X11_year ml_X11_year (na := 3) ⟨md_X11.1, md_X11.2, by decide +kernel⟩ rfl ⟨by decide, by decide⟩ (Nat.le_of_ble_eq_true rfl) dL_law_1227 (fun v677 s678 hq => ?_)
                                                                              obtain ⟨⟨gNs678, gHs678, gEs678, gLs678⟩, h679, g680⟩ := hq
                                                                              have gKs678 := gK.same h679 hm0 g680 (by decide) hgK
                                                                              refine zg_pop X dL_law_1230 rfl ?_
                                                                              refine zg_goto X 1441 dL_law_1231 (by decide) ?_
                                                                              refine zg_iinc X 6 (fun v681 => [(3, .int v681), (2, .ref m0), (1, .ref x0), (0, .ref b)]) 0 dL_law_1441 rfl (by decide) (by decide) (by omega) (by omega) (fun _ => rfl) (fun v681 _ hv681 => ?_)
                                                                              refine zg_goto X 18 dL_law_1444 (by decide) ?_
                                                                              refine zg_swap ?_
                                                                              have X : zX d L1 kd1 A 4 p s m #[Value.ref b] c cL_law RL := X
                                                                              refine zg_sub [0, 1, 2, 3] rfl ?_
                                                                              exact ihLp _ _ _ v681 h667 h679 gNs678 gHs678 gEs678 gLs678 gKs678 (by omega) (by omega)
                                                                            · skip
                                                                              by_cases q682 : v8.toInt = 36
                                                                              · refine zg_tabIn X 1234 36 dL_law_33 q682 (by decide) (by decide) rfl (by decide) ?_
                                                                                refine zg_aload_n X 2 rfl dL_law_1234 ?_
                                                                                refine zg_aload_n X 3 rfl dL_law_1235 ?_
                                                                                refine zg_iload_n X 0 rfl dL_law_1236 ?_
                                                                                refine zg_iconst X 1 dL_law_1237 (by decide) (fun v683 _ hv683 => ?_)
                                                                                refine zg_iadd X dL_law_1238 (by omega) (by omega) (fun v684 _ hv684 => ?_)
                                                                                refine zg_sld X hX hbl hbA (by omega) (by omega) dL_law_1239 (fun v685 ev685 => ?_)
                                                                                refine zg_aload_n X 3 rfl dL_law_1240 ?_
                                                                                refine zg_iload_n X 0 rfl dL_law_1241 ?_
                                                                                refine zg_iconst X 2 dL_law_1242 (by decide) (fun v686 _ hv686 => ?_)
                                                                                refine zg_iadd X dL_law_1243 (by omega) (by omega) (fun v687 _ hv687 => ?_)
                                                                                refine zg_sld X hX hbl hbA (by omega) (by omega) dL_law_1244 (fun v688 ev688 => ?_)
                                                                                refine zg_aload_n X 3 rfl dL_law_1245 ?_
                                                                                refine zg_iload_n X 0 rfl dL_law_1246 ?_
                                                                                refine zg_iconst X 3 dL_law_1247 (by decide) (fun v689 _ hv689 => ?_)
                                                                                refine zg_iadd X dL_law_1248 (by omega) (by omega) (fun v690 _ hv690 => ?_)
                                                                                refine zg_sld X hX hbl hbA (by omega) (by omega) dL_law_1249 (fun v691 ev691 => ?_)
                                                                                refine zg_aload_n X 3 rfl dL_law_1250 ?_
                                                                                refine zg_iload_n X 0 rfl dL_law_1251 ?_
                                                                                refine zg_iconst X 4 dL_law_1252 (by decide) (fun v692 _ hv692 => ?_)
                                                                                refine zg_iadd X dL_law_1253 (by omega) (by omega) (fun v693 _ hv693 => ?_)
                                                                                refine zg_sld X hX hbl hbA (by omega) (by omega) dL_law_1254 (fun v694 ev694 => ?_)
                                                                                refine zg_if_eq X 1262 dL_law_1255 (by decide) (fun c695 => ?_) (fun c695 => ?_)
                                                                                · skip
                                                                                  refine zg_iconst X 0 dL_law_1262 (by decide) (fun v696 _ hv696 => ?_)
                                                                                  refine zg_cVi (As := [.int v685, .int v688, .int v691, .int v696]) (st := []) X hx0 rfl (by decide) rfl (t_X10_tell l d L1 kd1 κ _ hI1 x0 hx0 v685 v688 v691 v696 (by omega)) mk_L_166 mc_X10_tell mz_X10 mi_X10_tell ml_X10_tell (na := 4) ⟨md_X10.1, md_X10.2, by decide +kernel⟩ rfl ⟨by decide, by decide⟩ (Nat.le_of_ble_eq_true rfl) dL_law_1263 (fun v697 s698 hq => ?_)
                                                                                  have h699 := hq
                                                                                  refine zg_pop X dL_law_1266 rfl ?_
                                                                                  refine zg_aload_n X 1 rfl dL_law_1267 ?_
                                                                                  refine zg_aload_n X 3 rfl dL_law_1268 ?_
                                                                                  refine zg_iload_n X 0 rfl dL_law_1269 ?_
                                                                                  refine zg_iconst X 1 dL_law_1270 (by decide) (fun v700 _ hv700 => ?_)
                                                                                  refine zg_iadd X dL_law_1271 (by omega) (by omega) (fun v701 _ hv701 => ?_)
                                                                                  refine zg_sld X hX hbl hbA (by omega) (by omega) dL_law_1272 (fun v702 ev702 => ?_)
                                                                                  refine zg_aload_n X 3 rfl dL_law_1273 ?_
                                                                                  refine zg_iload_n X 0 rfl dL_law_1274 ?_
                                                                                  refine zg_iconst X 2 dL_law_1275 (by decide) (fun v703 _ hv703 => ?_)
                                                                                  refine zg_iadd X dL_law_1276 (by omega) (by omega) (fun v704 _ hv704 => ?_)
                                                                                  refine zg_sld X hX hbl hbA (by omega) (by omega) dL_law_1277 (fun v705 ev705 => ?_)
                                                                                  refine zg_aload_n X 3 rfl dL_law_1278 ?_
                                                                                  refine zg_iload_n X 0 rfl dL_law_1279 ?_
                                                                                  refine zg_iconst X 3 dL_law_1280 (by decide) (fun v706 _ hv706 => ?_)
                                                                                  refine zg_iadd X dL_law_1281 (by omega) (by omega) (fun v707 _ hv707 => ?_)
                                                                                  refine zg_sld X hX hbl hbA (by omega) (by omega) dL_law_1282 (fun v708 ev708 => ?_)
                                                                                  refine zg_aload_n X 3 rfl dL_law_1283 ?_
                                                                                  refine zg_iload_n X 0 rfl dL_law_1284 ?_
                                                                                  refine zg_iconst X 4 dL_law_1285 (by decide) (fun v709 _ hv709 => ?_)
                                                                                  refine zg_iadd X dL_law_1286 (by omega) (by omega) (fun v710 _ hv710 => ?_)
                                                                                  refine zg_sld X hX hbl hbA (by omega) (by omega) dL_law_1287 (fun v711 ev711 => ?_)
                                                                                  refine zg_if_eq X 1295 dL_law_1288 (by decide) (fun c712 => ?_) (fun c712 => ?_)
                                                                                  · skip
                                                                                    refine zg_iconst X 0 dL_law_1295 (by decide) (fun v713 _ hv713 => ?_)
                                                                                    refine zg_swap ?_
                                                                                    have X : zX d L2 kd2 A 4 p s m #[Value.ref b] c cL_law RL := X
                                                                                    refine zg_cVi (As := [.int v702, .int v705, .int v708, .int v713]) (st := []) X hm0 rfl (by decide) rfl (t_X11_tell l d L2 kd2 κ _ hI2 m0 hm0 v702 v705 v708 v713 (by omega) hgN hgH hgE hgL) mk_L_170 mc_X11_tell mz_X11 mi_X11_tell ml_X11_tell (na := 4) ⟨md_X11.1, md_X11.2, by decide +kernel⟩ rfl ⟨by decide, by decide⟩ (Nat.le_of_ble_eq_true rfl) dL_law_1296 (fun v714 s715 hq => ?_)
                                                                                    obtain ⟨⟨gNs715, gHs715, gEs715, gLs715⟩, h716, g717⟩ := hq
                                                                                    have gKs715 := gK.same h716 hm0 g717 (by decide) hgK
                                                                                    refine zg_pop X dL_law_1299 rfl ?_
                                                                                    refine zg_goto X 1441 dL_law_1300 (by decide) ?_
                                                                                    refine zg_iinc X 6 (fun v718 => [(3, .int v718), (2, .ref m0), (1, .ref x0), (0, .ref b)]) 0 dL_law_1441 rfl (by decide) (by decide) (by omega) (by omega) (fun _ => rfl) (fun v718 _ hv718 => ?_)
                                                                                    refine zg_goto X 18 dL_law_1444 (by decide) ?_
                                                                                    refine zg_swap ?_
                                                                                    have X : zX d L1 kd1 A 4 p s m #[Value.ref b] c cL_law RL := X
                                                                                    refine zg_sub [0, 1, 2, 3] rfl ?_
                                                                                    exact ihLp _ _ _ v718 h699 h716 gNs715 gHs715 gEs715 gLs715 gKs715 (by omega) (by omega)
                                                                                  · skip
                                                                                    refine zg_iconst X 1 dL_law_1291 (by decide) (fun v719 _ hv719 => ?_)
                                                                                    refine zg_goto X 1296 dL_law_1292 (by decide) ?_
                                                                                    refine zg_swap ?_
                                                                                    have X : zX d L2 kd2 A 4 p s m #[Value.ref b] c cL_law RL := X
                                                                                    refine zg_cVi (As := [.int v702, .int v705, .int v708, .int v719]) (st := []) X hm0 rfl (by decide) rfl (t_X11_tell l d L2 kd2 κ _ hI2 m0 hm0 v702 v705 v708 v719 (by omega) hgN hgH hgE hgL) mk_L_170 mc_X11_tell mz_X11 mi_X11_tell ml_X11_tell (na := 4) ⟨md_X11.1, md_X11.2, by decide +kernel⟩ rfl ⟨by decide, by decide⟩ (Nat.le_of_ble_eq_true rfl) dL_law_1296 (fun v720 s721 hq => ?_)
                                                                                    obtain ⟨⟨gNs721, gHs721, gEs721, gLs721⟩, h722, g723⟩ := hq
                                                                                    have gKs721 := gK.same h722 hm0 g723 (by decide) hgK
                                                                                    refine zg_pop X dL_law_1299 rfl ?_
                                                                                    refine zg_goto X 1441 dL_law_1300 (by decide) ?_
                                                                                    refine zg_iinc X 6 (fun v724 => [(3, .int v724), (2, .ref m0), (1, .ref x0), (0, .ref b)]) 0 dL_law_1441 rfl (by decide) (by decide) (by omega) (by omega) (fun _ => rfl) (fun v724 _ hv724 => ?_)
                                                                                    refine zg_goto X 18 dL_law_1444 (by decide) ?_
                                                                                    refine zg_swap ?_
                                                                                    have X : zX d L1 kd1 A 4 p s m #[Value.ref b] c cL_law RL := X
                                                                                    refine zg_sub [0, 1, 2, 3] rfl ?_
                                                                                    exact ihLp _ _ _ v724 h699 h722 gNs721 gHs721 gEs721 gLs721 gKs721 (by omega) (by omega)
                                                                                · skip
                                                                                  refine zg_iconst X 1 dL_law_1258 (by decide) (fun v725 _ hv725 => ?_)
                                                                                  refine zg_goto X 1263 dL_law_1259 (by decide) ?_
                                                                                  refine zg_cVi (As := [.int v685, .int v688, .int v691, .int v725]) (st := []) X hx0 rfl (by decide) rfl (t_X10_tell l d L1 kd1 κ _ hI1 x0 hx0 v685 v688 v691 v725 (by omega)) mk_L_166 mc_X10_tell mz_X10 mi_X10_tell ml_X10_tell (na := 4) ⟨md_X10.1, md_X10.2, by decide +kernel⟩ rfl ⟨by decide, by decide⟩ (Nat.le_of_ble_eq_true rfl) dL_law_1263 (fun v726 s727 hq => ?_)
                                                                                  have h728 := hq
                                                                                  refine zg_pop X dL_law_1266 rfl ?_
                                                                                  refine zg_aload_n X 1 rfl dL_law_1267 ?_
                                                                                  refine zg_aload_n X 3 rfl dL_law_1268 ?_
                                                                                  refine zg_iload_n X 0 rfl dL_law_1269 ?_
                                                                                  refine zg_iconst X 1 dL_law_1270 (by decide) (fun v729 _ hv729 => ?_)
                                                                                  refine zg_iadd X dL_law_1271 (by omega) (by omega) (fun v730 _ hv730 => ?_)
                                                                                  refine zg_sld X hX hbl hbA (by omega) (by omega) dL_law_1272 (fun v731 ev731 => ?_)
                                                                                  refine zg_aload_n X 3 rfl dL_law_1273 ?_
                                                                                  refine zg_iload_n X 0 rfl dL_law_1274 ?_
                                                                                  refine zg_iconst X 2 dL_law_1275 (by decide) (fun v732 _ hv732 => ?_)
                                                                                  refine zg_iadd X dL_law_1276 (by omega) (by omega) (fun v733 _ hv733 => ?_)
                                                                                  refine zg_sld X hX hbl hbA (by omega) (by omega) dL_law_1277 (fun v734 ev734 => ?_)
                                                                                  refine zg_aload_n X 3 rfl dL_law_1278 ?_
                                                                                  refine zg_iload_n X 0 rfl dL_law_1279 ?_
                                                                                  refine zg_iconst X 3 dL_law_1280 (by decide) (fun v735 _ hv735 => ?_)
                                                                                  refine zg_iadd X dL_law_1281 (by omega) (by omega) (fun v736 _ hv736 => ?_)
                                                                                  refine zg_sld X hX hbl hbA (by omega) (by omega) dL_law_1282 (fun v737 ev737 => ?_)
                                                                                  refine zg_aload_n X 3 rfl dL_law_1283 ?_
                                                                                  refine zg_iload_n X 0 rfl dL_law_1284 ?_
                                                                                  refine zg_iconst X 4 dL_law_1285 (by decide) (fun v738 _ hv738 => ?_)
                                                                                  refine zg_iadd X dL_law_1286 (by omega) (by omega) (fun v739 _ hv739 => ?_)
                                                                                  refine zg_sld X hX hbl hbA (by omega) (by omega) dL_law_1287 (fun v740 ev740 => ?_)
                                                                                  refine zg_if_eq X 1295 dL_law_1288 (by decide) (fun c741 => ?_) (fun c741 => ?_)
                                                                                  · skip
                                                                                    refine zg_iconst X 0 dL_law_1295 (by decide) (fun v742 _ hv742 => ?_)
                                                                                    refine zg_swap ?_
                                                                                    have X : zX d L2 kd2 A 4 p s m #[Value.ref b] c cL_law RL := X
                                                                                    refine zg_cVi (As := [.int v731, .int v734, .int v737, .int v742]) (st := []) X hm0 rfl (by decide) rfl (t_X11_tell l d L2 kd2 κ _ hI2 m0 hm0 v731 v734 v737 v742 (by omega) hgN hgH hgE hgL) mk_L_170 mc_X11_tell mz_X11 mi_X11_tell ml_X11_tell (na := 4) ⟨md_X11.1, md_X11.2, by decide +kernel⟩ rfl ⟨by decide, by decide⟩ (Nat.le_of_ble_eq_true rfl) dL_law_1296 (fun v743 s744 hq => ?_)
                                                                                    obtain ⟨⟨gNs744, gHs744, gEs744, gLs744⟩, h745, g746⟩ := hq
                                                                                    have gKs744 := gK.same h745 hm0 g746 (by decide) hgK
                                                                                    refine zg_pop X dL_law_1299 rfl ?_
                                                                                    refine zg_goto X 1441 dL_law_1300 (by decide) ?_
                                                                                    refine zg_iinc X 6 (fun v747 => [(3, .int v747), (2, .ref m0), (1, .ref x0), (0, .ref b)]) 0 dL_law_1441 rfl (by decide) (by decide) (by omega) (by omega) (fun _ => rfl) (fun v747 _ hv747 => ?_)
                                                                                    refine zg_goto X 18 dL_law_1444 (by decide) ?_
                                                                                    refine zg_swap ?_
                                                                                    have X : zX d L1 kd1 A 4 p s m #[Value.ref b] c cL_law RL := X
                                                                                    refine zg_sub [0, 1, 2, 3] rfl ?_
                                                                                    exact ihLp _ _ _ v747 h728 h745 gNs744 gHs744 gEs744 gLs744 gKs744 (by omega) (by omega)
                                                                                  · skip
                                                                                    refine zg_iconst X 1 dL_law_1291 (by decide) (fun v748 _ hv748 => ?_)
                                                                                    refine zg_goto X 1296 dL_law_1292 (by decide) ?_
                                                                                    refine zg_swap ?_
                                                                                    have X : zX d L2 kd2 A 4 p s m #[Value.ref b] c cL_law RL := X
                                                                                    refine zg_cVi (As := [.int v731, .int v734, .int v737, .int v748]) (st := []) X hm0 rfl (by decide) rfl (t_X11_tell l d L2 kd2 κ _ hI2 m0 hm0 v731 v734 v737 v748 (by omega) hgN hgH hgE hgL) mk_L_170 mc_X11_tell mz_X11 mi_X11_tell ml_X11_tell (na := 4) ⟨md_X11.1, md_X11.2, by decide +kernel⟩ rfl ⟨by decide, by decide⟩ (Nat.le_of_ble_eq_true rfl) dL_law_1296 (fun v749 s750 hq => ?_)
                                                                                    obtain ⟨⟨gNs750, gHs750, gEs750, gLs750⟩, h751, g752⟩ := hq
                                                                                    have gKs750 := gK.same h751 hm0 g752 (by decide) hgK
                                                                                    refine zg_pop X dL_law_1299 rfl ?_
                                                                                    refine zg_goto X 1441 dL_law_1300 (by decide) ?_
                                                                                    refine zg_iinc X 6 (fun v753 => [(3, .int v753), (2, .ref m0), (1, .ref x0), (0, .ref b)]) 0 dL_law_1441 rfl (by decide) (by decide) (by omega) (by omega) (fun _ => rfl) (fun v753 _ hv753 => ?_)
                                                                                    refine zg_goto X 18 dL_law_1444 (by decide) ?_
                                                                                    refine zg_swap ?_
                                                                                    have X : zX d L1 kd1 A 4 p s m #[Value.ref b] c cL_law RL := X
                                                                                    refine zg_sub [0, 1, 2, 3] rfl ?_
                                                                                    exact ihLp _ _ _ v753 h728 h751 gNs750 gHs750 gEs750 gLs750 gKs750 (by omega) (by omega)
                                                                              · skip
                                                                                by_cases q754 : v8.toInt = 37
                                                                                · refine zg_tabIn X 1303 37 dL_law_33 q754 (by decide) (by decide) rfl (by decide) ?_
                                                                                  refine zg_aload_n X 2 rfl dL_law_1303 ?_
                                                                                  refine zg_cVi (As := []) (st := []) X hx0 rfl (by decide) rfl (t_X10_forget l d L1 kd1 κ _ hI1 x0 hx0  ) mk_L_171 mc_X10_forget mz_X10 mi_X10_forget ml_X10_forget (na := 0) ⟨md_X10.1, md_X10.2, by decide +kernel⟩ rfl ⟨by decide, by decide⟩ (Nat.le_of_ble_eq_true rfl) dL_law_1304 (fun v755 s756 hq => ?_)
                                                                                  have h757 := hq
                                                                                  refine zg_pop X dL_law_1307 rfl ?_
                                                                                  refine zg_aload_n X 1 rfl dL_law_1308 ?_
                                                                                  refine zg_swap ?_
                                                                                  have X : zX d L2 kd2 A 4 p s m #[Value.ref b] c cL_law RL := X
                                                                                  refine zg_cVi (As := []) (st := []) X hm0 rfl (by decide) rfl (t_X11_forget l d L2 kd2 κ _ hI2 m0 hm0   hgN hgH hgE hgL) mk_L_174 mc_X11_forget mz_X11 mi_X11_forget ml_X11_forget (na := 0) ⟨md_X11.1, md_X11.2, by decide +kernel⟩ rfl ⟨by decide, by decide⟩ (Nat.le_of_ble_eq_true rfl) dL_law_1309 (fun v758 s759 hq => ?_)
                                                                                  obtain ⟨⟨gNs759, gHs759, gEs759, gLs759⟩, h760, g761⟩ := hq
                                                                                  have gKs759 := gK.same h760 hm0 g761 (by decide) hgK
                                                                                  refine zg_pop X dL_law_1312 rfl ?_
                                                                                  refine zg_goto X 1441 dL_law_1313 (by decide) ?_
                                                                                  refine zg_iinc X 6 (fun v762 => [(3, .int v762), (2, .ref m0), (1, .ref x0), (0, .ref b)]) 0 dL_law_1441 rfl (by decide) (by decide) (by omega) (by omega) (fun _ => rfl) (fun v762 _ hv762 => ?_)
                                                                                  refine zg_goto X 18 dL_law_1444 (by decide) ?_
                                                                                  refine zg_swap ?_
                                                                                  have X : zX d L1 kd1 A 4 p s m #[Value.ref b] c cL_law RL := X
                                                                                  refine zg_sub [0, 1, 2, 3] rfl ?_
                                                                                  exact ihLp _ _ _ v762 h757 h760 gNs759 gHs759 gEs759 gLs759 gKs759 (by omega) (by omega)
                                                                                · skip
                                                                                  by_cases q763 : v8.toInt = 38
                                                                                  · refine zg_tabIn X 1316 38 dL_law_33 q763 (by decide) (by decide) rfl (by decide) ?_
                                                                                    refine zg_aload_n X 2 rfl dL_law_1316 ?_
                                                                                    refine zg_aload_n X 3 rfl dL_law_1317 ?_
                                                                                    refine zg_iload_n X 0 rfl dL_law_1318 ?_
                                                                                    refine zg_iconst X 1 dL_law_1319 (by decide) (fun v764 _ hv764 => ?_)
                                                                                    refine zg_iadd X dL_law_1320 (by omega) (by omega) (fun v765 _ hv765 => ?_)
                                                                                    refine zg_sld X hX hbl hbA (by omega) (by omega) dL_law_1321 (fun v766 ev766 => ?_)
                                                                                    refine zg_aload_n X 3 rfl dL_law_1322 ?_
                                                                                    refine zg_iload_n X 0 rfl dL_law_1323 ?_
                                                                                    refine zg_iconst X 2 dL_law_1324 (by decide) (fun v767 _ hv767 => ?_)
                                                                                    refine zg_iadd X dL_law_1325 (by omega) (by omega) (fun v768 _ hv768 => ?_)
                                                                                    refine zg_sld X hX hbl hbA (by omega) (by omega) dL_law_1326 (fun v769 ev769 => ?_)
                                                                                    refine zg_cVi (As := [.int v766, .int v769]) (st := []) X hx0 rfl (by decide) rfl (t_X10_dyed l d L1 kd1 κ _ hI1 x0 hx0 v766 v769 ) mk_L_175 mc_X10_dyed mz_X10 mi_X10_dyed ml_X10_dyed (na := 2) ⟨md_X10.1, md_X10.2, by decide +kernel⟩ rfl ⟨by decide, by decide⟩ (Nat.le_of_ble_eq_true rfl) dL_law_1327 (fun v770 s771 hq => ?_)
                                                                                    have h772 := hq
                                                                                    refine zg_pop X dL_law_1330 rfl ?_
                                                                                    refine zg_aload_n X 1 rfl dL_law_1331 ?_
                                                                                    refine zg_aload_n X 3 rfl dL_law_1332 ?_
                                                                                    refine zg_iload_n X 0 rfl dL_law_1333 ?_
                                                                                    refine zg_iconst X 1 dL_law_1334 (by decide) (fun v773 _ hv773 => ?_)
                                                                                    refine zg_iadd X dL_law_1335 (by omega) (by omega) (fun v774 _ hv774 => ?_)
                                                                                    refine zg_sld X hX hbl hbA (by omega) (by omega) dL_law_1336 (fun v775 ev775 => ?_)
                                                                                    refine zg_aload_n X 3 rfl dL_law_1337 ?_
                                                                                    refine zg_iload_n X 0 rfl dL_law_1338 ?_
                                                                                    refine zg_iconst X 2 dL_law_1339 (by decide) (fun v776 _ hv776 => ?_)
                                                                                    refine zg_iadd X dL_law_1340 (by omega) (by omega) (fun v777 _ hv777 => ?_)
                                                                                    refine zg_sld X hX hbl hbA (by omega) (by omega) dL_law_1341 (fun v778 ev778 => ?_)
                                                                                    refine zg_swap ?_
                                                                                    have X : zX d L2 kd2 A 4 p s m #[Value.ref b] c cL_law RL := X
                                                                                    refine zg_cVi (As := [.int v775, .int v778]) (st := []) X hm0 rfl (by decide) rfl (t_X11_dyed l d L2 kd2 κ _ hI2 m0 hm0 v775 v778  hgN hgH hgE hgL) mk_L_178 mc_X11_dyed mz_X11 mi_X11_dyed ml_X11_dyed (na := 2) ⟨md_X11.1, md_X11.2, by decide +kernel⟩ rfl ⟨by decide, by decide⟩ (Nat.le_of_ble_eq_true rfl) dL_law_1342 (fun v779 s780 hq => ?_)
                                                                                    obtain ⟨⟨gNs780, gHs780, gEs780, gLs780⟩, h781, g782⟩ := hq
                                                                                    have gKs780 := gK.same h781 hm0 g782 (by decide) hgK
                                                                                    refine zg_pop X dL_law_1345 rfl ?_
                                                                                    refine zg_goto X 1441 dL_law_1346 (by decide) ?_
                                                                                    refine zg_iinc X 6 (fun v783 => [(3, .int v783), (2, .ref m0), (1, .ref x0), (0, .ref b)]) 0 dL_law_1441 rfl (by decide) (by decide) (by omega) (by omega) (fun _ => rfl) (fun v783 _ hv783 => ?_)
                                                                                    refine zg_goto X 18 dL_law_1444 (by decide) ?_
                                                                                    refine zg_swap ?_
                                                                                    have X : zX d L1 kd1 A 4 p s m #[Value.ref b] c cL_law RL := X
                                                                                    refine zg_sub [0, 1, 2, 3] rfl ?_
                                                                                    exact ihLp _ _ _ v783 h772 h781 gNs780 gHs780 gEs780 gLs780 gKs780 (by omega) (by omega)
                                                                                  · skip
                                                                                    by_cases q784 : v8.toInt = 39
                                                                                    · refine zg_tabIn X 1349 39 dL_law_33 q784 (by decide) (by decide) rfl (by decide) ?_
                                                                                      refine zg_aload_n X 2 rfl dL_law_1349 ?_
                                                                                      refine zg_aload_n X 3 rfl dL_law_1350 ?_
                                                                                      refine zg_iload_n X 0 rfl dL_law_1351 ?_
                                                                                      refine zg_iconst X 1 dL_law_1352 (by decide) (fun v785 _ hv785 => ?_)
                                                                                      refine zg_iadd X dL_law_1353 (by omega) (by omega) (fun v786 _ hv786 => ?_)
                                                                                      refine zg_sld X hX hbl hbA (by omega) (by omega) dL_law_1354 (fun v787 ev787 => ?_)
                                                                                      refine zg_cVi (As := [.int v787]) (st := []) X hx0 rfl (by decide) rfl (t_X10_watch l d L1 kd1 κ _ hI1 x0 hx0 v787 ) mk_L_179 mc_X10_watch mz_X10 mi_X10_watch ml_X10_watch (na := 1) ⟨md_X10.1, md_X10.2, by decide +kernel⟩ rfl ⟨by decide, by decide⟩ (Nat.le_of_ble_eq_true rfl) dL_law_1355 (fun v788 s789 hq => ?_)
                                                                                      have h790 := hq
                                                                                      refine zg_pop X dL_law_1358 rfl ?_
                                                                                      refine zg_aload_n X 1 rfl dL_law_1359 ?_
                                                                                      refine zg_aload_n X 3 rfl dL_law_1360 ?_
                                                                                      refine zg_iload_n X 0 rfl dL_law_1361 ?_
                                                                                      refine zg_iconst X 1 dL_law_1362 (by decide) (fun v791 _ hv791 => ?_)
                                                                                      refine zg_iadd X dL_law_1363 (by omega) (by omega) (fun v792 _ hv792 => ?_)
                                                                                      refine zg_sld X hX hbl hbA (by omega) (by omega) dL_law_1364 (fun v793 ev793 => ?_)
                                                                                      refine zg_swap ?_
                                                                                      have X : zX d L2 kd2 A 4 p s m #[Value.ref b] c cL_law RL := X
                                                                                      refine zg_cVi (As := [.int v793]) (st := []) X hm0 rfl (by decide) rfl (t_X11_watch l d L2 kd2 κ _ hI2 m0 hm0 v793  hgN hgH hgE hgL) mk_L_182 mc_X11_watch mz_X11 mi_X11_watch ml_X11_watch (na := 1) ⟨md_X11.1, md_X11.2, by decide +kernel⟩ rfl ⟨by decide, by decide⟩ (Nat.le_of_ble_eq_true rfl) dL_law_1365 (fun v794 s795 hq => ?_)
                                                                                      obtain ⟨⟨gNs795, gHs795, gEs795, gLs795⟩, h796, g797⟩ := hq
                                                                                      have gKs795 := gK.same h796 hm0 g797 (by decide) hgK
                                                                                      refine zg_pop X dL_law_1368 rfl ?_
                                                                                      refine zg_goto X 1441 dL_law_1369 (by decide) ?_
                                                                                      refine zg_iinc X 6 (fun v798 => [(3, .int v798), (2, .ref m0), (1, .ref x0), (0, .ref b)]) 0 dL_law_1441 rfl (by decide) (by decide) (by omega) (by omega) (fun _ => rfl) (fun v798 _ hv798 => ?_)
                                                                                      refine zg_goto X 18 dL_law_1444 (by decide) ?_
                                                                                      refine zg_swap ?_
                                                                                      have X : zX d L1 kd1 A 4 p s m #[Value.ref b] c cL_law RL := X
                                                                                      refine zg_sub [0, 1, 2, 3] rfl ?_
                                                                                      exact ihLp _ _ _ v798 h790 h796 gNs795 gHs795 gEs795 gLs795 gKs795 (by omega) (by omega)
                                                                                    · skip
                                                                                      by_cases q799 : v8.toInt = 40
                                                                                      · refine zg_tabIn X 1372 40 dL_law_33 q799 (by decide) (by decide) rfl (by decide) ?_
                                                                                        refine zg_aload_n X 2 rfl dL_law_1372 ?_
                                                                                        refine zg_aload_n X 3 rfl dL_law_1373 ?_
                                                                                        refine zg_iload_n X 0 rfl dL_law_1374 ?_
                                                                                        refine zg_iconst X 1 dL_law_1375 (by decide) (fun v800 _ hv800 => ?_)
                                                                                        refine zg_iadd X dL_law_1376 (by omega) (by omega) (fun v801 _ hv801 => ?_)
                                                                                        refine zg_sld X hX hbl hbA (by omega) (by omega) dL_law_1377 (fun v802 ev802 => ?_)
                                                                                        refine zg_cVi (As := [.int v802]) (st := []) X hx0 rfl (by decide) rfl (t_X10_hold l d L1 kd1 κ _ hI1 x0 hx0 v802 ) mk_L_183 mc_X10_hold mz_X10 mi_X10_hold ml_X10_hold (na := 1) ⟨md_X10.1, md_X10.2, by decide +kernel⟩ rfl ⟨by decide, by decide⟩ (Nat.le_of_ble_eq_true rfl) dL_law_1378 (fun v803 s804 hq => ?_)
                                                                                        obtain ⟨hzh805, h805⟩ := hq
                                                                                        refine zg_aload_n X 1 rfl dL_law_1381 ?_
                                                                                        refine zg_aload_n X 3 rfl dL_law_1382 ?_
                                                                                        refine zg_iload_n X 0 rfl dL_law_1383 ?_
                                                                                        refine zg_iconst X 1 dL_law_1384 (by decide) (fun v806 _ hv806 => ?_)
                                                                                        refine zg_iadd X dL_law_1385 (by omega) (by omega) (fun v807 _ hv807 => ?_)
                                                                                        refine zg_sld X hX hbl hbA (by omega) (by omega) dL_law_1386 (fun v808 ev808 => ?_)
                                                                                        have tv808 : v808.toInt = v802.toInt := by rw [ev808, ev802, show v807 = v801 from Int32.toInt_inj.mp (by omega)]
                                                                                        refine zg_swap ?_
                                                                                        have X : zX d L2 kd2 A 4 p s m #[Value.ref b] c cL_law RL := X
                                                                                        refine zg_cVi (As := [.int v808]) (st := [.int v803]) X hm0 rfl (by decide) rfl (t_X11_hold l d L2 kd2 κ _ hI2 m0 hm0 v808  hgN hgH hgE hgL) mk_L_186 mc_X11_hold mz_X11 mi_X11_hold ml_X11_hold (na := 1) ⟨md_X11.1, md_X11.2, by decide +kernel⟩ rfl ⟨by decide, by decide⟩ (Nat.le_of_ble_eq_true rfl) dL_law_1387 (fun v809 s810 hq => ?_)
                                                                                        obtain ⟨⟨fs810_res, fs810_fact0, gNs810, gHs810, gEs810, gLs810⟩, h811, g812⟩ := hq
                                                                                        have gKs810 := gK.same h811 hm0 g812 (by decide) hgK
                                                                                        refine zg_icmp_eq X 1441 dL_law_1390 (by decide) (fun c813 => ?_) (fun c813 => ?_)
                                                                                        · skip
                                                                                          refine zg_iinc X 6 (fun v814 => [(3, .int v814), (2, .ref m0), (1, .ref x0), (0, .ref b)]) 0 dL_law_1441 rfl (by decide) (by decide) (by omega) (by omega) (fun _ => rfl) (fun v814 _ hv814 => ?_)
                                                                                          refine zg_goto X 18 dL_law_1444 (by decide) ?_
                                                                                          refine zg_swap ?_
                                                                                          have X : zX d L1 kd1 A 4 p s m #[Value.ref b] c cL_law RL := X
                                                                                          refine zg_sub [0, 1, 2, 3] rfl ?_
                                                                                          exact ihLp _ _ _ v814 h805 h811 gNs810 gHs810 gEs810 gLs810 gKs810 (by omega) (by omega)
                                                                                        · skip
                                                                                          refine zg_iconst X 0 dL_law_1393 (by decide) (fun v815 _ hv815 => ?_)
                                                                                          exfalso
                                                                                          omega
                                                                                      · skip
                                                                                        by_cases q816 : v8.toInt = 41
                                                                                        · refine zg_tabIn X 1395 41 dL_law_33 q816 (by decide) (by decide) rfl (by decide) ?_
                                                                                          refine zg_aload_n X 2 rfl dL_law_1395 ?_
                                                                                          refine zg_aload_n X 3 rfl dL_law_1396 ?_
                                                                                          refine zg_iload_n X 0 rfl dL_law_1397 ?_
                                                                                          refine zg_iconst X 1 dL_law_1398 (by decide) (fun v817 _ hv817 => ?_)
                                                                                          refine zg_iadd X dL_law_1399 (by omega) (by omega) (fun v818 _ hv818 => ?_)
                                                                                          refine zg_sld X hX hbl hbA (by omega) (by omega) dL_law_1400 (fun v819 ev819 => ?_)
                                                                                          refine zg_cVi (As := [.int v819]) (st := []) X hx0 rfl (by decide) rfl (t_X10_restore l d L1 kd1 κ _ hI1 x0 hx0 v819 ) mk_L_187 mc_X10_restore mz_X10 mi_X10_restore ml_X10_restore (na := 1) ⟨md_X10.1, md_X10.2, by decide +kernel⟩ rfl ⟨by decide, by decide⟩ (Nat.le_of_ble_eq_true rfl) dL_law_1401 (fun v820 s821 hq => ?_)
                                                                                          obtain ⟨hzh822, h822⟩ := hq
                                                                                          refine zg_pop X dL_law_1404 rfl ?_
                                                                                          refine zg_aload_n X 1 rfl dL_law_1405 ?_
                                                                                          refine zg_aload_n X 3 rfl dL_law_1406 ?_
                                                                                          refine zg_iload_n X 0 rfl dL_law_1407 ?_
                                                                                          refine zg_iconst X 1 dL_law_1408 (by decide) (fun v823 _ hv823 => ?_)
                                                                                          refine zg_iadd X dL_law_1409 (by omega) (by omega) (fun v824 _ hv824 => ?_)
                                                                                          refine zg_sld X hX hbl hbA (by omega) (by omega) dL_law_1410 (fun v825 ev825 => ?_)
                                                                                          refine zg_swap ?_
                                                                                          have X : zX d L2 kd2 A 4 p s m #[Value.ref b] c cL_law RL := X
                                                                                          refine zg_cVi (As := [.int v825]) (st := []) X hm0 rfl (by decide) rfl (t_X11_restore l d L2 kd2 κ _ hI2 m0 hm0 v825  hgN hgH hgE hgL) mk_L_190 mc_X11_restore mz_X11 mi_X11_restore ml_X11_restore (na := 1) ⟨md_X11.1, md_X11.2, by decide +kernel⟩ rfl ⟨by decide, by decide⟩ (Nat.le_of_ble_eq_true rfl) dL_law_1411 (fun v826 s827 hq => ?_)
                                                                                          obtain ⟨⟨fs827_res, gNs827, gHs827, gEs827, gLs827⟩, h828, g829⟩ := hq
                                                                                          have gKs827 := gK.same h828 hm0 g829 (by decide) hgK
                                                                                          refine zg_pop X dL_law_1414 rfl ?_
                                                                                          refine zg_goto X 1441 dL_law_1415 (by decide) ?_
                                                                                          refine zg_iinc X 6 (fun v830 => [(3, .int v830), (2, .ref m0), (1, .ref x0), (0, .ref b)]) 0 dL_law_1441 rfl (by decide) (by decide) (by omega) (by omega) (fun _ => rfl) (fun v830 _ hv830 => ?_)
                                                                                          refine zg_goto X 18 dL_law_1444 (by decide) ?_
                                                                                          refine zg_swap ?_
                                                                                          have X : zX d L1 kd1 A 4 p s m #[Value.ref b] c cL_law RL := X
                                                                                          refine zg_sub [0, 1, 2, 3] rfl ?_
                                                                                          exact ihLp _ _ _ v830 h822 h828 gNs827 gHs827 gEs827 gLs827 gKs827 (by omega) (by omega)
                                                                                        · skip
                                                                                          by_cases q831 : v8.toInt = 42
                                                                                          · refine zg_tabIn X 1418 42 dL_law_33 q831 (by decide) (by decide) rfl (by decide) ?_
                                                                                            refine zg_aload_n X 2 rfl dL_law_1418 ?_
                                                                                            refine zg_aload_n X 3 rfl dL_law_1419 ?_
                                                                                            refine zg_iload_n X 0 rfl dL_law_1420 ?_
                                                                                            refine zg_iconst X 1 dL_law_1421 (by decide) (fun v832 _ hv832 => ?_)
                                                                                            refine zg_iadd X dL_law_1422 (by omega) (by omega) (fun v833 _ hv833 => ?_)
                                                                                            refine zg_sld X hX hbl hbA (by omega) (by omega) dL_law_1423 (fun v834 ev834 => ?_)
                                                                                            refine zg_cVi (As := [.int v834]) (st := []) X hx0 rfl (by decide) rfl (t_X10_count l d L1 kd1 κ _ hI1 x0 hx0 v834 ) mk_L_191 mc_X10_count mz_X10 mi_X10_count ml_X10_count (na := 1) ⟨md_X10.1, md_X10.2, by decide +kernel⟩ rfl ⟨by decide, by decide⟩ (Nat.le_of_ble_eq_true rfl) dL_law_1424 (fun v835 s836 hq => ?_)
                                                                                            have h837 := hq
                                                                                            refine zg_pop X dL_law_1427 rfl ?_
                                                                                            refine zg_aload_n X 1 rfl dL_law_1428 ?_
                                                                                            refine zg_aload_n X 3 rfl dL_law_1429 ?_
                                                                                            refine zg_iload_n X 0 rfl dL_law_1430 ?_
                                                                                            refine zg_iconst X 1 dL_law_1431 (by decide) (fun v838 _ hv838 => ?_)
                                                                                            refine zg_iadd X dL_law_1432 (by omega) (by omega) (fun v839 _ hv839 => ?_)
                                                                                            refine zg_sld X hX hbl hbA (by omega) (by omega) dL_law_1433 (fun v840 ev840 => ?_)
                                                                                            refine zg_swap ?_
                                                                                            have X : zX d L2 kd2 A 4 p s m #[Value.ref b] c cL_law RL := X
                                                                                            refine zg_cVi (As := [.int v840]) (st := []) X hm0 rfl (by decide) rfl (t_X11_count l d L2 kd2 κ _ hI2 m0 hm0 v840  hgN hgH hgE hgL) mk_L_194 mc_X11_count mz_X11 mi_X11_count ml_X11_count (na := 1) ⟨md_X11.1, md_X11.2, by decide +kernel⟩ rfl ⟨by decide, by decide⟩ (Nat.le_of_ble_eq_true rfl) dL_law_1434 (fun v841 s842 hq => ?_)
                                                                                            obtain ⟨⟨gNs842, gHs842, gEs842, gLs842⟩, h843, g844⟩ := hq
                                                                                            have gKs842 := gK.same h843 hm0 g844 (by decide) hgK
                                                                                            refine zg_pop X dL_law_1437 rfl ?_
                                                                                            refine zg_goto X 1441 dL_law_1438 (by decide) ?_
                                                                                            refine zg_iinc X 6 (fun v845 => [(3, .int v845), (2, .ref m0), (1, .ref x0), (0, .ref b)]) 0 dL_law_1441 rfl (by decide) (by decide) (by omega) (by omega) (fun _ => rfl) (fun v845 _ hv845 => ?_)
                                                                                            refine zg_goto X 18 dL_law_1444 (by decide) ?_
                                                                                            refine zg_swap ?_
                                                                                            have X : zX d L1 kd1 A 4 p s m #[Value.ref b] c cL_law RL := X
                                                                                            refine zg_sub [0, 1, 2, 3] rfl ?_
                                                                                            exact ihLp _ _ _ v845 h837 h843 gNs842 gHs842 gEs842 gLs842 gKs842 (by omega) (by omega)
                                                                                          · skip
                                                                                            refine zg_tabOut X 1441 dL_law_33 (by omega) (by decide) ?_
                                                                                            refine zg_iinc X 6 (fun v846 => [(3, .int v846), (2, .ref m0), (1, .ref x0), (0, .ref b)]) 0 dL_law_1441 rfl (by decide) (by decide) (by omega) (by omega) (fun _ => rfl) (fun v846 _ hv846 => ?_)
                                                                                            refine zg_goto X 18 dL_law_1444 (by decide) ?_
                                                                                            refine zg_sub [0, 1, 2, 3] rfl ?_
                                                                                            exact ihLp _ _ _ v846 hI1 hI2 hgN hgH hgE hgL hgK (by omega) (by omega)
