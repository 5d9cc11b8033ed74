set_option maxHeartbeats 40000000 in
set_option maxRecDepth 100000 in
theorem zl_loop {p : Program} {e : Env} {s : State} {m : MethodId} {below : List Frame} {meth : Method} {c : Code} (l : Launch) (d : zD2) {A : Nat → Prop} {Q : State → Prop} {b N : Nat} {xs : Nat → Int32} (hL : N ≤ 3072) (X : zX d [] (fun _ => 0) A 4 p s m #[Value.ref b] c cL_law RL) (hX : va_X b N xs s s.heap) (hbl : b < s.heap.size) (hbA : ¬ A b) (L1 L2 : List Nat) (kd1 kd2 : Nat → Nat) (x0 m0 : Nat) (hx0 : zT L1 kd1 x0 10) (hm0 : zT L2 kd2 m0 11)
    (fin : ∀ {rs : va_W} {L : List Nat} {kd : Nat → Nat} {σ : zS} (pc : Nat) (lv : List (Nat × Value)), decode cL_law pc = .ok (.ireturn, 1) → zGc rs 276 18999 d L kd A 4 p l e room_1 s m #[Value.ref b] below meth c Q σ pc lv [.int 1]) :
    ∀ (n : Nat) (κ : Int) (σ1 σ2 : zS) (x : Int32), zI κ 0 L1 kd1 σ1 → zJ κ L2 kd2 σ2 → zRM κ L1 kd1 L2 kd2 x0 m0 σ1 σ2 → gN m0 σ2 → gH m0 σ2 → gE m0 σ2 → gL m0 σ2 → gK m0 σ2 → 0 ≤ x.toInt ∧ x.toInt ≤ 3072 → 3072 - x.toInt < (n : Int) → zGc (zW d.2.2 L2 kd2 σ2) 276 18999 d L1 kd1 A 4 p l e room_1 s m #[Value.ref b] below meth c Q σ1 18 [(3, .int x), (2, .ref m0), (1, .ref x0), (0, .ref b)] [] := by
  intro n
  induction n with
  | zero => intro κ σ1 σ2 x hI1 hI2 hM hgN hgH hgE hgL hgK hx hm; exact absurd hm (by omega)
  | succ n ihLp =>
    intro κ σ1 σ2 x hI1 hI2 hM hgN hgH hgE hgL hgK hx hm
    have X : zX d L1 kd1 A 4 p s m #[Value.ref b] c cL_law RL := X
    refine zg_iload_n X 0 rfl dL_law_18 ?_
    refine zg_aload_n X 3 rfl dL_law_19 ?_
    refine zg_slenX X hX hbl hbA hL dL_law_20 (fun v1 hv1 => ?_)
    refine zg_bipush X 6 dL_law_21 (by decide) (fun v2 _ hv2 => ?_)
    refine zg_isub X dL_law_23 (by omega) (by omega) (fun v3 ev3 hv3 => ?_)
    refine zg_icmp_gt X 1447 dL_law_24 (by decide) (fun c4 => ?_) (fun c4 => ?_)
    · skip
      refine zg_iconst X 1 dL_law_1447 (by decide) (fun v5 _ hv5 => ?_)
      have e1 : v5 = 1 := Int32.toInt_inj.mp (by rw [hv5]; rfl)
      subst e1
      exact fin _ _ dL_law_1448
    · skip
      refine zg_aload_n X 3 rfl dL_law_27 ?_
      refine zg_iload_n X 0 rfl dL_law_28 ?_
      refine zg_sld X hX hbl hbA (by omega) (by omega) dL_law_29 (fun v6 ev6 => ?_)
      refine zg_bipush X 63 dL_law_30 (by decide) (fun v7 _ hv7 => ?_)
      refine zg_iandW X dL_law_32 (fun v8 ev8 => ?_)
      by_cases q9 : v8.toInt = 0
      · refine zg_tabIn X 220 0 dL_law_33 q9 (by decide) (by decide) rfl (by decide) ?_
        refine zg_aload_n X 2 rfl dL_law_220 ?_
        refine zg_aload_n X 3 rfl dL_law_221 ?_
        refine zg_iload_n X 0 rfl dL_law_222 ?_
        refine zg_iconst X 1 dL_law_223 (by decide) (fun v10 _ hv10 => ?_)
        refine zg_iadd X dL_law_224 (by omega) (by omega) (fun v11 ev11 hv11 => ?_)
        refine zg_sld X hX hbl hbA (by omega) (by omega) dL_law_225 (fun v12 ev12 => ?_)
        refine zg_aload_n X 3 rfl dL_law_226 ?_
        refine zg_iload_n X 0 rfl dL_law_227 ?_
        refine zg_iconst X 2 dL_law_228 (by decide) (fun v13 _ hv13 => ?_)
        refine zg_iadd X dL_law_229 (by omega) (by omega) (fun v14 ev14 hv14 => ?_)
        refine zg_sld X hX hbl hbA (by omega) (by omega) dL_law_230 (fun v15 ev15 => ?_)
        refine zg_aload_n X 3 rfl dL_law_231 ?_
        refine zg_iload_n X 0 rfl dL_law_232 ?_
        refine zg_iconst X 3 dL_law_233 (by decide) (fun v16 _ hv16 => ?_)
        refine zg_iadd X dL_law_234 (by omega) (by omega) (fun v17 ev17 hv17 => ?_)
        refine zg_sld X hX hbl hbA (by omega) (by omega) dL_law_235 (fun v18 ev18 => ?_)
        refine zg_aload_n X 3 rfl dL_law_236 ?_
        refine zg_iload_n X 0 rfl dL_law_237 ?_
        refine zg_iconst X 4 dL_law_238 (by decide) (fun v19 _ hv19 => ?_)
        refine zg_iadd X dL_law_239 (by omega) (by omega) (fun v20 ev20 hv20 => ?_)
        refine zg_sld X hX hbl hbA (by omega) (by omega) dL_law_240 (fun v21 ev21 => ?_)
        refine zg_aload_n X 3 rfl dL_law_241 ?_
        refine zg_iload_n X 0 rfl dL_law_242 ?_
        refine zg_iconst X 5 dL_law_243 (by decide) (fun v22 _ hv22 => ?_)
        refine zg_iadd X dL_law_244 (by omega) (by omega) (fun v23 ev23 hv23 => ?_)
        refine zg_sld X hX hbl hbA (by omega) (by omega) dL_law_245 (fun v24 ev24 => ?_)
        refine zg_cVi (As := [.int v12, .int v15, .int v18, .int v21, .int v24]) (st := []) X hx0 rfl (by decide) rfl (t_X10_feed l d L1 kd1 κ _ hI1 x0 hx0 v12 v15 v18 v21 v24 ) mk_L_13 mc_X10_feed mz_X10 mi_X10_feed ml_X10_feed (na := 5) ⟨md_X10.1, md_X10.2, by decide +kernel⟩ rfl ⟨by decide, by decide⟩ (Nat.le_of_ble_eq_true rfl) dL_law_246 (fun v25 s26 hq => ?_)
        obtain ⟨hFs26, hSs26, hq⟩ := hq
        obtain ⟨ks26, h27, fxs26⟩ : ∃ k : Int, zI k 0 L1 kd1 s26 ∧ ((v25.toInt = -1 ∧ 2000 < κ + 20 ∧ k = κ) ∨ (v25.toInt = κ + 20 ∧ κ + 20 ≤ 2000 ∧ k = κ + 20)) := by
          rcases hq with ⟨q1, q2, q3⟩ | ⟨q1, q2, q3⟩
          · exact ⟨_, q3, Or.inl ⟨q1, q2, rfl⟩⟩
          · exact ⟨_, q3, Or.inr ⟨q1, q2, rfl⟩⟩
        refine zg_pop X dL_law_249 rfl ?_
        refine zg_aload_n X 1 rfl dL_law_250 ?_
        refine zg_aload_n X 3 rfl dL_law_251 ?_
        refine zg_iload_n X 0 rfl dL_law_252 ?_
        refine zg_iconst X 1 dL_law_253 (by decide) (fun v28 _ hv28 => ?_)
        refine zg_iadd X dL_law_254 (by omega) (by omega) (fun v29 ev29 hv29 => ?_)
        refine zg_sld X hX hbl hbA (by omega) (by omega) dL_law_255 (fun v30 ev30 => ?_)
        have wv30 : v30 = v12 := by rw [ev30, ev12, show v29 = v11 from Int32.toInt_inj.mp (by omega)]
        refine zg_aload_n X 3 rfl dL_law_256 ?_
        refine zg_iload_n X 0 rfl dL_law_257 ?_
        refine zg_iconst X 2 dL_law_258 (by decide) (fun v31 _ hv31 => ?_)
        refine zg_iadd X dL_law_259 (by omega) (by omega) (fun v32 ev32 hv32 => ?_)
        refine zg_sld X hX hbl hbA (by omega) (by omega) dL_law_260 (fun v33 ev33 => ?_)
        have wv33 : v33 = v15 := by rw [ev33, ev15, show v32 = v14 from Int32.toInt_inj.mp (by omega)]
        refine zg_aload_n X 3 rfl dL_law_261 ?_
        refine zg_iload_n X 0 rfl dL_law_262 ?_
        refine zg_iconst X 3 dL_law_263 (by decide) (fun v34 _ hv34 => ?_)
        refine zg_iadd X dL_law_264 (by omega) (by omega) (fun v35 ev35 hv35 => ?_)
        refine zg_sld X hX hbl hbA (by omega) (by omega) dL_law_265 (fun v36 ev36 => ?_)
        have wv36 : v36 = v18 := by rw [ev36, ev18, show v35 = v17 from Int32.toInt_inj.mp (by omega)]
        refine zg_aload_n X 3 rfl dL_law_266 ?_
        refine zg_iload_n X 0 rfl dL_law_267 ?_
        refine zg_iconst X 4 dL_law_268 (by decide) (fun v37 _ hv37 => ?_)
        refine zg_iadd X dL_law_269 (by omega) (by omega) (fun v38 ev38 hv38 => ?_)
        refine zg_sld X hX hbl hbA (by omega) (by omega) dL_law_270 (fun v39 ev39 => ?_)
        have wv39 : v39 = v21 := by rw [ev39, ev21, show v38 = v20 from Int32.toInt_inj.mp (by omega)]
        refine zg_aload_n X 3 rfl dL_law_271 ?_
        refine zg_iload_n X 0 rfl dL_law_272 ?_
        refine zg_iconst X 5 dL_law_273 (by decide) (fun v40 _ hv40 => ?_)
        refine zg_iadd X dL_law_274 (by omega) (by omega) (fun v41 ev41 hv41 => ?_)
        refine zg_sld X hX hbl hbA (by omega) (by omega) dL_law_275 (fun v42 ev42 => ?_)
        have wv42 : v42 = v24 := by rw [ev42, ev24, show v41 = v23 from Int32.toInt_inj.mp (by omega)]
        refine zg_swap ?_
        have X : zX d L2 kd2 A 4 p s m #[Value.ref b] c cL_law RL := X
        refine zg_cVi (As := [.int v30, .int v33, .int v36, .int v39, .int v42]) (st := []) X hm0 rfl (by decide) rfl (t_X11_feed l d L2 kd2 κ _ hI2 m0 hm0 v30 v33 v36 v39 v42  hgN hgH hgE hgL) mk_L_17 mc_X11_feed mz_X11 mi_X11_feed ml_X11_feed (na := 5) ⟨md_X11.1, md_X11.2, by decide +kernel⟩ rfl ⟨by decide, by decide⟩ (Nat.le_of_ble_eq_true rfl) dL_law_276 (fun v43 s44 hq => ?_)
        obtain ⟨hFs44, hq⟩ := hq
        obtain ⟨ks44, ⟨fs44_fact0, gNs44, gHs44, gEs44, gLs44⟩, h45, g46⟩ := hq
        have gKs44 := gK.same h45 hm0 g46 (by decide) hgK
        rw [wv30, wv33, wv36, wv39, wv42] at hFs44
        have hMs44 := zRM.feed hM hI1 hI2 hx0 hm0 hFs26 hFs44 hSs26 g46 (k := ks26) (by omega)
        refine zg_pop X dL_law_279 rfl ?_
        refine zg_goto X 1441 dL_law_280 (by decide) ?_
        refine zg_iinc X 6 (fun v47 => [(3, .int v47), (2, .ref m0), (1, .ref x0), (0, .ref b)]) 0 dL_law_1441 rfl (by decide) (by decide) (by omega) (by omega) (fun _ => rfl) (fun v47 ev47 hv47 => ?_)
        refine zg_goto X 18 dL_law_1444 (by decide) ?_
        refine zg_swap ?_
        have X : zX d L1 kd1 A 4 p s m #[Value.ref b] c cL_law RL := X
        refine zg_sub [0, 1, 2, 3] rfl ?_
        exact ihLp _ _ _ v47 h27 (zj_eq (by omega : ks44 = ks26) h45) hMs44 gNs44 gHs44 gEs44 gLs44 gKs44 (by omega) (by omega)
      · skip
        by_cases q48 : v8.toInt = 1
        · refine zg_tabIn X 283 1 dL_law_33 q48 (by decide) (by decide) rfl (by decide) ?_
          refine zg_aload_n X 2 rfl dL_law_283 ?_
          refine zg_aload_n X 3 rfl dL_law_284 ?_
          refine zg_iload_n X 0 rfl dL_law_285 ?_
          refine zg_iconst X 1 dL_law_286 (by decide) (fun v49 _ hv49 => ?_)
          refine zg_iadd X dL_law_287 (by omega) (by omega) (fun v50 ev50 hv50 => ?_)
          refine zg_sld X hX hbl hbA (by omega) (by omega) dL_law_288 (fun v51 ev51 => ?_)
          refine zg_cVi (As := [.int v51]) (st := []) X hx0 rfl (by decide) rfl (t_X10_back l d L1 kd1 κ _ hI1 x0 hx0 v51 ) mk_L_18 mc_X10_back mz_X10 mi_X10_back ml_X10_back (na := 1) ⟨md_X10.1, md_X10.2, by decide +kernel⟩ rfl ⟨by decide, by decide⟩ (Nat.le_of_ble_eq_true rfl) dL_law_289 (fun v52 s53 hq => ?_)
          obtain ⟨hFs53, hSs53, hq⟩ := hq
          obtain ⟨ks53, h54, fxs53⟩ : ∃ k : Int, zI k 0 L1 kd1 s53 ∧ ((v52.toInt = -1 ∧ (v51.toInt < 0 ∨ κ < v51.toInt) ∧ k = κ) ∨ (v52.toInt = κ - v51.toInt ∧ 0 ≤ v51.toInt ∧ v51.toInt ≤ κ ∧ k = κ - v51.toInt)) := by
            rcases hq with ⟨q1, q2, q3⟩ | ⟨q1, q2, q3, q4⟩
            · exact ⟨_, q3, Or.inl ⟨q1, q2, rfl⟩⟩
            · exact ⟨_, q4, Or.inr ⟨q1, q2, q3, rfl⟩⟩
          have hMs53 := zRM.le (show ks53 ≤ κ by omega) (zRM.c0 hM hx0 hI1 hSs53 (by decide))
          refine zg_pop X dL_law_292 rfl ?_
          refine zg_aload_n X 1 rfl dL_law_293 ?_
          refine zg_aload_n X 3 rfl dL_law_294 ?_
          refine zg_iload_n X 0 rfl dL_law_295 ?_
          refine zg_iconst X 1 dL_law_296 (by decide) (fun v55 _ hv55 => ?_)
          refine zg_iadd X dL_law_297 (by omega) (by omega) (fun v56 ev56 hv56 => ?_)
          refine zg_sld X hX hbl hbA (by omega) (by omega) dL_law_298 (fun v57 ev57 => ?_)
          have tv57 : v57.toInt = v51.toInt := by rw [ev57, ev51, show v56 = v50 from Int32.toInt_inj.mp (by omega)]
          refine zg_swap ?_
          have X : zX d L2 kd2 A 4 p s m #[Value.ref b] c cL_law RL := X
          refine zg_cVi (As := [.int v57]) (st := []) X hm0 rfl (by decide) rfl (t_X11_back l d L2 kd2 κ _ hI2 m0 hm0 v57  hgN hgH hgE hgL) mk_L_22 mc_X11_back mz_X11 mi_X11_back ml_X11_back (na := 1) ⟨md_X11.1, md_X11.2, by decide +kernel⟩ rfl ⟨by decide, by decide⟩ (Nat.le_of_ble_eq_true rfl) dL_law_299 (fun v58 s59 hq => ?_)
          obtain ⟨hFs59, hq⟩ := hq
          obtain ⟨ks59, ⟨fs59_fact0, gNs59, gHs59, gEs59, gLs59⟩, h60, g61⟩ := hq
          have gKs59 := gK.same h60 hm0 g61 (by decide) hgK
          have hMs59 := zRM.m hMs53 hI2 hm0 g61 (by decide) (by decide)
          refine zg_pop X dL_law_302 rfl ?_
          refine zg_goto X 1441 dL_law_303 (by decide) ?_
          refine zg_iinc X 6 (fun v62 => [(3, .int v62), (2, .ref m0), (1, .ref x0), (0, .ref b)]) 0 dL_law_1441 rfl (by decide) (by decide) (by omega) (by omega) (fun _ => rfl) (fun v62 ev62 hv62 => ?_)
          refine zg_goto X 18 dL_law_1444 (by decide) ?_
          refine zg_swap ?_
          have X : zX d L1 kd1 A 4 p s m #[Value.ref b] c cL_law RL := X
          refine zg_sub [0, 1, 2, 3] rfl ?_
          exact ihLp _ _ _ v62 h54 (zj_eq (by omega : ks59 = ks53) h60) hMs59 gNs59 gHs59 gEs59 gLs59 gKs59 (by omega) (by omega)
        · skip
          by_cases q63 : v8.toInt = 2
          · refine zg_tabIn X 306 2 dL_law_33 q63 (by decide) (by decide) rfl (by decide) ?_
            refine zg_aload_n X 2 rfl dL_law_306 ?_
            refine zg_cVi (As := []) (st := []) X hx0 rfl (by decide) rfl (t_X10_read l d L1 kd1 κ _ hI1 x0 hx0  ) mk_L_23 mc_X10_read mz_X10 mi_X10_read ml_X10_read (na := 0) ⟨md_X10.1, md_X10.2, by decide +kernel⟩ rfl ⟨by decide, by decide⟩ (Nat.le_of_ble_eq_true rfl) dL_law_307 (fun v64 s65 hq => ?_)
            obtain ⟨hFs65, hSs65, hq⟩ := hq
            have h66 := hq
            refine zg_pop X dL_law_310 rfl ?_
            refine zg_aload_n X 1 rfl dL_law_311 ?_
            refine zg_swap ?_
            have X : zX d L2 kd2 A 4 p s m #[Value.ref b] c cL_law RL := X
            refine zg_cVi (As := []) (st := []) X hm0 rfl (by decide) rfl (t_X11_read l d L2 kd2 κ _ hI2 m0 hm0   hgN hgH hgE hgL hgK) mk_L_27 mc_X11_read mz_X11 mi_X11_read ml_X11_read (na := 0) ⟨md_X11.1, md_X11.2, by decide +kernel⟩ rfl ⟨by decide, by decide⟩ (Nat.le_of_ble_eq_true rfl) dL_law_312 (fun v67 s68 hq => ?_)
            obtain ⟨hFs68, hq⟩ := hq
            obtain ⟨⟨gNs68, gHs68, gEs68, gLs68, gKs68⟩, h69, g70⟩ := hq
            obtain ⟨hvs68, hMs68⟩ := zRM.read hM hI1 hI2 hx0 hm0 hFs65 hFs68 hSs65 g70
            refine zg_pop X dL_law_315 rfl ?_
            refine zg_goto X 1441 dL_law_316 (by decide) ?_
            refine zg_iinc X 6 (fun v71 => [(3, .int v71), (2, .ref m0), (1, .ref x0), (0, .ref b)]) 0 dL_law_1441 rfl (by decide) (by decide) (by omega) (by omega) (fun _ => rfl) (fun v71 ev71 hv71 => ?_)
            refine zg_goto X 18 dL_law_1444 (by decide) ?_
            refine zg_swap ?_
            have X : zX d L1 kd1 A 4 p s m #[Value.ref b] c cL_law RL := X
            refine zg_sub [0, 1, 2, 3] rfl ?_
            exact ihLp _ _ _ v71 h66 h69 hMs68 gNs68 gHs68 gEs68 gLs68 gKs68 (by omega) (by omega)
          · skip
            by_cases q72 : v8.toInt = 3
            · refine zg_tabIn X 319 3 dL_law_33 q72 (by decide) (by decide) rfl (by decide) ?_
              refine zg_aload_n X 2 rfl dL_law_319 ?_
              refine zg_cVi (As := []) (st := []) X hx0 rfl (by decide) rfl (t_X10_place l d L1 kd1 κ _ hI1 x0 hx0  ) mk_L_28 mc_X10_place mz_X10 mi_X10_place ml_X10_place (na := 0) ⟨md_X10.1, md_X10.2, by decide +kernel⟩ rfl ⟨by decide, by decide⟩ (Nat.le_of_ble_eq_true rfl) dL_law_320 (fun v73 s74 hq => ?_)
              obtain ⟨hFs74, hSs74, hq⟩ := hq
              have h75 := hq
              have hMs74 := zRM.c0 hM hx0 hI1 hSs74 (by decide)
              refine zg_pop X dL_law_323 rfl ?_
              refine zg_aload_n X 1 rfl dL_law_324 ?_
              refine zg_swap ?_
              have X : zX d L2 kd2 A 4 p s m #[Value.ref b] c cL_law RL := X
              refine zg_cVi (As := []) (st := []) X hm0 rfl (by decide) rfl (t_X11_place l d L2 kd2 κ _ hI2 m0 hm0   ) mk_L_31 mc_X11_place mz_X11 mi_X11_place ml_X11_place (na := 0) ⟨md_X11.1, md_X11.2, by decide +kernel⟩ rfl ⟨by decide, by decide⟩ (Nat.le_of_ble_eq_true rfl) dL_law_325 (fun v76 s77 hq => ?_)
              obtain ⟨hFs77, rfl⟩ := hq
              refine zg_pop X dL_law_328 rfl ?_
              refine zg_goto X 1441 dL_law_329 (by decide) ?_
              refine zg_iinc X 6 (fun v79 => [(3, .int v79), (2, .ref m0), (1, .ref x0), (0, .ref b)]) 0 dL_law_1441 rfl (by decide) (by decide) (by omega) (by omega) (fun _ => rfl) (fun v79 ev79 hv79 => ?_)
              refine zg_goto X 18 dL_law_1444 (by decide) ?_
              refine zg_swap ?_
              have X : zX d L1 kd1 A 4 p s m #[Value.ref b] c cL_law RL := X
              refine zg_sub [0, 1, 2, 3] rfl ?_
              exact ihLp _ _ _ v79 h75 hI2 hMs74 hgN hgH hgE hgL hgK (by omega) (by omega)
            · skip
              by_cases q80 : v8.toInt = 4
              · refine zg_tabIn X 332 4 dL_law_33 q80 (by decide) (by decide) rfl (by decide) ?_
                refine zg_aload_n X 2 rfl dL_law_332 ?_
                refine zg_aload_n X 3 rfl dL_law_333 ?_
                refine zg_iload_n X 0 rfl dL_law_334 ?_
                refine zg_iconst X 1 dL_law_335 (by decide) (fun v81 _ hv81 => ?_)
                refine zg_iadd X dL_law_336 (by omega) (by omega) (fun v82 ev82 hv82 => ?_)
                refine zg_sld X hX hbl hbA (by omega) (by omega) dL_law_337 (fun v83 ev83 => ?_)
                refine zg_aload_n X 3 rfl dL_law_338 ?_
                refine zg_iload_n X 0 rfl dL_law_339 ?_
                refine zg_iconst X 2 dL_law_340 (by decide) (fun v84 _ hv84 => ?_)
                refine zg_iadd X dL_law_341 (by omega) (by omega) (fun v85 ev85 hv85 => ?_)
                refine zg_sld X hX hbl hbA (by omega) (by omega) dL_law_342 (fun v86 ev86 => ?_)
                refine zg_cVi (As := [.int v83, .int v86]) (st := []) X hx0 rfl (by decide) rfl (t_X10_spot l d L1 kd1 κ _ hI1 x0 hx0 v83 v86 ) mk_L_32 mc_X10_spot mz_X10 mi_X10_spot ml_X10_spot (na := 2) ⟨md_X10.1, md_X10.2, by decide +kernel⟩ rfl ⟨by decide, by decide⟩ (Nat.le_of_ble_eq_true rfl) dL_law_343 (fun v87 s88 hq => ?_)
                obtain ⟨hFs88, hSs88, hq⟩ := hq
                have h89 := hq
                have hMs88 := zRM.c hM hx0 hI1 hSs88 (zRy.of (rz_X10_spot zRz.rf) hFs88) (by decide) (by decide)
                refine zg_pop X dL_law_346 rfl ?_
                refine zg_aload_n X 1 rfl dL_law_347 ?_
                refine zg_aload_n X 3 rfl dL_law_348 ?_
                refine zg_iload_n X 0 rfl dL_law_349 ?_
                refine zg_iconst X 1 dL_law_350 (by decide) (fun v90 _ hv90 => ?_)
                refine zg_iadd X dL_law_351 (by omega) (by omega) (fun v91 ev91 hv91 => ?_)
                refine zg_sld X hX hbl hbA (by omega) (by omega) dL_law_352 (fun v92 ev92 => ?_)
                refine zg_aload_n X 3 rfl dL_law_353 ?_
                refine zg_iload_n X 0 rfl dL_law_354 ?_
                refine zg_iconst X 2 dL_law_355 (by decide) (fun v93 _ hv93 => ?_)
                refine zg_iadd X dL_law_356 (by omega) (by omega) (fun v94 ev94 hv94 => ?_)
                refine zg_sld X hX hbl hbA (by omega) (by omega) dL_law_357 (fun v95 ev95 => ?_)
                refine zg_swap ?_
                have X : zX d L2 kd2 A 4 p s m #[Value.ref b] c cL_law RL := X
                refine zg_cVi (As := [.int v92, .int v95]) (st := []) X hm0 rfl (by decide) rfl (t_X11_spot l d L2 kd2 κ _ hI2 m0 hm0 v92 v95  hgN hgH hgE hgL) mk_L_36 mc_X11_spot mz_X11 mi_X11_spot ml_X11_spot (na := 2) ⟨md_X11.1, md_X11.2, by decide +kernel⟩ rfl ⟨by decide, by decide⟩ (Nat.le_of_ble_eq_true rfl) dL_law_358 (fun v96 s97 hq => ?_)
                obtain ⟨hFs97, hq⟩ := hq
                obtain ⟨⟨gNs97, gHs97, gEs97, gLs97⟩, h98, g99⟩ := hq
                have gKs97 := gK.same h98 hm0 g99 (by decide) hgK
                have hMs97 := zRM.m hMs88 hI2 hm0 g99 (by decide) (by decide)
                refine zg_pop X dL_law_361 rfl ?_
                refine zg_goto X 1441 dL_law_362 (by decide) ?_
                refine zg_iinc X 6 (fun v100 => [(3, .int v100), (2, .ref m0), (1, .ref x0), (0, .ref b)]) 0 dL_law_1441 rfl (by decide) (by decide) (by omega) (by omega) (fun _ => rfl) (fun v100 ev100 hv100 => ?_)
                refine zg_goto X 18 dL_law_1444 (by decide) ?_
                refine zg_swap ?_
                have X : zX d L1 kd1 A 4 p s m #[Value.ref b] c cL_law RL := X
                refine zg_sub [0, 1, 2, 3] rfl ?_
                exact ihLp _ _ _ v100 h89 h98 hMs97 gNs97 gHs97 gEs97 gLs97 gKs97 (by omega) (by omega)
              · skip
                by_cases q101 : v8.toInt = 5
                · refine zg_tabIn X 365 5 dL_law_33 q101 (by decide) (by decide) rfl (by decide) ?_
                  refine zg_aload_n X 2 rfl dL_law_365 ?_
                  refine zg_aload_n X 3 rfl dL_law_366 ?_
                  refine zg_iload_n X 0 rfl dL_law_367 ?_
                  refine zg_iconst X 1 dL_law_368 (by decide) (fun v102 _ hv102 => ?_)
                  refine zg_iadd X dL_law_369 (by omega) (by omega) (fun v103 ev103 hv103 => ?_)
                  refine zg_sld X hX hbl hbA (by omega) (by omega) dL_law_370 (fun v104 ev104 => ?_)
                  refine zg_aload_n X 3 rfl dL_law_371 ?_
                  refine zg_iload_n X 0 rfl dL_law_372 ?_
                  refine zg_iconst X 2 dL_law_373 (by decide) (fun v105 _ hv105 => ?_)
                  refine zg_iadd X dL_law_374 (by omega) (by omega) (fun v106 ev106 hv106 => ?_)
                  refine zg_sld X hX hbl hbA (by omega) (by omega) dL_law_375 (fun v107 ev107 => ?_)
                  refine zg_cVi (As := [.int v104, .int v107]) (st := []) X hx0 rfl (by decide) rfl (t_X10_claim l d L1 kd1 κ _ hI1 x0 hx0 v104 v107 ) mk_L_37 mc_X10_claim mz_X10 mi_X10_claim ml_X10_claim (na := 2) ⟨md_X10.1, md_X10.2, by decide +kernel⟩ rfl ⟨by decide, by decide⟩ (Nat.le_of_ble_eq_true rfl) dL_law_376 (fun v108 s109 hq => ?_)
                  obtain ⟨hFs109, hSs109, hq⟩ := hq
                  have h110 := hq
                  have hMs109 := zRM.c hM hx0 hI1 hSs109 (zRy.of (rz_X10_claim zRz.rf) hFs109) (by decide) (by decide)
                  refine zg_pop X dL_law_379 rfl ?_
                  refine zg_aload_n X 1 rfl dL_law_380 ?_
                  refine zg_aload_n X 3 rfl dL_law_381 ?_
                  refine zg_iload_n X 0 rfl dL_law_382 ?_
                  refine zg_iconst X 1 dL_law_383 (by decide) (fun v111 _ hv111 => ?_)
                  refine zg_iadd X dL_law_384 (by omega) (by omega) (fun v112 ev112 hv112 => ?_)
                  refine zg_sld X hX hbl hbA (by omega) (by omega) dL_law_385 (fun v113 ev113 => ?_)
                  refine zg_aload_n X 3 rfl dL_law_386 ?_
                  refine zg_iload_n X 0 rfl dL_law_387 ?_
                  refine zg_iconst X 2 dL_law_388 (by decide) (fun v114 _ hv114 => ?_)
                  refine zg_iadd X dL_law_389 (by omega) (by omega) (fun v115 ev115 hv115 => ?_)
                  refine zg_sld X hX hbl hbA (by omega) (by omega) dL_law_390 (fun v116 ev116 => ?_)
                  refine zg_swap ?_
                  have X : zX d L2 kd2 A 4 p s m #[Value.ref b] c cL_law RL := X
                  refine zg_cVi (As := [.int v113, .int v116]) (st := []) X hm0 rfl (by decide) rfl (t_X11_claim l d L2 kd2 κ _ hI2 m0 hm0 v113 v116  hgN hgH hgE hgL) mk_L_40 mc_X11_claim mz_X11 mi_X11_claim ml_X11_claim (na := 2) ⟨md_X11.1, md_X11.2, by decide +kernel⟩ rfl ⟨by decide, by decide⟩ (Nat.le_of_ble_eq_true rfl) dL_law_391 (fun v117 s118 hq => ?_)
                  obtain ⟨hFs118, hq⟩ := hq
                  obtain ⟨⟨gNs118, gHs118, gEs118, gLs118⟩, h119, g120⟩ := hq
                  have gKs118 := gK.same h119 hm0 g120 (by decide) hgK
                  have hMs118 := zRM.m hMs109 hI2 hm0 g120 (by decide) (by decide)
                  refine zg_pop X dL_law_394 rfl ?_
                  refine zg_goto X 1441 dL_law_395 (by decide) ?_
                  refine zg_iinc X 6 (fun v121 => [(3, .int v121), (2, .ref m0), (1, .ref x0), (0, .ref b)]) 0 dL_law_1441 rfl (by decide) (by decide) (by omega) (by omega) (fun _ => rfl) (fun v121 ev121 hv121 => ?_)
                  refine zg_goto X 18 dL_law_1444 (by decide) ?_
                  refine zg_swap ?_
                  have X : zX d L1 kd1 A 4 p s m #[Value.ref b] c cL_law RL := X
                  refine zg_sub [0, 1, 2, 3] rfl ?_
                  exact ihLp _ _ _ v121 h110 h119 hMs118 gNs118 gHs118 gEs118 gLs118 gKs118 (by omega) (by omega)
                · skip
                  by_cases q122 : v8.toInt = 6
                  · refine zg_tabIn X 398 6 dL_law_33 q122 (by decide) (by decide) rfl (by decide) ?_
                    refine zg_aload_n X 2 rfl dL_law_398 ?_
                    refine zg_aload_n X 3 rfl dL_law_399 ?_
                    refine zg_iload_n X 0 rfl dL_law_400 ?_
                    refine zg_iconst X 1 dL_law_401 (by decide) (fun v123 _ hv123 => ?_)
                    refine zg_iadd X dL_law_402 (by omega) (by omega) (fun v124 ev124 hv124 => ?_)
                    refine zg_sld X hX hbl hbA (by omega) (by omega) dL_law_403 (fun v125 ev125 => ?_)
                    refine zg_cVi (As := [.int v125]) (st := []) X hx0 rfl (by decide) rfl (t_X10_winner l d L1 kd1 κ _ hI1 x0 hx0 v125 ) mk_L_41 mc_X10_winner mz_X10 mi_X10_winner ml_X10_winner (na := 1) ⟨md_X10.1, md_X10.2, by decide +kernel⟩ rfl ⟨by decide, by decide⟩ (Nat.le_of_ble_eq_true rfl) dL_law_404 (fun v126 s127 hq => ?_)
                    obtain ⟨hFs127, hSs127, hq⟩ := hq
                    have h128 := hq
                    have hMs127 := zRM.c hM hx0 hI1 hSs127 (zRy.of (rz_X10_winner zRz.rf) hFs127) (by decide) (by decide)
                    refine zg_pop X dL_law_407 rfl ?_
                    refine zg_aload_n X 1 rfl dL_law_408 ?_
                    refine zg_aload_n X 3 rfl dL_law_409 ?_
                    refine zg_iload_n X 0 rfl dL_law_410 ?_
                    refine zg_iconst X 1 dL_law_411 (by decide) (fun v129 _ hv129 => ?_)
                    refine zg_iadd X dL_law_412 (by omega) (by omega) (fun v130 ev130 hv130 => ?_)
                    refine zg_sld X hX hbl hbA (by omega) (by omega) dL_law_413 (fun v131 ev131 => ?_)
                    refine zg_swap ?_
                    have X : zX d L2 kd2 A 4 p s m #[Value.ref b] c cL_law RL := X
                    refine zg_cVi (As := [.int v131]) (st := []) X hm0 rfl (by decide) rfl (t_X11_winner l d L2 kd2 κ _ hI2 m0 hm0 v131  hgN hgH hgE hgL) mk_L_44 mc_X11_winner mz_X11 mi_X11_winner ml_X11_winner (na := 1) ⟨md_X11.1, md_X11.2, by decide +kernel⟩ rfl ⟨by decide, by decide⟩ (Nat.le_of_ble_eq_true rfl) dL_law_414 (fun v132 s133 hq => ?_)
                    obtain ⟨hFs133, hq⟩ := hq
                    obtain ⟨⟨gNs133, gHs133, gEs133, gLs133⟩, h134, g135⟩ := hq
                    have gKs133 := gK.same h134 hm0 g135 (by decide) hgK
                    have hMs133 := zRM.m hMs127 hI2 hm0 g135 (by decide) (by decide)
                    refine zg_pop X dL_law_417 rfl ?_
                    refine zg_goto X 1441 dL_law_418 (by decide) ?_
                    refine zg_iinc X 6 (fun v136 => [(3, .int v136), (2, .ref m0), (1, .ref x0), (0, .ref b)]) 0 dL_law_1441 rfl (by decide) (by decide) (by omega) (by omega) (fun _ => rfl) (fun v136 ev136 hv136 => ?_)
                    refine zg_goto X 18 dL_law_1444 (by decide) ?_
                    refine zg_swap ?_
                    have X : zX d L1 kd1 A 4 p s m #[Value.ref b] c cL_law RL := X
                    refine zg_sub [0, 1, 2, 3] rfl ?_
                    exact ihLp _ _ _ v136 h128 h134 hMs133 gNs133 gHs133 gEs133 gLs133 gKs133 (by omega) (by omega)
                  · skip
                    by_cases q137 : v8.toInt = 7
                    · refine zg_tabIn X 421 7 dL_law_33 q137 (by decide) (by decide) rfl (by decide) ?_
                      refine zg_aload_n X 2 rfl dL_law_421 ?_
                      refine zg_aload_n X 3 rfl dL_law_422 ?_
                      refine zg_iload_n X 0 rfl dL_law_423 ?_
                      refine zg_iconst X 1 dL_law_424 (by decide) (fun v138 _ hv138 => ?_)
                      refine zg_iadd X dL_law_425 (by omega) (by omega) (fun v139 ev139 hv139 => ?_)
                      refine zg_sld X hX hbl hbA (by omega) (by omega) dL_law_426 (fun v140 ev140 => ?_)
                      refine zg_aload_n X 3 rfl dL_law_427 ?_
                      refine zg_iload_n X 0 rfl dL_law_428 ?_
                      refine zg_iconst X 2 dL_law_429 (by decide) (fun v141 _ hv141 => ?_)
                      refine zg_iadd X dL_law_430 (by omega) (by omega) (fun v142 ev142 hv142 => ?_)
                      refine zg_sld X hX hbl hbA (by omega) (by omega) dL_law_431 (fun v143 ev143 => ?_)
                      refine zg_if_eq X 439 dL_law_432 (by decide) (fun c144 => ?_) (fun c144 => ?_)
                      · skip
                        refine zg_iconst X 0 dL_law_439 (by decide) (fun v145 _ hv145 => ?_)
                        refine zg_cVi (As := [.int v140, .int v145]) (st := []) X hx0 rfl (by decide) rfl (t_X10_dam l d L1 kd1 κ _ hI1 x0 hx0 v140 v145 (by omega)) mk_L_45 mc_X10_dam mz_X10 mi_X10_dam ml_X10_dam (na := 2) ⟨md_X10.1, md_X10.2, by decide +kernel⟩ rfl ⟨by decide, by decide⟩ (Nat.le_of_ble_eq_true rfl) dL_law_440 (fun v146 s147 hq => ?_)
                        obtain ⟨hFs147, hSs147, hq⟩ := hq
                        obtain ⟨hzh148, h148⟩ := hq
                        refine zg_aload_n X 1 rfl dL_law_443 ?_
                        refine zg_aload_n X 3 rfl dL_law_444 ?_
                        refine zg_iload_n X 0 rfl dL_law_445 ?_
                        refine zg_iconst X 1 dL_law_446 (by decide) (fun v149 _ hv149 => ?_)
                        refine zg_iadd X dL_law_447 (by omega) (by omega) (fun v150 ev150 hv150 => ?_)
                        refine zg_sld X hX hbl hbA (by omega) (by omega) dL_law_448 (fun v151 ev151 => ?_)
                        have wv151 : v151 = v140 := by rw [ev151, ev140, show v150 = v139 from Int32.toInt_inj.mp (by omega)]
                        have tv151 : v151.toInt = v140.toInt := by rw [wv151]
                        refine zg_aload_n X 3 rfl dL_law_449 ?_
                        refine zg_iload_n X 0 rfl dL_law_450 ?_
                        refine zg_iconst X 2 dL_law_451 (by decide) (fun v152 _ hv152 => ?_)
                        refine zg_iadd X dL_law_452 (by omega) (by omega) (fun v153 ev153 hv153 => ?_)
                        refine zg_sld X hX hbl hbA (by omega) (by omega) dL_law_453 (fun v154 ev154 => ?_)
                        have wv154 : v154 = v143 := by rw [ev154, ev143, show v153 = v142 from Int32.toInt_inj.mp (by omega)]
                        have tv154 : v154.toInt = v143.toInt := by rw [wv154]
                        refine zg_if_eq X 461 dL_law_454 (by decide) (fun c155 => ?_) (fun c155 => ?_)
                        · skip
                          refine zg_iconst X 0 dL_law_461 (by decide) (fun v156 _ hv156 => ?_)
                          refine zg_swap ?_
                          have X : zX d L2 kd2 A 4 p s m #[Value.ref b] c cL_law RL := X
                          have bv156 : v156 = v145 := Int32.toInt_inj.mp (by omega)
                          refine zg_cVi (As := [.int v151, .int v156]) (st := [.int v146]) X hm0 rfl (by decide) rfl (t_X11_dam l d L2 kd2 κ _ hI2 m0 hm0 v151 v156  hgN hgH hgE hgL) mk_L_49 mc_X11_dam mz_X11 mi_X11_dam ml_X11_dam (na := 2) ⟨md_X11.1, md_X11.2, by decide +kernel⟩ rfl ⟨by decide, by decide⟩ (Nat.le_of_ble_eq_true rfl) dL_law_462 (fun v157 s158 hq => ?_)
                          obtain ⟨hFs158, hq⟩ := hq
                          obtain ⟨⟨fs158_res, gNs158, gHs158, gEs158, gLs158⟩, h159, g160⟩ := hq
                          have gKs158 := gK.same h159 hm0 g160 (by decide) hgK
                          rw [wv151, bv156] at hFs158
                          obtain ⟨hvs158, hMs158⟩ := zRM.dam hM hI1 hI2 hx0 hm0 hFs147 hFs158 hSs147 g160 (by omega)
                          refine zg_icmp_eq X 1441 dL_law_465 (by decide) (fun c161 => ?_) (fun c161 => ?_)
                          · skip
                            refine zg_iinc X 6 (fun v162 => [(3, .int v162), (2, .ref m0), (1, .ref x0), (0, .ref b)]) 0 dL_law_1441 rfl (by decide) (by decide) (by omega) (by omega) (fun _ => rfl) (fun v162 ev162 hv162 => ?_)
                            refine zg_goto X 18 dL_law_1444 (by decide) ?_
                            refine zg_swap ?_
                            have X : zX d L1 kd1 A 4 p s m #[Value.ref b] c cL_law RL := X
                            refine zg_sub [0, 1, 2, 3] rfl ?_
                            exact ihLp _ _ _ v162 h148 h159 hMs158 gNs158 gHs158 gEs158 gLs158 gKs158 (by omega) (by omega)
                          · skip
                            refine zg_iconst X 0 dL_law_468 (by decide) (fun v163 _ hv163 => ?_)
                            exfalso
                            omega
                        · skip
                          refine zg_iconst X 1 dL_law_457 (by decide) (fun v164 _ hv164 => ?_)
                          refine zg_goto X 462 dL_law_458 (by decide) ?_
                          refine zg_swap ?_
                          have X : zX d L2 kd2 A 4 p s m #[Value.ref b] c cL_law RL := X
                          exfalso
                          omega
                      · skip
                        refine zg_iconst X 1 dL_law_435 (by decide) (fun v166 _ hv166 => ?_)
                        refine zg_goto X 440 dL_law_436 (by decide) ?_
                        refine zg_cVi (As := [.int v140, .int v166]) (st := []) X hx0 rfl (by decide) rfl (t_X10_dam l d L1 kd1 κ _ hI1 x0 hx0 v140 v166 (by omega)) mk_L_45 mc_X10_dam mz_X10 mi_X10_dam ml_X10_dam (na := 2) ⟨md_X10.1, md_X10.2, by decide +kernel⟩ rfl ⟨by decide, by decide⟩ (Nat.le_of_ble_eq_true rfl) dL_law_440 (fun v167 s168 hq => ?_)
                        obtain ⟨hFs168, hSs168, hq⟩ := hq
                        obtain ⟨hzh169, h169⟩ := hq
                        refine zg_aload_n X 1 rfl dL_law_443 ?_
                        refine zg_aload_n X 3 rfl dL_law_444 ?_
                        refine zg_iload_n X 0 rfl dL_law_445 ?_
                        refine zg_iconst X 1 dL_law_446 (by decide) (fun v170 _ hv170 => ?_)
                        refine zg_iadd X dL_law_447 (by omega) (by omega) (fun v171 ev171 hv171 => ?_)
                        refine zg_sld X hX hbl hbA (by omega) (by omega) dL_law_448 (fun v172 ev172 => ?_)
                        have wv172 : v172 = v140 := by rw [ev172, ev140, show v171 = v139 from Int32.toInt_inj.mp (by omega)]
                        have tv172 : v172.toInt = v140.toInt := by rw [wv172]
                        refine zg_aload_n X 3 rfl dL_law_449 ?_
                        refine zg_iload_n X 0 rfl dL_law_450 ?_
                        refine zg_iconst X 2 dL_law_451 (by decide) (fun v173 _ hv173 => ?_)
                        refine zg_iadd X dL_law_452 (by omega) (by omega) (fun v174 ev174 hv174 => ?_)
                        refine zg_sld X hX hbl hbA (by omega) (by omega) dL_law_453 (fun v175 ev175 => ?_)
                        have wv175 : v175 = v143 := by rw [ev175, ev143, show v174 = v142 from Int32.toInt_inj.mp (by omega)]
                        have tv175 : v175.toInt = v143.toInt := by rw [wv175]
                        refine zg_if_eq X 461 dL_law_454 (by decide) (fun c176 => ?_) (fun c176 => ?_)
                        · skip
                          refine zg_iconst X 0 dL_law_461 (by decide) (fun v177 _ hv177 => ?_)
                          refine zg_swap ?_
                          have X : zX d L2 kd2 A 4 p s m #[Value.ref b] c cL_law RL := X
                          exfalso
                          omega
                        · skip
                          refine zg_iconst X 1 dL_law_457 (by decide) (fun v179 _ hv179 => ?_)
                          refine zg_goto X 462 dL_law_458 (by decide) ?_
                          refine zg_swap ?_
                          have X : zX d L2 kd2 A 4 p s m #[Value.ref b] c cL_law RL := X
                          have bv179 : v179 = v166 := Int32.toInt_inj.mp (by omega)
                          refine zg_cVi (As := [.int v172, .int v179]) (st := [.int v167]) X hm0 rfl (by decide) rfl (t_X11_dam l d L2 kd2 κ _ hI2 m0 hm0 v172 v179  hgN hgH hgE hgL) mk_L_49 mc_X11_dam mz_X11 mi_X11_dam ml_X11_dam (na := 2) ⟨md_X11.1, md_X11.2, by decide +kernel⟩ rfl ⟨by decide, by decide⟩ (Nat.le_of_ble_eq_true rfl) dL_law_462 (fun v180 s181 hq => ?_)
                          obtain ⟨hFs181, hq⟩ := hq
                          obtain ⟨⟨fs181_res, gNs181, gHs181, gEs181, gLs181⟩, h182, g183⟩ := hq
                          have gKs181 := gK.same h182 hm0 g183 (by decide) hgK
                          rw [wv172, bv179] at hFs181
                          obtain ⟨hvs181, hMs181⟩ := zRM.dam hM hI1 hI2 hx0 hm0 hFs168 hFs181 hSs168 g183 (by omega)
                          refine zg_icmp_eq X 1441 dL_law_465 (by decide) (fun c184 => ?_) (fun c184 => ?_)
                          · skip
                            refine zg_iinc X 6 (fun v185 => [(3, .int v185), (2, .ref m0), (1, .ref x0), (0, .ref b)]) 0 dL_law_1441 rfl (by decide) (by decide) (by omega) (by omega) (fun _ => rfl) (fun v185 ev185 hv185 => ?_)
                            refine zg_goto X 18 dL_law_1444 (by decide) ?_
                            refine zg_swap ?_
                            have X : zX d L1 kd1 A 4 p s m #[Value.ref b] c cL_law RL := X
                            refine zg_sub [0, 1, 2, 3] rfl ?_
                            exact ihLp _ _ _ v185 h169 h182 hMs181 gNs181 gHs181 gEs181 gLs181 gKs181 (by omega) (by omega)
                          · skip
                            refine zg_iconst X 0 dL_law_468 (by decide) (fun v186 _ hv186 => ?_)
                            exfalso
                            omega
                    · skip
                      by_cases q187 : v8.toInt = 8
                      · refine zg_tabIn X 470 8 dL_law_33 q187 (by decide) (by decide) rfl (by decide) ?_
                        refine zg_aload_n X 2 rfl dL_law_470 ?_
                        refine zg_aload_n X 3 rfl dL_law_471 ?_
                        refine zg_iload_n X 0 rfl dL_law_472 ?_
                        refine zg_iconst X 1 dL_law_473 (by decide) (fun v188 _ hv188 => ?_)
                        refine zg_iadd X dL_law_474 (by omega) (by omega) (fun v189 ev189 hv189 => ?_)
                        refine zg_sld X hX hbl hbA (by omega) (by omega) dL_law_475 (fun v190 ev190 => ?_)
                        refine zg_aload_n X 3 rfl dL_law_476 ?_
                        refine zg_iload_n X 0 rfl dL_law_477 ?_
                        refine zg_iconst X 2 dL_law_478 (by decide) (fun v191 _ hv191 => ?_)
                        refine zg_iadd X dL_law_479 (by omega) (by omega) (fun v192 ev192 hv192 => ?_)
                        refine zg_sld X hX hbl hbA (by omega) (by omega) dL_law_480 (fun v193 ev193 => ?_)
                        refine zg_cVi (As := [.int v190, .int v193]) (st := []) X hx0 rfl (by decide) rfl (t_X10_turn l d L1 kd1 κ _ hI1 x0 hx0 v190 v193 ) mk_L_50 mc_X10_turn mz_X10 mi_X10_turn ml_X10_turn (na := 2) ⟨md_X10.1, md_X10.2, by decide +kernel⟩ rfl ⟨by decide, by decide⟩ (Nat.le_of_ble_eq_true rfl) dL_law_481 (fun v194 s195 hq => ?_)
                        obtain ⟨hFs195, hSs195, hq⟩ := hq
                        obtain ⟨hzh196, h196⟩ := hq
                        refine zg_pop X dL_law_484 rfl ?_
                        refine zg_aload_n X 1 rfl dL_law_485 ?_
                        refine zg_aload_n X 3 rfl dL_law_486 ?_
                        refine zg_iload_n X 0 rfl dL_law_487 ?_
                        refine zg_iconst X 1 dL_law_488 (by decide) (fun v197 _ hv197 => ?_)
                        refine zg_iadd X dL_law_489 (by omega) (by omega) (fun v198 ev198 hv198 => ?_)
                        refine zg_sld X hX hbl hbA (by omega) (by omega) dL_law_490 (fun v199 ev199 => ?_)
                        have wv199 : v199 = v190 := by rw [ev199, ev190, show v198 = v189 from Int32.toInt_inj.mp (by omega)]
                        have tv199 : v199.toInt = v190.toInt := by rw [wv199]
                        refine zg_aload_n X 3 rfl dL_law_491 ?_
                        refine zg_iload_n X 0 rfl dL_law_492 ?_
                        refine zg_iconst X 2 dL_law_493 (by decide) (fun v200 _ hv200 => ?_)
                        refine zg_iadd X dL_law_494 (by omega) (by omega) (fun v201 ev201 hv201 => ?_)
                        refine zg_sld X hX hbl hbA (by omega) (by omega) dL_law_495 (fun v202 ev202 => ?_)
                        have wv202 : v202 = v193 := by rw [ev202, ev193, show v201 = v192 from Int32.toInt_inj.mp (by omega)]
                        have tv202 : v202.toInt = v193.toInt := by rw [wv202]
                        refine zg_swap ?_
                        have X : zX d L2 kd2 A 4 p s m #[Value.ref b] c cL_law RL := X
                        refine zg_cVi (As := [.int v199, .int v202]) (st := []) X hm0 rfl (by decide) rfl (t_X11_turn l d L2 kd2 κ _ hI2 m0 hm0 v199 v202  hgN hgH hgE hgL) mk_L_54 mc_X11_turn mz_X11 mi_X11_turn ml_X11_turn (na := 2) ⟨md_X11.1, md_X11.2, by decide +kernel⟩ rfl ⟨by decide, by decide⟩ (Nat.le_of_ble_eq_true rfl) dL_law_496 (fun v203 s204 hq => ?_)
                        obtain ⟨hFs204, hq⟩ := hq
                        obtain ⟨⟨fs204_res, gNs204, gHs204, gEs204, gLs204⟩, h205, g206⟩ := hq
                        have gKs204 := gK.same h205 hm0 g206 (by decide) hgK
                        rw [wv199, wv202] at hFs204
                        obtain ⟨hvs204, hMs204⟩ := zRM.turn hM hI1 hI2 hx0 hm0 hFs195 hFs204 hSs195 g206 hgN
                        refine zg_pop X dL_law_499 rfl ?_
                        refine zg_goto X 1441 dL_law_500 (by decide) ?_
                        refine zg_iinc X 6 (fun v207 => [(3, .int v207), (2, .ref m0), (1, .ref x0), (0, .ref b)]) 0 dL_law_1441 rfl (by decide) (by decide) (by omega) (by omega) (fun _ => rfl) (fun v207 ev207 hv207 => ?_)
                        refine zg_goto X 18 dL_law_1444 (by decide) ?_
                        refine zg_swap ?_
                        have X : zX d L1 kd1 A 4 p s m #[Value.ref b] c cL_law RL := X
                        refine zg_sub [0, 1, 2, 3] rfl ?_
                        exact ihLp _ _ _ v207 h196 h205 hMs204 gNs204 gHs204 gEs204 gLs204 gKs204 (by omega) (by omega)
                      · skip
                        by_cases q208 : v8.toInt = 9
                        · refine zg_tabIn X 503 9 dL_law_33 q208 (by decide) (by decide) rfl (by decide) ?_
                          refine zg_aload_n X 2 rfl dL_law_503 ?_
                          refine zg_aload_n X 3 rfl dL_law_504 ?_
                          refine zg_iload_n X 0 rfl dL_law_505 ?_
                          refine zg_iconst X 1 dL_law_506 (by decide) (fun v209 _ hv209 => ?_)
                          refine zg_iadd X dL_law_507 (by omega) (by omega) (fun v210 ev210 hv210 => ?_)
                          refine zg_sld X hX hbl hbA (by omega) (by omega) dL_law_508 (fun v211 ev211 => ?_)
                          refine zg_cVi (As := [.int v211]) (st := []) X hx0 rfl (by decide) rfl (t_X10_rule l d L1 kd1 κ _ hI1 x0 hx0 v211 ) mk_L_55 mc_X10_rule mz_X10 mi_X10_rule ml_X10_rule (na := 1) ⟨md_X10.1, md_X10.2, by decide +kernel⟩ rfl ⟨by decide, by decide⟩ (Nat.le_of_ble_eq_true rfl) dL_law_509 (fun v212 s213 hq => ?_)
                          obtain ⟨hFs213, hSs213, hq⟩ := hq
                          obtain ⟨hzh214, h214⟩ := hq
                          refine zg_pop X dL_law_512 rfl ?_
                          refine zg_aload_n X 1 rfl dL_law_513 ?_
                          refine zg_aload_n X 3 rfl dL_law_514 ?_
                          refine zg_iload_n X 0 rfl dL_law_515 ?_
                          refine zg_iconst X 1 dL_law_516 (by decide) (fun v215 _ hv215 => ?_)
                          refine zg_iadd X dL_law_517 (by omega) (by omega) (fun v216 ev216 hv216 => ?_)
                          refine zg_sld X hX hbl hbA (by omega) (by omega) dL_law_518 (fun v217 ev217 => ?_)
                          have wv217 : v217 = v211 := by rw [ev217, ev211, show v216 = v210 from Int32.toInt_inj.mp (by omega)]
                          have tv217 : v217.toInt = v211.toInt := by rw [wv217]
                          refine zg_swap ?_
                          have X : zX d L2 kd2 A 4 p s m #[Value.ref b] c cL_law RL := X
                          refine zg_cVi (As := [.int v217]) (st := []) X hm0 rfl (by decide) rfl (t_X11_rule l d L2 kd2 κ _ hI2 m0 hm0 v217  hgN hgH hgE hgL) mk_L_59 mc_X11_rule mz_X11 mi_X11_rule ml_X11_rule (na := 1) ⟨md_X11.1, md_X11.2, by decide +kernel⟩ rfl ⟨by decide, by decide⟩ (Nat.le_of_ble_eq_true rfl) dL_law_519 (fun v218 s219 hq => ?_)
                          obtain ⟨hFs219, hq⟩ := hq
                          obtain ⟨⟨fs219_res, gNs219, gHs219, gEs219, gLs219⟩, h220, g221⟩ := hq
                          have gKs219 := gK.same h220 hm0 g221 (by decide) hgK
                          rw [wv217] at hFs219
                          obtain ⟨hvs219, hMs219⟩ := zRM.rule hM hI1 hI2 hx0 hm0 hFs213 hFs219 hSs213 g221
                          refine zg_pop X dL_law_522 rfl ?_
                          refine zg_goto X 1441 dL_law_523 (by decide) ?_
                          refine zg_iinc X 6 (fun v222 => [(3, .int v222), (2, .ref m0), (1, .ref x0), (0, .ref b)]) 0 dL_law_1441 rfl (by decide) (by decide) (by omega) (by omega) (fun _ => rfl) (fun v222 ev222 hv222 => ?_)
                          refine zg_goto X 18 dL_law_1444 (by decide) ?_
                          refine zg_swap ?_
                          have X : zX d L1 kd1 A 4 p s m #[Value.ref b] c cL_law RL := X
                          refine zg_sub [0, 1, 2, 3] rfl ?_
                          exact ihLp _ _ _ v222 h214 h220 hMs219 gNs219 gHs219 gEs219 gLs219 gKs219 (by omega) (by omega)
                        · skip
                          by_cases q223 : v8.toInt = 10
                          · refine zg_tabIn X 526 10 dL_law_33 q223 (by decide) (by decide) rfl (by decide) ?_
                            refine zg_aload_n X 2 rfl dL_law_526 ?_
                            refine zg_aload_n X 3 rfl dL_law_527 ?_
                            refine zg_iload_n X 0 rfl dL_law_528 ?_
                            refine zg_iconst X 1 dL_law_529 (by decide) (fun v224 _ hv224 => ?_)
                            refine zg_iadd X dL_law_530 (by omega) (by omega) (fun v225 ev225 hv225 => ?_)
                            refine zg_sld X hX hbl hbA (by omega) (by omega) dL_law_531 (fun v226 ev226 => ?_)
                            refine zg_cVi (As := [.int v226]) (st := []) X hx0 rfl (by decide) rfl (t_X10_months l d L1 kd1 κ _ hI1 x0 hx0 v226 ) mk_L_60 mc_X10_months mz_X10 mi_X10_months ml_X10_months (na := 1) ⟨md_X10.1, md_X10.2, by decide +kernel⟩ rfl ⟨by decide, by decide⟩ (Nat.le_of_ble_eq_true rfl) dL_law_532 (fun v227 s228 hq => ?_)
                            obtain ⟨hFs228, hSs228, hq⟩ := hq
                            have h229 := hq
                            refine zg_pop X dL_law_535 rfl ?_
                            refine zg_aload_n X 1 rfl dL_law_536 ?_
                            refine zg_aload_n X 3 rfl dL_law_537 ?_
                            refine zg_iload_n X 0 rfl dL_law_538 ?_
                            refine zg_iconst X 1 dL_law_539 (by decide) (fun v230 _ hv230 => ?_)
                            refine zg_iadd X dL_law_540 (by omega) (by omega) (fun v231 ev231 hv231 => ?_)
                            refine zg_sld X hX hbl hbA (by omega) (by omega) dL_law_541 (fun v232 ev232 => ?_)
                            have wv232 : v232 = v226 := by rw [ev232, ev226, show v231 = v225 from Int32.toInt_inj.mp (by omega)]
                            have tv232 : v232.toInt = v226.toInt := by rw [wv232]
                            refine zg_swap ?_
                            have X : zX d L2 kd2 A 4 p s m #[Value.ref b] c cL_law RL := X
                            refine zg_cVi (As := [.int v232]) (st := []) X hm0 rfl (by decide) rfl (t_X11_months l d L2 kd2 κ _ hI2 m0 hm0 v232  hgN hgH hgE hgL) mk_L_63 mc_X11_months mz_X11 mi_X11_months ml_X11_months (na := 1) ⟨md_X11.1, md_X11.2, by decide +kernel⟩ rfl ⟨by decide, by decide⟩ (Nat.le_of_ble_eq_true rfl) dL_law_542 (fun v233 s234 hq => ?_)
                            obtain ⟨hFs234, hq⟩ := hq
                            obtain ⟨⟨gNs234, gHs234, gEs234, gLs234⟩, h235, g236⟩ := hq
                            have gKs234 := gK.same h235 hm0 g236 (by decide) hgK
                            rw [wv232] at hFs234
                            obtain ⟨hvs234, hMs234⟩ := zRM.months hM hI1 hI2 hx0 hm0 hFs228 hFs234 hSs228 g236
                            refine zg_pop X dL_law_545 rfl ?_
                            refine zg_goto X 1441 dL_law_546 (by decide) ?_
                            refine zg_iinc X 6 (fun v237 => [(3, .int v237), (2, .ref m0), (1, .ref x0), (0, .ref b)]) 0 dL_law_1441 rfl (by decide) (by decide) (by omega) (by omega) (fun _ => rfl) (fun v237 ev237 hv237 => ?_)
                            refine zg_goto X 18 dL_law_1444 (by decide) ?_
                            refine zg_swap ?_
                            have X : zX d L1 kd1 A 4 p s m #[Value.ref b] c cL_law RL := X
                            refine zg_sub [0, 1, 2, 3] rfl ?_
                            exact ihLp _ _ _ v237 h229 h235 hMs234 gNs234 gHs234 gEs234 gLs234 gKs234 (by omega) (by omega)
                          · skip
                            by_cases q238 : v8.toInt = 11
                            · refine zg_tabIn X 549 11 dL_law_33 q238 (by decide) (by decide) rfl (by decide) ?_
                              refine zg_aload_n X 2 rfl dL_law_549 ?_
                              refine zg_cVi (As := []) (st := []) X hx0 rfl (by decide) rfl (t_X10_undo l d L1 kd1 κ _ hI1 x0 hx0  ) mk_L_64 mc_X10_undo mz_X10 mi_X10_undo ml_X10_undo (na := 0) ⟨md_X10.1, md_X10.2, by decide +kernel⟩ rfl ⟨by decide, by decide⟩ (Nat.le_of_ble_eq_true rfl) dL_law_550 (fun v239 s240 hq => ?_)
                              obtain ⟨hFs240, hSs240, hq⟩ := hq
                              obtain ⟨hzh241, h241⟩ := hq
                              refine zg_pop X dL_law_553 rfl ?_
                              refine zg_aload_n X 1 rfl dL_law_554 ?_
                              refine zg_swap ?_
                              have X : zX d L2 kd2 A 4 p s m #[Value.ref b] c cL_law RL := X
                              refine zg_cVi (As := []) (st := []) X hm0 rfl (by decide) rfl (t_X11_undo l d L2 kd2 κ _ hI2 m0 hm0   hgN hgH hgE hgL) mk_L_68 mc_X11_undo mz_X11 mi_X11_undo ml_X11_undo (na := 0) ⟨md_X11.1, md_X11.2, by decide +kernel⟩ rfl ⟨by decide, by decide⟩ (Nat.le_of_ble_eq_true rfl) dL_law_555 (fun v242 s243 hq => ?_)
                              obtain ⟨hFs243, hq⟩ := hq
                              obtain ⟨⟨fs243_res, gNs243, gHs243, gEs243, gLs243⟩, h244, g245⟩ := hq
                              have gKs243 := gK.same h244 hm0 g245 (by decide) hgK
                              obtain ⟨hvs243, hMs243⟩ := zRM.undo hM hI1 hI2 hx0 hm0 hFs240 hFs243 hSs240 g245
                              refine zg_pop X dL_law_558 rfl ?_
                              refine zg_goto X 1441 dL_law_559 (by decide) ?_
                              refine zg_iinc X 6 (fun v246 => [(3, .int v246), (2, .ref m0), (1, .ref x0), (0, .ref b)]) 0 dL_law_1441 rfl (by decide) (by decide) (by omega) (by omega) (fun _ => rfl) (fun v246 ev246 hv246 => ?_)
                              refine zg_goto X 18 dL_law_1444 (by decide) ?_
                              refine zg_swap ?_
                              have X : zX d L1 kd1 A 4 p s m #[Value.ref b] c cL_law RL := X
                              refine zg_sub [0, 1, 2, 3] rfl ?_
                              exact ihLp _ _ _ v246 h241 h244 hMs243 gNs243 gHs243 gEs243 gLs243 gKs243 (by omega) (by omega)
                            · skip
                              by_cases q247 : v8.toInt = 12
                              · refine zg_tabIn X 562 12 dL_law_33 q247 (by decide) (by decide) rfl (by decide) ?_
                                refine zg_aload_n X 2 rfl dL_law_562 ?_
                                refine zg_aload_n X 3 rfl dL_law_563 ?_
                                refine zg_iload_n X 0 rfl dL_law_564 ?_
                                refine zg_iconst X 1 dL_law_565 (by decide) (fun v248 _ hv248 => ?_)
                                refine zg_iadd X dL_law_566 (by omega) (by omega) (fun v249 ev249 hv249 => ?_)
                                refine zg_sld X hX hbl hbA (by omega) (by omega) dL_law_567 (fun v250 ev250 => ?_)
                                refine zg_cVi (As := [.int v250]) (st := []) X hx0 rfl (by decide) rfl (t_X10_agree l d L1 kd1 κ _ hI1 x0 hx0 v250 ) mk_L_69 mc_X10_agree mz_X10 mi_X10_agree ml_X10_agree (na := 1) ⟨md_X10.1, md_X10.2, by decide +kernel⟩ rfl ⟨by decide, by decide⟩ (Nat.le_of_ble_eq_true rfl) dL_law_568 (fun v251 s252 hq => ?_)
                                obtain ⟨hFs252, hSs252, hq⟩ := hq
                                have h253 := hq
                                have hMs252 := zRM.t hM hx0 hI1 hSs252 (fun V ps pc sl rv sh cd hl hv => by rw [show s252 = (F_X10_agree x0 v250 σ1).2 from congrArg Prod.snd hFs252]; exact pAgree hl hv v250) (by decide) (by decide)
                                refine zg_pop X dL_law_571 rfl ?_
                                refine zg_aload_n X 1 rfl dL_law_572 ?_
                                refine zg_aload_n X 3 rfl dL_law_573 ?_
                                refine zg_iload_n X 0 rfl dL_law_574 ?_
                                refine zg_iconst X 1 dL_law_575 (by decide) (fun v254 _ hv254 => ?_)
                                refine zg_iadd X dL_law_576 (by omega) (by omega) (fun v255 ev255 hv255 => ?_)
                                refine zg_sld X hX hbl hbA (by omega) (by omega) dL_law_577 (fun v256 ev256 => ?_)
                                refine zg_swap ?_
                                have X : zX d L2 kd2 A 4 p s m #[Value.ref b] c cL_law RL := X
                                refine zg_cVi (As := [.int v256]) (st := []) X hm0 rfl (by decide) rfl (t_X11_agree l d L2 kd2 κ _ hI2 m0 hm0 v256  hgN hgH hgE hgL) mk_L_72 mc_X11_agree mz_X11 mi_X11_agree ml_X11_agree (na := 1) ⟨md_X11.1, md_X11.2, by decide +kernel⟩ rfl ⟨by decide, by decide⟩ (Nat.le_of_ble_eq_true rfl) dL_law_578 (fun v257 s258 hq => ?_)
                                obtain ⟨hFs258, hq⟩ := hq
                                obtain ⟨⟨gNs258, gHs258, gEs258, gLs258⟩, h259, g260⟩ := hq
                                have gKs258 := gK.same h259 hm0 g260 (by decide) hgK
                                have hMs258 := zRM.m hMs252 hI2 hm0 g260 (by decide) (by decide)
                                refine zg_pop X dL_law_581 rfl ?_
                                refine zg_goto X 1441 dL_law_582 (by decide) ?_
                                refine zg_iinc X 6 (fun v261 => [(3, .int v261), (2, .ref m0), (1, .ref x0), (0, .ref b)]) 0 dL_law_1441 rfl (by decide) (by decide) (by omega) (by omega) (fun _ => rfl) (fun v261 ev261 hv261 => ?_)
                                refine zg_goto X 18 dL_law_1444 (by decide) ?_
                                refine zg_swap ?_
                                have X : zX d L1 kd1 A 4 p s m #[Value.ref b] c cL_law RL := X
                                refine zg_sub [0, 1, 2, 3] rfl ?_
                                exact ihLp _ _ _ v261 h253 h259 hMs258 gNs258 gHs258 gEs258 gLs258 gKs258 (by omega) (by omega)
                              · skip
                                by_cases q262 : v8.toInt = 13
                                · refine zg_tabIn X 585 13 dL_law_33 q262 (by decide) (by decide) rfl (by decide) ?_
                                  refine zg_aload_n X 2 rfl dL_law_585 ?_
                                  refine zg_aload_n X 3 rfl dL_law_586 ?_
                                  refine zg_iload_n X 0 rfl dL_law_587 ?_
                                  refine zg_iconst X 1 dL_law_588 (by decide) (fun v263 _ hv263 => ?_)
                                  refine zg_iadd X dL_law_589 (by omega) (by omega) (fun v264 ev264 hv264 => ?_)
                                  refine zg_sld X hX hbl hbA (by omega) (by omega) dL_law_590 (fun v265 ev265 => ?_)
                                  refine zg_aload_n X 3 rfl dL_law_591 ?_
                                  refine zg_iload_n X 0 rfl dL_law_592 ?_
                                  refine zg_iconst X 2 dL_law_593 (by decide) (fun v266 _ hv266 => ?_)
                                  refine zg_iadd X dL_law_594 (by omega) (by omega) (fun v267 ev267 hv267 => ?_)
                                  refine zg_sld X hX hbl hbA (by omega) (by omega) dL_law_595 (fun v268 ev268 => ?_)
                                  refine zg_cVi (As := [.int v265, .int v268]) (st := []) X hx0 rfl (by decide) rfl (t_X10_behind l d L1 kd1 κ _ hI1 x0 hx0 v265 v268 ) mk_L_73 mc_X10_behind mz_X10 mi_X10_behind ml_X10_behind (na := 2) ⟨md_X10.1, md_X10.2, by decide +kernel⟩ rfl ⟨by decide, by decide⟩ (Nat.le_of_ble_eq_true rfl) dL_law_596 (fun v269 s270 hq => ?_)
                                  obtain ⟨hFs270, hSs270, hq⟩ := hq
                                  have h271 := hq
                                  have hMs270 := zRM.c hM hx0 hI1 hSs270 (zRy.of (rz_X10_behind zRz.rf) hFs270) (by decide) (by decide)
                                  refine zg_pop X dL_law_599 rfl ?_
                                  refine zg_aload_n X 1 rfl dL_law_600 ?_
                                  refine zg_aload_n X 3 rfl dL_law_601 ?_
                                  refine zg_iload_n X 0 rfl dL_law_602 ?_
                                  refine zg_iconst X 1 dL_law_603 (by decide) (fun v272 _ hv272 => ?_)
                                  refine zg_iadd X dL_law_604 (by omega) (by omega) (fun v273 ev273 hv273 => ?_)
                                  refine zg_sld X hX hbl hbA (by omega) (by omega) dL_law_605 (fun v274 ev274 => ?_)
                                  refine zg_aload_n X 3 rfl dL_law_606 ?_
                                  refine zg_iload_n X 0 rfl dL_law_607 ?_
                                  refine zg_iconst X 2 dL_law_608 (by decide) (fun v275 _ hv275 => ?_)
                                  refine zg_iadd X dL_law_609 (by omega) (by omega) (fun v276 ev276 hv276 => ?_)
                                  refine zg_sld X hX hbl hbA (by omega) (by omega) dL_law_610 (fun v277 ev277 => ?_)
                                  refine zg_swap ?_
                                  have X : zX d L2 kd2 A 4 p s m #[Value.ref b] c cL_law RL := X
                                  refine zg_cVi (As := [.int v274, .int v277]) (st := []) X hm0 rfl (by decide) rfl (t_X11_behind l d L2 kd2 κ _ hI2 m0 hm0 v274 v277  hgN hgH hgE hgL) mk_L_76 mc_X11_behind mz_X11 mi_X11_behind ml_X11_behind (na := 2) ⟨md_X11.1, md_X11.2, by decide +kernel⟩ rfl ⟨by decide, by decide⟩ (Nat.le_of_ble_eq_true rfl) dL_law_611 (fun v278 s279 hq => ?_)
                                  obtain ⟨hFs279, hq⟩ := hq
                                  obtain ⟨⟨gNs279, gHs279, gEs279, gLs279⟩, h280, g281⟩ := hq
                                  have gKs279 := gK.same h280 hm0 g281 (by decide) hgK
                                  have hMs279 := zRM.m hMs270 hI2 hm0 g281 (by decide) (by decide)
                                  refine zg_pop X dL_law_614 rfl ?_
                                  refine zg_goto X 1441 dL_law_615 (by decide) ?_
                                  refine zg_iinc X 6 (fun v282 => [(3, .int v282), (2, .ref m0), (1, .ref x0), (0, .ref b)]) 0 dL_law_1441 rfl (by decide) (by decide) (by omega) (by omega) (fun _ => rfl) (fun v282 ev282 hv282 => ?_)
                                  refine zg_goto X 18 dL_law_1444 (by decide) ?_
                                  refine zg_swap ?_
                                  have X : zX d L1 kd1 A 4 p s m #[Value.ref b] c cL_law RL := X
                                  refine zg_sub [0, 1, 2, 3] rfl ?_
                                  exact ihLp _ _ _ v282 h271 h280 hMs279 gNs279 gHs279 gEs279 gLs279 gKs279 (by omega) (by omega)
                                · skip
                                  by_cases q283 : v8.toInt = 14
                                  · refine zg_tabIn X 618 14 dL_law_33 q283 (by decide) (by decide) rfl (by decide) ?_
                                    refine zg_aload_n X 2 rfl dL_law_618 ?_
                                    refine zg_aload_n X 3 rfl dL_law_619 ?_
                                    refine zg_iload_n X 0 rfl dL_law_620 ?_
                                    refine zg_iconst X 1 dL_law_621 (by decide) (fun v284 _ hv284 => ?_)
                                    refine zg_iadd X dL_law_622 (by omega) (by omega) (fun v285 ev285 hv285 => ?_)
                                    refine zg_sld X hX hbl hbA (by omega) (by omega) dL_law_623 (fun v286 ev286 => ?_)
                                    refine zg_cVi (As := [.int v286]) (st := []) X hx0 rfl (by decide) rfl (t_X10_margin l d L1 kd1 κ _ hI1 x0 hx0 v286 ) mk_L_77 mc_X10_margin mz_X10 mi_X10_margin ml_X10_margin (na := 1) ⟨md_X10.1, md_X10.2, by decide +kernel⟩ rfl ⟨by decide, by decide⟩ (Nat.le_of_ble_eq_true rfl) dL_law_624 (fun v287 s288 hq => ?_)
                                    obtain ⟨hFs288, hSs288, hq⟩ := hq
                                    have h289 := hq
                                    have hMs288 := zRM.c hM hx0 hI1 hSs288 (zRy.of (rz_X10_margin zRz.rf) hFs288) (by decide) (by decide)
                                    refine zg_pop X dL_law_627 rfl ?_
                                    refine zg_aload_n X 1 rfl dL_law_628 ?_
                                    refine zg_aload_n X 3 rfl dL_law_629 ?_
                                    refine zg_iload_n X 0 rfl dL_law_630 ?_
                                    refine zg_iconst X 1 dL_law_631 (by decide) (fun v290 _ hv290 => ?_)
                                    refine zg_iadd X dL_law_632 (by omega) (by omega) (fun v291 ev291 hv291 => ?_)
                                    refine zg_sld X hX hbl hbA (by omega) (by omega) dL_law_633 (fun v292 ev292 => ?_)
                                    refine zg_swap ?_
                                    have X : zX d L2 kd2 A 4 p s m #[Value.ref b] c cL_law RL := X
                                    refine zg_cVi (As := [.int v292]) (st := []) X hm0 rfl (by decide) rfl (t_X11_margin l d L2 kd2 κ _ hI2 m0 hm0 v292  hgN hgH hgE hgL) mk_L_80 mc_X11_margin mz_X11 mi_X11_margin ml_X11_margin (na := 1) ⟨md_X11.1, md_X11.2, by decide +kernel⟩ rfl ⟨by decide, by decide⟩ (Nat.le_of_ble_eq_true rfl) dL_law_634 (fun v293 s294 hq => ?_)
                                    obtain ⟨hFs294, hq⟩ := hq
                                    obtain ⟨⟨gNs294, gHs294, gEs294, gLs294⟩, h295, g296⟩ := hq
                                    have gKs294 := gK.same h295 hm0 g296 (by decide) hgK
                                    have hMs294 := zRM.m hMs288 hI2 hm0 g296 (by decide) (by decide)
                                    refine zg_pop X dL_law_637 rfl ?_
                                    refine zg_goto X 1441 dL_law_638 (by decide) ?_
                                    refine zg_iinc X 6 (fun v297 => [(3, .int v297), (2, .ref m0), (1, .ref x0), (0, .ref b)]) 0 dL_law_1441 rfl (by decide) (by decide) (by omega) (by omega) (fun _ => rfl) (fun v297 ev297 hv297 => ?_)
                                    refine zg_goto X 18 dL_law_1444 (by decide) ?_
                                    refine zg_swap ?_
                                    have X : zX d L1 kd1 A 4 p s m #[Value.ref b] c cL_law RL := X
                                    refine zg_sub [0, 1, 2, 3] rfl ?_
                                    exact ihLp _ _ _ v297 h289 h295 hMs294 gNs294 gHs294 gEs294 gLs294 gKs294 (by omega) (by omega)
                                  · skip
                                    by_cases q298 : v8.toInt = 15
                                    · refine zg_tabIn X 641 15 dL_law_33 q298 (by decide) (by decide) rfl (by decide) ?_
                                      refine zg_aload_n X 2 rfl dL_law_641 ?_
                                      refine zg_aload_n X 3 rfl dL_law_642 ?_
                                      refine zg_iload_n X 0 rfl dL_law_643 ?_
                                      refine zg_iconst X 1 dL_law_644 (by decide) (fun v299 _ hv299 => ?_)
                                      refine zg_iadd X dL_law_645 (by omega) (by omega) (fun v300 ev300 hv300 => ?_)
                                      refine zg_sld X hX hbl hbA (by omega) (by omega) dL_law_646 (fun v301 ev301 => ?_)
                                      refine zg_cVi (As := [.int v301]) (st := []) X hx0 rfl (by decide) rfl (t_X10_richest l d L1 kd1 κ _ hI1 x0 hx0 v301 ) mk_L_81 mc_X10_richest mz_X10 mi_X10_richest ml_X10_richest (na := 1) ⟨md_X10.1, md_X10.2, by decide +kernel⟩ rfl ⟨by decide, by decide⟩ (Nat.le_of_ble_eq_true rfl) dL_law_647 (fun v302 s303 hq => ?_)
                                      obtain ⟨hFs303, hSs303, hq⟩ := hq
                                      have h304 := hq
                                      have hMs303 := zRM.c0 hM hx0 hI1 hSs303 (by decide)
                                      refine zg_pop X dL_law_650 rfl ?_
                                      refine zg_aload_n X 1 rfl dL_law_651 ?_
                                      refine zg_aload_n X 3 rfl dL_law_652 ?_
                                      refine zg_iload_n X 0 rfl dL_law_653 ?_
                                      refine zg_iconst X 1 dL_law_654 (by decide) (fun v305 _ hv305 => ?_)
                                      refine zg_iadd X dL_law_655 (by omega) (by omega) (fun v306 ev306 hv306 => ?_)
                                      refine zg_sld X hX hbl hbA (by omega) (by omega) dL_law_656 (fun v307 ev307 => ?_)
                                      refine zg_swap ?_
                                      have X : zX d L2 kd2 A 4 p s m #[Value.ref b] c cL_law RL := X
                                      refine zg_cVi (As := [.int v307]) (st := []) X hm0 rfl (by decide) rfl (t_X11_richest l d L2 kd2 κ _ hI2 m0 hm0 v307  ) mk_L_84 mc_X11_richest mz_X11 mi_X11_richest ml_X11_richest (na := 1) ⟨md_X11.1, md_X11.2, by decide +kernel⟩ rfl ⟨by decide, by decide⟩ (Nat.le_of_ble_eq_true rfl) dL_law_657 (fun v308 s309 hq => ?_)
                                      obtain ⟨hFs309, rfl⟩ := hq
                                      refine zg_pop X dL_law_660 rfl ?_
                                      refine zg_goto X 1441 dL_law_661 (by decide) ?_
                                      refine zg_iinc X 6 (fun v311 => [(3, .int v311), (2, .ref m0), (1, .ref x0), (0, .ref b)]) 0 dL_law_1441 rfl (by decide) (by decide) (by omega) (by omega) (fun _ => rfl) (fun v311 ev311 hv311 => ?_)
                                      refine zg_goto X 18 dL_law_1444 (by decide) ?_
                                      refine zg_swap ?_
                                      have X : zX d L1 kd1 A 4 p s m #[Value.ref b] c cL_law RL := X
                                      refine zg_sub [0, 1, 2, 3] rfl ?_
                                      exact ihLp _ _ _ v311 h304 hI2 hMs303 hgN hgH hgE hgL hgK (by omega) (by omega)
                                    · skip
                                      by_cases q312 : v8.toInt = 16
                                      · refine zg_tabIn X 664 16 dL_law_33 q312 (by decide) (by decide) rfl (by decide) ?_
                                        refine zg_aload_n X 2 rfl dL_law_664 ?_
                                        refine zg_aload_n X 3 rfl dL_law_665 ?_
                                        refine zg_iload_n X 0 rfl dL_law_666 ?_
                                        refine zg_iconst X 1 dL_law_667 (by decide) (fun v313 _ hv313 => ?_)
                                        refine zg_iadd X dL_law_668 (by omega) (by omega) (fun v314 ev314 hv314 => ?_)
                                        refine zg_sld X hX hbl hbA (by omega) (by omega) dL_law_669 (fun v315 ev315 => ?_)
                                        refine zg_aload_n X 3 rfl dL_law_670 ?_
                                        refine zg_iload_n X 0 rfl dL_law_671 ?_
                                        refine zg_iconst X 2 dL_law_672 (by decide) (fun v316 _ hv316 => ?_)
                                        refine zg_iadd X dL_law_673 (by omega) (by omega) (fun v317 ev317 hv317 => ?_)
                                        refine zg_sld X hX hbl hbA (by omega) (by omega) dL_law_674 (fun v318 ev318 => ?_)
                                        refine zg_cVi (As := [.int v315, .int v318]) (st := []) X hx0 rfl (by decide) rfl (t_X10_rank l d L1 kd1 κ _ hI1 x0 hx0 v315 v318 ) mk_L_85 mc_X10_rank mz_X10 mi_X10_rank ml_X10_rank (na := 2) ⟨md_X10.1, md_X10.2, by decide +kernel⟩ rfl ⟨by decide, by decide⟩ (Nat.le_of_ble_eq_true rfl) dL_law_675 (fun v319 s320 hq => ?_)
                                        obtain ⟨hFs320, hSs320, hq⟩ := hq
                                        have h321 := hq
                                        have hMs320 := zRM.c hM hx0 hI1 hSs320 (zRy.of (rz_X10_rank zRz.rf) hFs320) (by decide) (by decide)
                                        refine zg_pop X dL_law_678 rfl ?_
                                        refine zg_aload_n X 1 rfl dL_law_679 ?_
                                        refine zg_aload_n X 3 rfl dL_law_680 ?_
                                        refine zg_iload_n X 0 rfl dL_law_681 ?_
                                        refine zg_iconst X 1 dL_law_682 (by decide) (fun v322 _ hv322 => ?_)
                                        refine zg_iadd X dL_law_683 (by omega) (by omega) (fun v323 ev323 hv323 => ?_)
                                        refine zg_sld X hX hbl hbA (by omega) (by omega) dL_law_684 (fun v324 ev324 => ?_)
                                        refine zg_aload_n X 3 rfl dL_law_685 ?_
                                        refine zg_iload_n X 0 rfl dL_law_686 ?_
                                        refine zg_iconst X 2 dL_law_687 (by decide) (fun v325 _ hv325 => ?_)
                                        refine zg_iadd X dL_law_688 (by omega) (by omega) (fun v326 ev326 hv326 => ?_)
                                        refine zg_sld X hX hbl hbA (by omega) (by omega) dL_law_689 (fun v327 ev327 => ?_)
                                        refine zg_swap ?_
                                        have X : zX d L2 kd2 A 4 p s m #[Value.ref b] c cL_law RL := X
                                        refine zg_cVi (As := [.int v324, .int v327]) (st := []) X hm0 rfl (by decide) rfl (t_X11_rank l d L2 kd2 κ _ hI2 m0 hm0 v324 v327  hgN hgH hgE hgL) mk_L_88 mc_X11_rank mz_X11 mi_X11_rank ml_X11_rank (na := 2) ⟨md_X11.1, md_X11.2, by decide +kernel⟩ rfl ⟨by decide, by decide⟩ (Nat.le_of_ble_eq_true rfl) dL_law_690 (fun v328 s329 hq => ?_)
                                        obtain ⟨hFs329, hq⟩ := hq
                                        obtain ⟨⟨gNs329, gHs329, gEs329, gLs329⟩, h330, g331⟩ := hq
                                        have gKs329 := gK.same h330 hm0 g331 (by decide) hgK
                                        have hMs329 := zRM.m hMs320 hI2 hm0 g331 (by decide) (by decide)
                                        refine zg_pop X dL_law_693 rfl ?_
                                        refine zg_goto X 1441 dL_law_694 (by decide) ?_
                                        refine zg_iinc X 6 (fun v332 => [(3, .int v332), (2, .ref m0), (1, .ref x0), (0, .ref b)]) 0 dL_law_1441 rfl (by decide) (by decide) (by omega) (by omega) (fun _ => rfl) (fun v332 ev332 hv332 => ?_)
                                        refine zg_goto X 18 dL_law_1444 (by decide) ?_
                                        refine zg_swap ?_
                                        have X : zX d L1 kd1 A 4 p s m #[Value.ref b] c cL_law RL := X
                                        refine zg_sub [0, 1, 2, 3] rfl ?_
                                        exact ihLp _ _ _ v332 h321 h330 hMs329 gNs329 gHs329 gEs329 gLs329 gKs329 (by omega) (by omega)
                                      · skip
                                        by_cases q333 : v8.toInt = 17
                                        · refine zg_tabIn X 697 17 dL_law_33 q333 (by decide) (by decide) rfl (by decide) ?_
                                          refine zg_aload_n X 2 rfl dL_law_697 ?_
                                          refine zg_aload_n X 3 rfl dL_law_698 ?_
                                          refine zg_iload_n X 0 rfl dL_law_699 ?_
                                          refine zg_iconst X 1 dL_law_700 (by decide) (fun v334 _ hv334 => ?_)
                                          refine zg_iadd X dL_law_701 (by omega) (by omega) (fun v335 ev335 hv335 => ?_)
                                          refine zg_sld X hX hbl hbA (by omega) (by omega) dL_law_702 (fun v336 ev336 => ?_)
                                          refine zg_cVi (As := [.int v336]) (st := []) X hx0 rfl (by decide) rfl (t_X10_vote l d L1 kd1 κ _ hI1 x0 hx0 v336 ) mk_L_89 mc_X10_vote mz_X10 mi_X10_vote ml_X10_vote (na := 1) ⟨md_X10.1, md_X10.2, by decide +kernel⟩ rfl ⟨by decide, by decide⟩ (Nat.le_of_ble_eq_true rfl) dL_law_703 (fun v337 s338 hq => ?_)
                                          obtain ⟨hFs338, hSs338, hq⟩ := hq
                                          have h339 := hq
                                          have hMs338 := zRM.c hM hx0 hI1 hSs338 (zRy.of (rz_X10_vote zRz.rf) hFs338) (by decide) (by decide)
                                          refine zg_pop X dL_law_706 rfl ?_
                                          refine zg_aload_n X 1 rfl dL_law_707 ?_
                                          refine zg_aload_n X 3 rfl dL_law_708 ?_
                                          refine zg_iload_n X 0 rfl dL_law_709 ?_
                                          refine zg_iconst X 1 dL_law_710 (by decide) (fun v340 _ hv340 => ?_)
                                          refine zg_iadd X dL_law_711 (by omega) (by omega) (fun v341 ev341 hv341 => ?_)
                                          refine zg_sld X hX hbl hbA (by omega) (by omega) dL_law_712 (fun v342 ev342 => ?_)
                                          refine zg_swap ?_
                                          have X : zX d L2 kd2 A 4 p s m #[Value.ref b] c cL_law RL := X
                                          refine zg_cVi (As := [.int v342]) (st := []) X hm0 rfl (by decide) rfl (t_X11_vote l d L2 kd2 κ _ hI2 m0 hm0 v342  hgN hgH hgE hgL) mk_L_92 mc_X11_vote mz_X11 mi_X11_vote ml_X11_vote (na := 1) ⟨md_X11.1, md_X11.2, by decide +kernel⟩ rfl ⟨by decide, by decide⟩ (Nat.le_of_ble_eq_true rfl) dL_law_713 (fun v343 s344 hq => ?_)
                                          obtain ⟨hFs344, hq⟩ := hq
                                          obtain ⟨⟨gNs344, gHs344, gEs344, gLs344⟩, h345, g346⟩ := hq
                                          have gKs344 := gK.same h345 hm0 g346 (by decide) hgK
                                          have hMs344 := zRM.m hMs338 hI2 hm0 g346 (by decide) (by decide)
                                          refine zg_pop X dL_law_716 rfl ?_
                                          refine zg_goto X 1441 dL_law_717 (by decide) ?_
                                          refine zg_iinc X 6 (fun v347 => [(3, .int v347), (2, .ref m0), (1, .ref x0), (0, .ref b)]) 0 dL_law_1441 rfl (by decide) (by decide) (by omega) (by omega) (fun _ => rfl) (fun v347 ev347 hv347 => ?_)
                                          refine zg_goto X 18 dL_law_1444 (by decide) ?_
                                          refine zg_swap ?_
                                          have X : zX d L1 kd1 A 4 p s m #[Value.ref b] c cL_law RL := X
                                          refine zg_sub [0, 1, 2, 3] rfl ?_
                                          exact ihLp _ _ _ v347 h339 h345 hMs344 gNs344 gHs344 gEs344 gLs344 gKs344 (by omega) (by omega)
                                        · skip
                                          by_cases q348 : v8.toInt = 18
                                          · refine zg_tabIn X 720 18 dL_law_33 q348 (by decide) (by decide) rfl (by decide) ?_
                                            refine zg_aload_n X 2 rfl dL_law_720 ?_
                                            refine zg_aload_n X 3 rfl dL_law_721 ?_
                                            refine zg_iload_n X 0 rfl dL_law_722 ?_
                                            refine zg_iconst X 1 dL_law_723 (by decide) (fun v349 _ hv349 => ?_)
                                            refine zg_iadd X dL_law_724 (by omega) (by omega) (fun v350 ev350 hv350 => ?_)
                                            refine zg_sld X hX hbl hbA (by omega) (by omega) dL_law_725 (fun v351 ev351 => ?_)
                                            refine zg_aload_n X 3 rfl dL_law_726 ?_
                                            refine zg_iload_n X 0 rfl dL_law_727 ?_
                                            refine zg_iconst X 2 dL_law_728 (by decide) (fun v352 _ hv352 => ?_)
                                            refine zg_iadd X dL_law_729 (by omega) (by omega) (fun v353 ev353 hv353 => ?_)
                                            refine zg_sld X hX hbl hbA (by omega) (by omega) dL_law_730 (fun v354 ev354 => ?_)
                                            refine zg_cVi (As := [.int v351, .int v354]) (st := []) X hx0 rfl (by decide) rfl (t_X10_dams l d L1 kd1 κ _ hI1 x0 hx0 v351 v354 ) mk_L_93 mc_X10_dams mz_X10 mi_X10_dams ml_X10_dams (na := 2) ⟨md_X10.1, md_X10.2, by decide +kernel⟩ rfl ⟨by decide, by decide⟩ (Nat.le_of_ble_eq_true rfl) dL_law_731 (fun v355 s356 hq => ?_)
                                            obtain ⟨hFs356, hSs356, hq⟩ := hq
                                            have h357 := hq
                                            have hMs356 := zRM.c hM hx0 hI1 hSs356 (zRy.of (rz_X10_dams zRz.rf) hFs356) (by decide) (by decide)
                                            refine zg_pop X dL_law_734 rfl ?_
                                            refine zg_aload_n X 1 rfl dL_law_735 ?_
                                            refine zg_aload_n X 3 rfl dL_law_736 ?_
                                            refine zg_iload_n X 0 rfl dL_law_737 ?_
                                            refine zg_iconst X 1 dL_law_738 (by decide) (fun v358 _ hv358 => ?_)
                                            refine zg_iadd X dL_law_739 (by omega) (by omega) (fun v359 ev359 hv359 => ?_)
                                            refine zg_sld X hX hbl hbA (by omega) (by omega) dL_law_740 (fun v360 ev360 => ?_)
                                            refine zg_aload_n X 3 rfl dL_law_741 ?_
                                            refine zg_iload_n X 0 rfl dL_law_742 ?_
                                            refine zg_iconst X 2 dL_law_743 (by decide) (fun v361 _ hv361 => ?_)
                                            refine zg_iadd X dL_law_744 (by omega) (by omega) (fun v362 ev362 hv362 => ?_)
                                            refine zg_sld X hX hbl hbA (by omega) (by omega) dL_law_745 (fun v363 ev363 => ?_)
                                            refine zg_swap ?_
                                            have X : zX d L2 kd2 A 4 p s m #[Value.ref b] c cL_law RL := X
                                            refine zg_cVi (As := [.int v360, .int v363]) (st := []) X hm0 rfl (by decide) rfl (t_X11_dams l d L2 kd2 κ _ hI2 m0 hm0 v360 v363  hgN hgH hgE hgL) mk_L_96 mc_X11_dams mz_X11 mi_X11_dams ml_X11_dams (na := 2) ⟨md_X11.1, md_X11.2, by decide +kernel⟩ rfl ⟨by decide, by decide⟩ (Nat.le_of_ble_eq_true rfl) dL_law_746 (fun v364 s365 hq => ?_)
                                            obtain ⟨hFs365, hq⟩ := hq
                                            obtain ⟨⟨gNs365, gHs365, gEs365, gLs365⟩, h366, g367⟩ := hq
                                            have gKs365 := gK.same h366 hm0 g367 (by decide) hgK
                                            have hMs365 := zRM.m hMs356 hI2 hm0 g367 (by decide) (by decide)
                                            refine zg_pop X dL_law_749 rfl ?_
                                            refine zg_goto X 1441 dL_law_750 (by decide) ?_
                                            refine zg_iinc X 6 (fun v368 => [(3, .int v368), (2, .ref m0), (1, .ref x0), (0, .ref b)]) 0 dL_law_1441 rfl (by decide) (by decide) (by omega) (by omega) (fun _ => rfl) (fun v368 ev368 hv368 => ?_)
                                            refine zg_goto X 18 dL_law_1444 (by decide) ?_
                                            refine zg_swap ?_
                                            have X : zX d L1 kd1 A 4 p s m #[Value.ref b] c cL_law RL := X
                                            refine zg_sub [0, 1, 2, 3] rfl ?_
                                            exact ihLp _ _ _ v368 h357 h366 hMs365 gNs365 gHs365 gEs365 gLs365 gKs365 (by omega) (by omega)
                                          · skip
                                            by_cases q369 : v8.toInt = 19
                                            · refine zg_tabIn X 753 19 dL_law_33 q369 (by decide) (by decide) rfl (by decide) ?_
                                              refine zg_aload_n X 2 rfl dL_law_753 ?_
                                              refine zg_aload_n X 3 rfl dL_law_754 ?_
                                              refine zg_iload_n X 0 rfl dL_law_755 ?_
                                              refine zg_iconst X 1 dL_law_756 (by decide) (fun v370 _ hv370 => ?_)
                                              refine zg_iadd X dL_law_757 (by omega) (by omega) (fun v371 ev371 hv371 => ?_)
                                              refine zg_sld X hX hbl hbA (by omega) (by omega) dL_law_758 (fun v372 ev372 => ?_)
                                              refine zg_cVi (As := [.int v372]) (st := []) X hx0 rfl (by decide) rfl (t_X10_loss l d L1 kd1 κ _ hI1 x0 hx0 v372 ) mk_L_97 mc_X10_loss mz_X10 mi_X10_loss ml_X10_loss (na := 1) ⟨md_X10.1, md_X10.2, by decide +kernel⟩ rfl ⟨by decide, by decide⟩ (Nat.le_of_ble_eq_true rfl) dL_law_759 (fun v373 s374 hq => ?_)
                                              obtain ⟨hFs374, hSs374, hq⟩ := hq
                                              have h375 := hq
                                              have hMs374 := zRM.c hM hx0 hI1 hSs374 (zRy.of (rz_X10_loss zRz.rf) hFs374) (by decide) (by decide)
                                              refine zg_pop X dL_law_762 rfl ?_
                                              refine zg_aload_n X 1 rfl dL_law_763 ?_
                                              refine zg_aload_n X 3 rfl dL_law_764 ?_
                                              refine zg_iload_n X 0 rfl dL_law_765 ?_
                                              refine zg_iconst X 1 dL_law_766 (by decide) (fun v376 _ hv376 => ?_)
                                              refine zg_iadd X dL_law_767 (by omega) (by omega) (fun v377 ev377 hv377 => ?_)
                                              refine zg_sld X hX hbl hbA (by omega) (by omega) dL_law_768 (fun v378 ev378 => ?_)
                                              refine zg_swap ?_
                                              have X : zX d L2 kd2 A 4 p s m #[Value.ref b] c cL_law RL := X
                                              refine zg_cVi (As := [.int v378]) (st := []) X hm0 rfl (by decide) rfl (t_X11_loss l d L2 kd2 κ _ hI2 m0 hm0 v378  hgN hgH hgE hgL) mk_L_100 mc_X11_loss mz_X11 mi_X11_loss ml_X11_loss (na := 1) ⟨md_X11.1, md_X11.2, by decide +kernel⟩ rfl ⟨by decide, by decide⟩ (Nat.le_of_ble_eq_true rfl) dL_law_769 (fun v379 s380 hq => ?_)
                                              obtain ⟨hFs380, hq⟩ := hq
                                              obtain ⟨⟨gNs380, gHs380, gEs380, gLs380⟩, h381, g382⟩ := hq
                                              have gKs380 := gK.same h381 hm0 g382 (by decide) hgK
                                              have hMs380 := zRM.m hMs374 hI2 hm0 g382 (by decide) (by decide)
                                              refine zg_pop X dL_law_772 rfl ?_
                                              refine zg_goto X 1441 dL_law_773 (by decide) ?_
                                              refine zg_iinc X 6 (fun v383 => [(3, .int v383), (2, .ref m0), (1, .ref x0), (0, .ref b)]) 0 dL_law_1441 rfl (by decide) (by decide) (by omega) (by omega) (fun _ => rfl) (fun v383 ev383 hv383 => ?_)
                                              refine zg_goto X 18 dL_law_1444 (by decide) ?_
                                              refine zg_swap ?_
                                              have X : zX d L1 kd1 A 4 p s m #[Value.ref b] c cL_law RL := X
                                              refine zg_sub [0, 1, 2, 3] rfl ?_
                                              exact ihLp _ _ _ v383 h375 h381 hMs380 gNs380 gHs380 gEs380 gLs380 gKs380 (by omega) (by omega)
                                            · skip
                                              by_cases q384 : v8.toInt = 20
                                              · refine zg_tabIn X 776 20 dL_law_33 q384 (by decide) (by decide) rfl (by decide) ?_
                                                refine zg_aload_n X 2 rfl dL_law_776 ?_
                                                refine zg_aload_n X 3 rfl dL_law_777 ?_
                                                refine zg_iload_n X 0 rfl dL_law_778 ?_
                                                refine zg_iconst X 1 dL_law_779 (by decide) (fun v385 _ hv385 => ?_)
                                                refine zg_iadd X dL_law_780 (by omega) (by omega) (fun v386 ev386 hv386 => ?_)
                                                refine zg_sld X hX hbl hbA (by omega) (by omega) dL_law_781 (fun v387 ev387 => ?_)
                                                refine zg_cVi (As := [.int v387]) (st := []) X hx0 rfl (by decide) rfl (t_X10_main l d L1 kd1 κ _ hI1 x0 hx0 v387 ) mk_L_101 mc_X10_main mz_X10 mi_X10_main ml_X10_main (na := 1) ⟨md_X10.1, md_X10.2, by decide +kernel⟩ rfl ⟨by decide, by decide⟩ (Nat.le_of_ble_eq_true rfl) dL_law_782 (fun v388 s389 hq => ?_)
                                                obtain ⟨hFs389, hSs389, hq⟩ := hq
                                                have h390 := hq
                                                have hMs389 := zRM.c hM hx0 hI1 hSs389 (zRy.of (rz_X10_main zRz.rf) hFs389) (by decide) (by decide)
                                                refine zg_pop X dL_law_785 rfl ?_
                                                refine zg_aload_n X 1 rfl dL_law_786 ?_
                                                refine zg_aload_n X 3 rfl dL_law_787 ?_
                                                refine zg_iload_n X 0 rfl dL_law_788 ?_
                                                refine zg_iconst X 1 dL_law_789 (by decide) (fun v391 _ hv391 => ?_)
                                                refine zg_iadd X dL_law_790 (by omega) (by omega) (fun v392 ev392 hv392 => ?_)
                                                refine zg_sld X hX hbl hbA (by omega) (by omega) dL_law_791 (fun v393 ev393 => ?_)
                                                refine zg_swap ?_
                                                have X : zX d L2 kd2 A 4 p s m #[Value.ref b] c cL_law RL := X
                                                refine zg_cVi (As := [.int v393]) (st := []) X hm0 rfl (by decide) rfl (t_X11_main l d L2 kd2 κ _ hI2 m0 hm0 v393  hgN hgH hgE hgL) mk_L_104 mc_X11_main mz_X11 mi_X11_main ml_X11_main (na := 1) ⟨md_X11.1, md_X11.2, by decide +kernel⟩ rfl ⟨by decide, by decide⟩ (Nat.le_of_ble_eq_true rfl) dL_law_792 (fun v394 s395 hq => ?_)
                                                obtain ⟨hFs395, hq⟩ := hq
                                                obtain ⟨⟨gNs395, gHs395, gEs395, gLs395⟩, h396, g397⟩ := hq
                                                have gKs395 := gK.same h396 hm0 g397 (by decide) hgK
                                                have hMs395 := zRM.m hMs389 hI2 hm0 g397 (by decide) (by decide)
                                                refine zg_pop X dL_law_795 rfl ?_
                                                refine zg_goto X 1441 dL_law_796 (by decide) ?_
                                                refine zg_iinc X 6 (fun v398 => [(3, .int v398), (2, .ref m0), (1, .ref x0), (0, .ref b)]) 0 dL_law_1441 rfl (by decide) (by decide) (by omega) (by omega) (fun _ => rfl) (fun v398 ev398 hv398 => ?_)
                                                refine zg_goto X 18 dL_law_1444 (by decide) ?_
                                                refine zg_swap ?_
                                                have X : zX d L1 kd1 A 4 p s m #[Value.ref b] c cL_law RL := X
                                                refine zg_sub [0, 1, 2, 3] rfl ?_
                                                exact ihLp _ _ _ v398 h390 h396 hMs395 gNs395 gHs395 gEs395 gLs395 gKs395 (by omega) (by omega)
                                              · skip
                                                by_cases q399 : v8.toInt = 21
                                                · refine zg_tabIn X 799 21 dL_law_33 q399 (by decide) (by decide) rfl (by decide) ?_
                                                  refine zg_aload_n X 2 rfl dL_law_799 ?_
                                                  refine zg_aload_n X 3 rfl dL_law_800 ?_
                                                  refine zg_iload_n X 0 rfl dL_law_801 ?_
                                                  refine zg_iconst X 1 dL_law_802 (by decide) (fun v400 _ hv400 => ?_)
                                                  refine zg_iadd X dL_law_803 (by omega) (by omega) (fun v401 ev401 hv401 => ?_)
                                                  refine zg_sld X hX hbl hbA (by omega) (by omega) dL_law_804 (fun v402 ev402 => ?_)
                                                  refine zg_aload_n X 3 rfl dL_law_805 ?_
                                                  refine zg_iload_n X 0 rfl dL_law_806 ?_
                                                  refine zg_iconst X 2 dL_law_807 (by decide) (fun v403 _ hv403 => ?_)
                                                  refine zg_iadd X dL_law_808 (by omega) (by omega) (fun v404 ev404 hv404 => ?_)
                                                  refine zg_sld X hX hbl hbA (by omega) (by omega) dL_law_809 (fun v405 ev405 => ?_)
                                                  refine zg_cVi (As := [.int v402, .int v405]) (st := []) X hx0 rfl (by decide) rfl (t_X10_driest l d L1 kd1 κ _ hI1 x0 hx0 v402 v405 ) mk_L_105 mc_X10_driest mz_X10 mi_X10_driest ml_X10_driest (na := 2) ⟨md_X10.1, md_X10.2, by decide +kernel⟩ rfl ⟨by decide, by decide⟩ (Nat.le_of_ble_eq_true rfl) dL_law_810 (fun v406 s407 hq => ?_)
                                                  obtain ⟨hFs407, hSs407, hq⟩ := hq
                                                  have h408 := hq
                                                  have hMs407 := zRM.t hM hx0 hI1 hSs407 (fun V ps pc sl rv sh cd hl hv => by rw [show s407 = (F_X10_driest x0 v402 v405 σ1).2 from congrArg Prod.snd hFs407]; exact pDriest hl hv v402 v405) (by decide) (by decide)
                                                  refine zg_pop X dL_law_813 rfl ?_
                                                  refine zg_aload_n X 1 rfl dL_law_814 ?_
                                                  refine zg_aload_n X 3 rfl dL_law_815 ?_
                                                  refine zg_iload_n X 0 rfl dL_law_816 ?_
                                                  refine zg_iconst X 1 dL_law_817 (by decide) (fun v409 _ hv409 => ?_)
                                                  refine zg_iadd X dL_law_818 (by omega) (by omega) (fun v410 ev410 hv410 => ?_)
                                                  refine zg_sld X hX hbl hbA (by omega) (by omega) dL_law_819 (fun v411 ev411 => ?_)
                                                  refine zg_aload_n X 3 rfl dL_law_820 ?_
                                                  refine zg_iload_n X 0 rfl dL_law_821 ?_
                                                  refine zg_iconst X 2 dL_law_822 (by decide) (fun v412 _ hv412 => ?_)
                                                  refine zg_iadd X dL_law_823 (by omega) (by omega) (fun v413 ev413 hv413 => ?_)
                                                  refine zg_sld X hX hbl hbA (by omega) (by omega) dL_law_824 (fun v414 ev414 => ?_)
                                                  refine zg_swap ?_
                                                  have X : zX d L2 kd2 A 4 p s m #[Value.ref b] c cL_law RL := X
                                                  refine zg_cVi (As := [.int v411, .int v414]) (st := []) X hm0 rfl (by decide) rfl (t_X11_driest l d L2 kd2 κ _ hI2 m0 hm0 v411 v414  hgN hgH hgE hgL) mk_L_108 mc_X11_driest mz_X11 mi_X11_driest ml_X11_driest (na := 2) ⟨md_X11.1, md_X11.2, by decide +kernel⟩ rfl ⟨by decide, by decide⟩ (Nat.le_of_ble_eq_true rfl) dL_law_825 (fun v415 s416 hq => ?_)
                                                  obtain ⟨hFs416, hq⟩ := hq
                                                  obtain ⟨⟨gNs416, gHs416, gEs416, gLs416⟩, h417, g418⟩ := hq
                                                  have gKs416 := gK.same h417 hm0 g418 (by decide) hgK
                                                  have hMs416 := zRM.m hMs407 hI2 hm0 g418 (by decide) (by decide)
                                                  refine zg_pop X dL_law_828 rfl ?_
                                                  refine zg_goto X 1441 dL_law_829 (by decide) ?_
                                                  refine zg_iinc X 6 (fun v419 => [(3, .int v419), (2, .ref m0), (1, .ref x0), (0, .ref b)]) 0 dL_law_1441 rfl (by decide) (by decide) (by omega) (by omega) (fun _ => rfl) (fun v419 ev419 hv419 => ?_)
                                                  refine zg_goto X 18 dL_law_1444 (by decide) ?_
                                                  refine zg_swap ?_
                                                  have X : zX d L1 kd1 A 4 p s m #[Value.ref b] c cL_law RL := X
                                                  refine zg_sub [0, 1, 2, 3] rfl ?_
                                                  exact ihLp _ _ _ v419 h408 h417 hMs416 gNs416 gHs416 gEs416 gLs416 gKs416 (by omega) (by omega)
                                                · skip
                                                  by_cases q420 : v8.toInt = 22
                                                  · refine zg_tabIn X 832 22 dL_law_33 q420 (by decide) (by decide) rfl (by decide) ?_
                                                    refine zg_aload_n X 2 rfl dL_law_832 ?_
                                                    refine zg_aload_n X 3 rfl dL_law_833 ?_
                                                    refine zg_iload_n X 0 rfl dL_law_834 ?_
                                                    refine zg_iconst X 1 dL_law_835 (by decide) (fun v421 _ hv421 => ?_)
                                                    refine zg_iadd X dL_law_836 (by omega) (by omega) (fun v422 ev422 hv422 => ?_)
                                                    refine zg_sld X hX hbl hbA (by omega) (by omega) dL_law_837 (fun v423 ev423 => ?_)
                                                    refine zg_aload_n X 3 rfl dL_law_838 ?_
                                                    refine zg_iload_n X 0 rfl dL_law_839 ?_
                                                    refine zg_iconst X 2 dL_law_840 (by decide) (fun v424 _ hv424 => ?_)
                                                    refine zg_iadd X dL_law_841 (by omega) (by omega) (fun v425 ev425 hv425 => ?_)
                                                    refine zg_sld X hX hbl hbA (by omega) (by omega) dL_law_842 (fun v426 ev426 => ?_)
                                                    refine zg_cVi (As := [.int v423, .int v426]) (st := []) X hx0 rfl (by decide) rfl (t_X10_turnFor l d L1 kd1 κ _ hI1 x0 hx0 v423 v426 ) mk_L_109 mc_X10_turnFor mz_X10 mi_X10_turnFor ml_X10_turnFor (na := 2) ⟨md_X10.1, md_X10.2, by decide +kernel⟩ rfl ⟨by decide, by decide⟩ (Nat.le_of_ble_eq_true rfl) dL_law_843 (fun v427 s428 hq => ?_)
                                                    obtain ⟨hFs428, hSs428, hq⟩ := hq
                                                    have h429 := hq
                                                    have hMs428 := zRM.t hM hx0 hI1 hSs428 (fun V ps pc sl rv sh cd hl hv => by rw [show s428 = (F_X10_turnFor x0 v423 v426 σ1).2 from congrArg Prod.snd hFs428]; exact pTurnFor hl hv v423 v426) (by decide) (by decide)
                                                    refine zg_pop X dL_law_846 rfl ?_
                                                    refine zg_aload_n X 1 rfl dL_law_847 ?_
                                                    refine zg_aload_n X 3 rfl dL_law_848 ?_
                                                    refine zg_iload_n X 0 rfl dL_law_849 ?_
                                                    refine zg_iconst X 1 dL_law_850 (by decide) (fun v430 _ hv430 => ?_)
                                                    refine zg_iadd X dL_law_851 (by omega) (by omega) (fun v431 ev431 hv431 => ?_)
                                                    refine zg_sld X hX hbl hbA (by omega) (by omega) dL_law_852 (fun v432 ev432 => ?_)
                                                    refine zg_aload_n X 3 rfl dL_law_853 ?_
                                                    refine zg_iload_n X 0 rfl dL_law_854 ?_
                                                    refine zg_iconst X 2 dL_law_855 (by decide) (fun v433 _ hv433 => ?_)
                                                    refine zg_iadd X dL_law_856 (by omega) (by omega) (fun v434 ev434 hv434 => ?_)
                                                    refine zg_sld X hX hbl hbA (by omega) (by omega) dL_law_857 (fun v435 ev435 => ?_)
                                                    refine zg_swap ?_
                                                    have X : zX d L2 kd2 A 4 p s m #[Value.ref b] c cL_law RL := X
                                                    refine zg_cVi (As := [.int v432, .int v435]) (st := []) X hm0 rfl (by decide) rfl (t_X11_turnFor l d L2 kd2 κ _ hI2 m0 hm0 v432 v435  hgN hgH hgE hgL) mk_L_112 mc_X11_turnFor mz_X11 mi_X11_turnFor ml_X11_turnFor (na := 2) ⟨md_X11.1, md_X11.2, by decide +kernel⟩ rfl ⟨by decide, by decide⟩ (Nat.le_of_ble_eq_true rfl) dL_law_858 (fun v436 s437 hq => ?_)
                                                    obtain ⟨hFs437, hq⟩ := hq
                                                    obtain ⟨⟨gNs437, gHs437, gEs437, gLs437⟩, h438, g439⟩ := hq
                                                    have gKs437 := gK.same h438 hm0 g439 (by decide) hgK
                                                    have hMs437 := zRM.m hMs428 hI2 hm0 g439 (by decide) (by decide)
                                                    refine zg_pop X dL_law_861 rfl ?_
                                                    refine zg_goto X 1441 dL_law_862 (by decide) ?_
                                                    refine zg_iinc X 6 (fun v440 => [(3, .int v440), (2, .ref m0), (1, .ref x0), (0, .ref b)]) 0 dL_law_1441 rfl (by decide) (by decide) (by omega) (by omega) (fun _ => rfl) (fun v440 ev440 hv440 => ?_)
                                                    refine zg_goto X 18 dL_law_1444 (by decide) ?_
                                                    refine zg_swap ?_
                                                    have X : zX d L1 kd1 A 4 p s m #[Value.ref b] c cL_law RL := X
                                                    refine zg_sub [0, 1, 2, 3] rfl ?_
                                                    exact ihLp _ _ _ v440 h429 h438 hMs437 gNs437 gHs437 gEs437 gLs437 gKs437 (by omega) (by omega)
                                                  · skip
                                                    by_cases q441 : v8.toInt = 23
                                                    · refine zg_tabIn X 865 23 dL_law_33 q441 (by decide) (by decide) rfl (by decide) ?_
                                                      refine zg_aload_n X 2 rfl dL_law_865 ?_
                                                      refine zg_aload_n X 3 rfl dL_law_866 ?_
                                                      refine zg_iload_n X 0 rfl dL_law_867 ?_
                                                      refine zg_iconst X 1 dL_law_868 (by decide) (fun v442 _ hv442 => ?_)
                                                      refine zg_iadd X dL_law_869 (by omega) (by omega) (fun v443 ev443 hv443 => ?_)
                                                      refine zg_sld X hX hbl hbA (by omega) (by omega) dL_law_870 (fun v444 ev444 => ?_)
                                                      refine zg_aload_n X 3 rfl dL_law_871 ?_
                                                      refine zg_iload_n X 0 rfl dL_law_872 ?_
                                                      refine zg_iconst X 2 dL_law_873 (by decide) (fun v445 _ hv445 => ?_)
                                                      refine zg_iadd X dL_law_874 (by omega) (by omega) (fun v446 ev446 hv446 => ?_)
                                                      refine zg_sld X hX hbl hbA (by omega) (by omega) dL_law_875 (fun v447 ev447 => ?_)
                                                      refine zg_cVi (As := [.int v444, .int v447]) (st := []) X hx0 rfl (by decide) rfl (t_X10_damFor l d L1 kd1 κ _ hI1 x0 hx0 v444 v447 ) mk_L_113 mc_X10_damFor mz_X10 mi_X10_damFor ml_X10_damFor (na := 2) ⟨md_X10.1, md_X10.2, by decide +kernel⟩ rfl ⟨by decide, by decide⟩ (Nat.le_of_ble_eq_true rfl) dL_law_876 (fun v448 s449 hq => ?_)
                                                      obtain ⟨hFs449, hSs449, hq⟩ := hq
                                                      have h450 := hq
                                                      have hMs449 := zRM.c hM hx0 hI1 hSs449 (zRy.of (rz_X10_damFor zRz.rf) hFs449) (by decide) (by decide)
                                                      refine zg_pop X dL_law_879 rfl ?_
                                                      refine zg_aload_n X 1 rfl dL_law_880 ?_
                                                      refine zg_aload_n X 3 rfl dL_law_881 ?_
                                                      refine zg_iload_n X 0 rfl dL_law_882 ?_
                                                      refine zg_iconst X 1 dL_law_883 (by decide) (fun v451 _ hv451 => ?_)
                                                      refine zg_iadd X dL_law_884 (by omega) (by omega) (fun v452 ev452 hv452 => ?_)
                                                      refine zg_sld X hX hbl hbA (by omega) (by omega) dL_law_885 (fun v453 ev453 => ?_)
                                                      refine zg_aload_n X 3 rfl dL_law_886 ?_
                                                      refine zg_iload_n X 0 rfl dL_law_887 ?_
                                                      refine zg_iconst X 2 dL_law_888 (by decide) (fun v454 _ hv454 => ?_)
                                                      refine zg_iadd X dL_law_889 (by omega) (by omega) (fun v455 ev455 hv455 => ?_)
                                                      refine zg_sld X hX hbl hbA (by omega) (by omega) dL_law_890 (fun v456 ev456 => ?_)
                                                      refine zg_swap ?_
                                                      have X : zX d L2 kd2 A 4 p s m #[Value.ref b] c cL_law RL := X
                                                      refine zg_cVi (As := [.int v453, .int v456]) (st := []) X hm0 rfl (by decide) rfl (t_X11_damFor l d L2 kd2 κ _ hI2 m0 hm0 v453 v456  hgN hgH hgE hgL) mk_L_116 mc_X11_damFor mz_X11 mi_X11_damFor ml_X11_damFor (na := 2) ⟨md_X11.1, md_X11.2, by decide +kernel⟩ rfl ⟨by decide, by decide⟩ (Nat.le_of_ble_eq_true rfl) dL_law_891 (fun v457 s458 hq => ?_)
                                                      obtain ⟨hFs458, hq⟩ := hq
                                                      obtain ⟨⟨gNs458, gHs458, gEs458, gLs458⟩, h459, g460⟩ := hq
                                                      have gKs458 := gK.same h459 hm0 g460 (by decide) hgK
                                                      have hMs458 := zRM.m hMs449 hI2 hm0 g460 (by decide) (by decide)
                                                      refine zg_pop X dL_law_894 rfl ?_
                                                      refine zg_goto X 1441 dL_law_895 (by decide) ?_
                                                      refine zg_iinc X 6 (fun v461 => [(3, .int v461), (2, .ref m0), (1, .ref x0), (0, .ref b)]) 0 dL_law_1441 rfl (by decide) (by decide) (by omega) (by omega) (fun _ => rfl) (fun v461 ev461 hv461 => ?_)
                                                      refine zg_goto X 18 dL_law_1444 (by decide) ?_
                                                      refine zg_swap ?_
                                                      have X : zX d L1 kd1 A 4 p s m #[Value.ref b] c cL_law RL := X
                                                      refine zg_sub [0, 1, 2, 3] rfl ?_
                                                      exact ihLp _ _ _ v461 h450 h459 hMs458 gNs458 gHs458 gEs458 gLs458 gKs458 (by omega) (by omega)
                                                    · skip
                                                      by_cases q462 : v8.toInt = 24
                                                      · refine zg_tabIn X 898 24 dL_law_33 q462 (by decide) (by decide) rfl (by decide) ?_
                                                        refine zg_aload_n X 2 rfl dL_law_898 ?_
                                                        refine zg_cVi (As := []) (st := []) X hx0 rfl (by decide) rfl (t_X10_depth l d L1 kd1 κ _ hI1 x0 hx0  ) mk_L_117 mc_X10_depth mz_X10 mi_X10_depth ml_X10_depth (na := 0) ⟨md_X10.1, md_X10.2, by decide +kernel⟩ rfl ⟨by decide, by decide⟩ (Nat.le_of_ble_eq_true rfl) dL_law_899 (fun v463 s464 hq => ?_)
                                                        obtain ⟨hFs464, hSs464, hq⟩ := hq
                                                        have h465 := hq
                                                        have hMs464 := zRM.c hM hx0 hI1 hSs464 (zRy.of (rz_X10_depth zRz.rf) hFs464) (by decide) (by decide)
                                                        refine zg_pop X dL_law_902 rfl ?_
                                                        refine zg_aload_n X 1 rfl dL_law_903 ?_
                                                        refine zg_swap ?_
                                                        have X : zX d L2 kd2 A 4 p s m #[Value.ref b] c cL_law RL := X
                                                        refine zg_cVi (As := []) (st := []) X hm0 rfl (by decide) rfl (t_X11_depth l d L2 kd2 κ _ hI2 m0 hm0   hgN hgH hgE hgL) mk_L_120 mc_X11_depth mz_X11 mi_X11_depth ml_X11_depth (na := 0) ⟨md_X11.1, md_X11.2, by decide +kernel⟩ rfl ⟨by decide, by decide⟩ (Nat.le_of_ble_eq_true rfl) dL_law_904 (fun v466 s467 hq => ?_)
                                                        obtain ⟨hFs467, hq⟩ := hq
                                                        obtain ⟨⟨gNs467, gHs467, gEs467, gLs467⟩, h468, g469⟩ := hq
                                                        have gKs467 := gK.same h468 hm0 g469 (by decide) hgK
                                                        have hMs467 := zRM.m hMs464 hI2 hm0 g469 (by decide) (by decide)
                                                        refine zg_pop X dL_law_907 rfl ?_
                                                        refine zg_goto X 1441 dL_law_908 (by decide) ?_
                                                        refine zg_iinc X 6 (fun v470 => [(3, .int v470), (2, .ref m0), (1, .ref x0), (0, .ref b)]) 0 dL_law_1441 rfl (by decide) (by decide) (by omega) (by omega) (fun _ => rfl) (fun v470 ev470 hv470 => ?_)
                                                        refine zg_goto X 18 dL_law_1444 (by decide) ?_
                                                        refine zg_swap ?_
                                                        have X : zX d L1 kd1 A 4 p s m #[Value.ref b] c cL_law RL := X
                                                        refine zg_sub [0, 1, 2, 3] rfl ?_
                                                        exact ihLp _ _ _ v470 h465 h468 hMs467 gNs467 gHs467 gEs467 gLs467 gKs467 (by omega) (by omega)
                                                      · skip
                                                        by_cases q471 : v8.toInt = 25
                                                        · refine zg_tabIn X 911 25 dL_law_33 q471 (by decide) (by decide) rfl (by decide) ?_
                                                          refine zg_aload_n X 2 rfl dL_law_911 ?_
                                                          refine zg_aload_n X 3 rfl dL_law_912 ?_
                                                          refine zg_iload_n X 0 rfl dL_law_913 ?_
                                                          refine zg_iconst X 1 dL_law_914 (by decide) (fun v472 _ hv472 => ?_)
                                                          refine zg_iadd X dL_law_915 (by omega) (by omega) (fun v473 ev473 hv473 => ?_)
                                                          refine zg_sld X hX hbl hbA (by omega) (by omega) dL_law_916 (fun v474 ev474 => ?_)
                                                          refine zg_cVi (As := [.int v474]) (st := []) X hx0 rfl (by decide) rfl (t_X10_order l d L1 kd1 κ _ hI1 x0 hx0 v474 ) mk_L_121 mc_X10_order mz_X10 mi_X10_order ml_X10_order (na := 1) ⟨md_X10.1, md_X10.2, by decide +kernel⟩ rfl ⟨by decide, by decide⟩ (Nat.le_of_ble_eq_true rfl) dL_law_917 (fun v475 s476 hq => ?_)
                                                          obtain ⟨hFs476, hSs476, hq⟩ := hq
                                                          have h477 := hq
                                                          have hMs476 := zRM.c hM hx0 hI1 hSs476 (zRy.of (rz_X10_order zRz.rf) hFs476) (by decide) (by decide)
                                                          refine zg_pop X dL_law_920 rfl ?_
                                                          refine zg_aload_n X 1 rfl dL_law_921 ?_
                                                          refine zg_aload_n X 3 rfl dL_law_922 ?_
                                                          refine zg_iload_n X 0 rfl dL_law_923 ?_
                                                          refine zg_iconst X 1 dL_law_924 (by decide) (fun v478 _ hv478 => ?_)
                                                          refine zg_iadd X dL_law_925 (by omega) (by omega) (fun v479 ev479 hv479 => ?_)
                                                          refine zg_sld X hX hbl hbA (by omega) (by omega) dL_law_926 (fun v480 ev480 => ?_)
                                                          refine zg_swap ?_
                                                          have X : zX d L2 kd2 A 4 p s m #[Value.ref b] c cL_law RL := X
                                                          refine zg_cVi (As := [.int v480]) (st := []) X hm0 rfl (by decide) rfl (t_X11_order l d L2 kd2 κ _ hI2 m0 hm0 v480  hgN hgH hgE hgL) mk_L_124 mc_X11_order mz_X11 mi_X11_order ml_X11_order (na := 1) ⟨md_X11.1, md_X11.2, by decide +kernel⟩ rfl ⟨by decide, by decide⟩ (Nat.le_of_ble_eq_true rfl) dL_law_927 (fun v481 s482 hq => ?_)
                                                          obtain ⟨hFs482, hq⟩ := hq
                                                          obtain ⟨⟨gNs482, gHs482, gEs482, gLs482⟩, h483, g484⟩ := hq
                                                          have gKs482 := gK.same h483 hm0 g484 (by decide) hgK
                                                          have hMs482 := zRM.m hMs476 hI2 hm0 g484 (by decide) (by decide)
                                                          refine zg_pop X dL_law_930 rfl ?_
                                                          refine zg_goto X 1441 dL_law_931 (by decide) ?_
                                                          refine zg_iinc X 6 (fun v485 => [(3, .int v485), (2, .ref m0), (1, .ref x0), (0, .ref b)]) 0 dL_law_1441 rfl (by decide) (by decide) (by omega) (by omega) (fun _ => rfl) (fun v485 ev485 hv485 => ?_)
                                                          refine zg_goto X 18 dL_law_1444 (by decide) ?_
                                                          refine zg_swap ?_
                                                          have X : zX d L1 kd1 A 4 p s m #[Value.ref b] c cL_law RL := X
                                                          refine zg_sub [0, 1, 2, 3] rfl ?_
                                                          exact ihLp _ _ _ v485 h477 h483 hMs482 gNs482 gHs482 gEs482 gLs482 gKs482 (by omega) (by omega)
                                                        · skip
                                                          by_cases q486 : v8.toInt = 26
                                                          · refine zg_tabIn X 934 26 dL_law_33 q486 (by decide) (by decide) rfl (by decide) ?_
                                                            refine zg_aload_n X 2 rfl dL_law_934 ?_
                                                            refine zg_aload_n X 3 rfl dL_law_935 ?_
                                                            refine zg_iload_n X 0 rfl dL_law_936 ?_
                                                            refine zg_iconst X 1 dL_law_937 (by decide) (fun v487 _ hv487 => ?_)
                                                            refine zg_iadd X dL_law_938 (by omega) (by omega) (fun v488 ev488 hv488 => ?_)
                                                            refine zg_sld X hX hbl hbA (by omega) (by omega) dL_law_939 (fun v489 ev489 => ?_)
                                                            refine zg_aload_n X 3 rfl dL_law_940 ?_
                                                            refine zg_iload_n X 0 rfl dL_law_941 ?_
                                                            refine zg_iconst X 2 dL_law_942 (by decide) (fun v490 _ hv490 => ?_)
                                                            refine zg_iadd X dL_law_943 (by omega) (by omega) (fun v491 ev491 hv491 => ?_)
                                                            refine zg_sld X hX hbl hbA (by omega) (by omega) dL_law_944 (fun v492 ev492 => ?_)
                                                            refine zg_cVi (As := [.int v489, .int v492]) (st := []) X hx0 rfl (by decide) rfl (t_X10_basin l d L1 kd1 κ _ hI1 x0 hx0 v489 v492 ) mk_L_125 mc_X10_basin mz_X10 mi_X10_basin ml_X10_basin (na := 2) ⟨md_X10.1, md_X10.2, by decide +kernel⟩ rfl ⟨by decide, by decide⟩ (Nat.le_of_ble_eq_true rfl) dL_law_945 (fun v493 s494 hq => ?_)
                                                            obtain ⟨hFs494, hSs494, hq⟩ := hq
                                                            have h495 := hq
                                                            have hMs494 := zRM.c hM hx0 hI1 hSs494 (zRy.of (rz_X10_basin zRz.rf) hFs494) (by decide) (by decide)
                                                            refine zg_pop X dL_law_948 rfl ?_
                                                            refine zg_aload_n X 1 rfl dL_law_949 ?_
                                                            refine zg_aload_n X 3 rfl dL_law_950 ?_
                                                            refine zg_iload_n X 0 rfl dL_law_951 ?_
                                                            refine zg_iconst X 1 dL_law_952 (by decide) (fun v496 _ hv496 => ?_)
                                                            refine zg_iadd X dL_law_953 (by omega) (by omega) (fun v497 ev497 hv497 => ?_)
                                                            refine zg_sld X hX hbl hbA (by omega) (by omega) dL_law_954 (fun v498 ev498 => ?_)
                                                            refine zg_aload_n X 3 rfl dL_law_955 ?_
                                                            refine zg_iload_n X 0 rfl dL_law_956 ?_
                                                            refine zg_iconst X 2 dL_law_957 (by decide) (fun v499 _ hv499 => ?_)
                                                            refine zg_iadd X dL_law_958 (by omega) (by omega) (fun v500 ev500 hv500 => ?_)
                                                            refine zg_sld X hX hbl hbA (by omega) (by omega) dL_law_959 (fun v501 ev501 => ?_)
                                                            refine zg_swap ?_
                                                            have X : zX d L2 kd2 A 4 p s m #[Value.ref b] c cL_law RL := X
                                                            refine zg_cVi (As := [.int v498, .int v501]) (st := []) X hm0 rfl (by decide) rfl (t_X11_basin l d L2 kd2 κ _ hI2 m0 hm0 v498 v501  hgN hgH hgE hgL) mk_L_128 mc_X11_basin mz_X11 mi_X11_basin ml_X11_basin (na := 2) ⟨md_X11.1, md_X11.2, by decide +kernel⟩ rfl ⟨by decide, by decide⟩ (Nat.le_of_ble_eq_true rfl) dL_law_960 (fun v502 s503 hq => ?_)
                                                            obtain ⟨hFs503, hq⟩ := hq
                                                            obtain ⟨⟨gNs503, gHs503, gEs503, gLs503⟩, h504, g505⟩ := hq
                                                            have gKs503 := gK.same h504 hm0 g505 (by decide) hgK
                                                            have hMs503 := zRM.m hMs494 hI2 hm0 g505 (by decide) (by decide)
                                                            refine zg_pop X dL_law_963 rfl ?_
                                                            refine zg_goto X 1441 dL_law_964 (by decide) ?_
                                                            refine zg_iinc X 6 (fun v506 => [(3, .int v506), (2, .ref m0), (1, .ref x0), (0, .ref b)]) 0 dL_law_1441 rfl (by decide) (by decide) (by omega) (by omega) (fun _ => rfl) (fun v506 ev506 hv506 => ?_)
                                                            refine zg_goto X 18 dL_law_1444 (by decide) ?_
                                                            refine zg_swap ?_
                                                            have X : zX d L1 kd1 A 4 p s m #[Value.ref b] c cL_law RL := X
                                                            refine zg_sub [0, 1, 2, 3] rfl ?_
                                                            exact ihLp _ _ _ v506 h495 h504 hMs503 gNs503 gHs503 gEs503 gLs503 gKs503 (by omega) (by omega)
                                                          · skip
                                                            by_cases q507 : v8.toInt = 27
                                                            · refine zg_tabIn X 967 27 dL_law_33 q507 (by decide) (by decide) rfl (by decide) ?_
                                                              refine zg_aload_n X 2 rfl dL_law_967 ?_
                                                              refine zg_aload_n X 3 rfl dL_law_968 ?_
                                                              refine zg_iload_n X 0 rfl dL_law_969 ?_
                                                              refine zg_iconst X 1 dL_law_970 (by decide) (fun v508 _ hv508 => ?_)
                                                              refine zg_iadd X dL_law_971 (by omega) (by omega) (fun v509 ev509 hv509 => ?_)
                                                              refine zg_sld X hX hbl hbA (by omega) (by omega) dL_law_972 (fun v510 ev510 => ?_)
                                                              refine zg_cVi (As := [.int v510]) (st := []) X hx0 rfl (by decide) rfl (t_X10_part l d L1 kd1 κ _ hI1 x0 hx0 v510 ) mk_L_129 mc_X10_part mz_X10 mi_X10_part ml_X10_part (na := 1) ⟨md_X10.1, md_X10.2, by decide +kernel⟩ rfl ⟨by decide, by decide⟩ (Nat.le_of_ble_eq_true rfl) dL_law_973 (fun v511 s512 hq => ?_)
                                                              obtain ⟨hFs512, hSs512, hq⟩ := hq
                                                              have h513 := hq
                                                              have hMs512 := zRM.c hM hx0 hI1 hSs512 (zRy.of (rz_X10_part zRz.rf) hFs512) (by decide) (by decide)
                                                              refine zg_pop X dL_law_976 rfl ?_
                                                              refine zg_aload_n X 1 rfl dL_law_977 ?_
                                                              refine zg_aload_n X 3 rfl dL_law_978 ?_
                                                              refine zg_iload_n X 0 rfl dL_law_979 ?_
                                                              refine zg_iconst X 1 dL_law_980 (by decide) (fun v514 _ hv514 => ?_)
                                                              refine zg_iadd X dL_law_981 (by omega) (by omega) (fun v515 ev515 hv515 => ?_)
                                                              refine zg_sld X hX hbl hbA (by omega) (by omega) dL_law_982 (fun v516 ev516 => ?_)
                                                              refine zg_swap ?_
                                                              have X : zX d L2 kd2 A 4 p s m #[Value.ref b] c cL_law RL := X
                                                              refine zg_cVi (As := [.int v516]) (st := []) X hm0 rfl (by decide) rfl (t_X11_part l d L2 kd2 κ _ hI2 m0 hm0 v516  hgN hgH hgE hgL) mk_L_132 mc_X11_part mz_X11 mi_X11_part ml_X11_part (na := 1) ⟨md_X11.1, md_X11.2, by decide +kernel⟩ rfl ⟨by decide, by decide⟩ (Nat.le_of_ble_eq_true rfl) dL_law_983 (fun v517 s518 hq => ?_)
                                                              obtain ⟨hFs518, hq⟩ := hq
                                                              obtain ⟨⟨gNs518, gHs518, gEs518, gLs518⟩, h519, g520⟩ := hq
                                                              have gKs518 := gK.same h519 hm0 g520 (by decide) hgK
                                                              have hMs518 := zRM.m hMs512 hI2 hm0 g520 (by decide) (by decide)
                                                              refine zg_pop X dL_law_986 rfl ?_
                                                              refine zg_goto X 1441 dL_law_987 (by decide) ?_
                                                              refine zg_iinc X 6 (fun v521 => [(3, .int v521), (2, .ref m0), (1, .ref x0), (0, .ref b)]) 0 dL_law_1441 rfl (by decide) (by decide) (by omega) (by omega) (fun _ => rfl) (fun v521 ev521 hv521 => ?_)
                                                              refine zg_goto X 18 dL_law_1444 (by decide) ?_
                                                              refine zg_swap ?_
                                                              have X : zX d L1 kd1 A 4 p s m #[Value.ref b] c cL_law RL := X
                                                              refine zg_sub [0, 1, 2, 3] rfl ?_
                                                              exact ihLp _ _ _ v521 h513 h519 hMs518 gNs518 gHs518 gEs518 gLs518 gKs518 (by omega) (by omega)
                                                            · skip
                                                              by_cases q522 : v8.toInt = 28
                                                              · refine zg_tabIn X 990 28 dL_law_33 q522 (by decide) (by decide) rfl (by decide) ?_
                                                                refine zg_aload_n X 2 rfl dL_law_990 ?_
                                                                refine zg_aload_n X 3 rfl dL_law_991 ?_
                                                                refine zg_iload_n X 0 rfl dL_law_992 ?_
                                                                refine zg_iconst X 1 dL_law_993 (by decide) (fun v523 _ hv523 => ?_)
                                                                refine zg_iadd X dL_law_994 (by omega) (by omega) (fun v524 ev524 hv524 => ?_)
                                                                refine zg_sld X hX hbl hbA (by omega) (by omega) dL_law_995 (fun v525 ev525 => ?_)
                                                                refine zg_aload_n X 3 rfl dL_law_996 ?_
                                                                refine zg_iload_n X 0 rfl dL_law_997 ?_
                                                                refine zg_iconst X 2 dL_law_998 (by decide) (fun v526 _ hv526 => ?_)
                                                                refine zg_iadd X dL_law_999 (by omega) (by omega) (fun v527 ev527 hv527 => ?_)
                                                                refine zg_sld X hX hbl hbA (by omega) (by omega) dL_law_1000 (fun v528 ev528 => ?_)
                                                                refine zg_aload_n X 3 rfl dL_law_1001 ?_
                                                                refine zg_iload_n X 0 rfl dL_law_1002 ?_
                                                                refine zg_iconst X 3 dL_law_1003 (by decide) (fun v529 _ hv529 => ?_)
                                                                refine zg_iadd X dL_law_1004 (by omega) (by omega) (fun v530 ev530 hv530 => ?_)
                                                                refine zg_sld X hX hbl hbA (by omega) (by omega) dL_law_1005 (fun v531 ev531 => ?_)
                                                                refine zg_cVi (As := [.int v525, .int v528, .int v531]) (st := []) X hx0 rfl (by decide) rfl (t_X10_reign l d L1 kd1 κ _ hI1 x0 hx0 v525 v528 v531 ) mk_L_133 mc_X10_reign mz_X10 mi_X10_reign ml_X10_reign (na := 3) ⟨md_X10.1, md_X10.2, by decide +kernel⟩ rfl ⟨by decide, by decide⟩ (Nat.le_of_ble_eq_true rfl) dL_law_1006 (fun v532 s533 hq => ?_)
                                                                obtain ⟨hFs533, hSs533, hq⟩ := hq
                                                                have h534 := hq
                                                                have hMs533 := zRM.t hM hx0 hI1 hSs533 (fun V ps pc sl rv sh cd hl hv => by rw [show s533 = (F_X10_reign x0 v525 v528 v531 σ1).2 from congrArg Prod.snd hFs533]; exact pReign hl hv v525 v528 v531) (by decide) (by decide)
                                                                refine zg_pop X dL_law_1009 rfl ?_
                                                                refine zg_aload_n X 1 rfl dL_law_1010 ?_
                                                                refine zg_aload_n X 3 rfl dL_law_1011 ?_
                                                                refine zg_iload_n X 0 rfl dL_law_1012 ?_
                                                                refine zg_iconst X 1 dL_law_1013 (by decide) (fun v535 _ hv535 => ?_)
                                                                refine zg_iadd X dL_law_1014 (by omega) (by omega) (fun v536 ev536 hv536 => ?_)
                                                                refine zg_sld X hX hbl hbA (by omega) (by omega) dL_law_1015 (fun v537 ev537 => ?_)
                                                                refine zg_aload_n X 3 rfl dL_law_1016 ?_
                                                                refine zg_iload_n X 0 rfl dL_law_1017 ?_
                                                                refine zg_iconst X 2 dL_law_1018 (by decide) (fun v538 _ hv538 => ?_)
                                                                refine zg_iadd X dL_law_1019 (by omega) (by omega) (fun v539 ev539 hv539 => ?_)
                                                                refine zg_sld X hX hbl hbA (by omega) (by omega) dL_law_1020 (fun v540 ev540 => ?_)
                                                                refine zg_aload_n X 3 rfl dL_law_1021 ?_
                                                                refine zg_iload_n X 0 rfl dL_law_1022 ?_
                                                                refine zg_iconst X 3 dL_law_1023 (by decide) (fun v541 _ hv541 => ?_)
                                                                refine zg_iadd X dL_law_1024 (by omega) (by omega) (fun v542 ev542 hv542 => ?_)
                                                                refine zg_sld X hX hbl hbA (by omega) (by omega) dL_law_1025 (fun v543 ev543 => ?_)
                                                                refine zg_swap ?_
                                                                have X : zX d L2 kd2 A 4 p s m #[Value.ref b] c cL_law RL := X
                                                                refine zg_cVi (As := [.int v537, .int v540, .int v543]) (st := []) X hm0 rfl (by decide) rfl (t_X11_reign l d L2 kd2 κ _ hI2 m0 hm0 v537 v540 v543  hgN hgH hgE hgL) mk_L_137 mc_X11_reign mz_X11 mi_X11_reign ml_X11_reign (na := 3) ⟨md_X11.1, md_X11.2, by decide +kernel⟩ rfl ⟨by decide, by decide⟩ (Nat.le_of_ble_eq_true rfl) dL_law_1026 (fun v544 s545 hq => ?_)
                                                                obtain ⟨hFs545, hq⟩ := hq
                                                                obtain ⟨⟨gNs545, gHs545, gEs545, gLs545⟩, h546, g547⟩ := hq
                                                                have gKs545 := gK.same h546 hm0 g547 (by decide) hgK
                                                                have hMs545 := zRM.m hMs533 hI2 hm0 g547 (by decide) (by decide)
                                                                refine zg_pop X dL_law_1029 rfl ?_
                                                                refine zg_goto X 1441 dL_law_1030 (by decide) ?_
                                                                refine zg_iinc X 6 (fun v548 => [(3, .int v548), (2, .ref m0), (1, .ref x0), (0, .ref b)]) 0 dL_law_1441 rfl (by decide) (by decide) (by omega) (by omega) (fun _ => rfl) (fun v548 ev548 hv548 => ?_)
                                                                refine zg_goto X 18 dL_law_1444 (by decide) ?_
                                                                refine zg_swap ?_
                                                                have X : zX d L1 kd1 A 4 p s m #[Value.ref b] c cL_law RL := X
                                                                refine zg_sub [0, 1, 2, 3] rfl ?_
                                                                exact ihLp _ _ _ v548 h534 h546 hMs545 gNs545 gHs545 gEs545 gLs545 gKs545 (by omega) (by omega)
                                                              · skip
                                                                by_cases q549 : v8.toInt = 29
                                                                · refine zg_tabIn X 1033 29 dL_law_33 q549 (by decide) (by decide) rfl (by decide) ?_
                                                                  refine zg_aload_n X 2 rfl dL_law_1033 ?_
                                                                  refine zg_cVi (As := []) (st := []) X hx0 rfl (by decide) rfl (t_X10_tour l d L1 kd1 κ _ hI1 x0 hx0  ) mk_L_138 mc_X10_tour mz_X10 mi_X10_tour ml_X10_tour (na := 0) ⟨md_X10.1, md_X10.2, by decide +kernel⟩ rfl ⟨by decide, by decide⟩ (Nat.le_of_ble_eq_true rfl) dL_law_1034 (fun v550 s551 hq => ?_)
                                                                  obtain ⟨hFs551, hSs551, hq⟩ := hq
                                                                  have h552 := hq
                                                                  have hMs551 := zRM.c hM hx0 hI1 hSs551 (zRy.of (rz_X10_tour zRz.rf) hFs551) (by decide) (by decide)
                                                                  refine zg_pop X dL_law_1037 rfl ?_
                                                                  refine zg_aload_n X 1 rfl dL_law_1038 ?_
                                                                  refine zg_swap ?_
                                                                  have X : zX d L2 kd2 A 4 p s m #[Value.ref b] c cL_law RL := X
                                                                  refine zg_cVi (As := []) (st := []) X hm0 rfl (by decide) rfl (t_X11_tour l d L2 kd2 κ _ hI2 m0 hm0   hgN hgH hgE hgL) mk_L_141 mc_X11_tour mz_X11 mi_X11_tour ml_X11_tour (na := 0) ⟨md_X11.1, md_X11.2, by decide +kernel⟩ rfl ⟨by decide, by decide⟩ (Nat.le_of_ble_eq_true rfl) dL_law_1039 (fun v553 s554 hq => ?_)
                                                                  obtain ⟨hFs554, hq⟩ := hq
                                                                  obtain ⟨⟨gNs554, gHs554, gEs554, gLs554⟩, h555, g556⟩ := hq
                                                                  have gKs554 := gK.same h555 hm0 g556 (by decide) hgK
                                                                  have hMs554 := zRM.m hMs551 hI2 hm0 g556 (by decide) (by decide)
                                                                  refine zg_pop X dL_law_1042 rfl ?_
                                                                  refine zg_goto X 1441 dL_law_1043 (by decide) ?_
                                                                  refine zg_iinc X 6 (fun v557 => [(3, .int v557), (2, .ref m0), (1, .ref x0), (0, .ref b)]) 0 dL_law_1441 rfl (by decide) (by decide) (by omega) (by omega) (fun _ => rfl) (fun v557 ev557 hv557 => ?_)
                                                                  refine zg_goto X 18 dL_law_1444 (by decide) ?_
                                                                  refine zg_swap ?_
                                                                  have X : zX d L1 kd1 A 4 p s m #[Value.ref b] c cL_law RL := X
                                                                  refine zg_sub [0, 1, 2, 3] rfl ?_
                                                                  exact ihLp _ _ _ v557 h552 h555 hMs554 gNs554 gHs554 gEs554 gLs554 gKs554 (by omega) (by omega)
                                                                · skip
                                                                  by_cases q558 : v8.toInt = 30
                                                                  · refine zg_tabIn X 1046 30 dL_law_33 q558 (by decide) (by decide) rfl (by decide) ?_
                                                                    refine zg_aload_n X 2 rfl dL_law_1046 ?_
                                                                    refine zg_cVi (As := []) (st := []) X hx0 rfl (by decide) rfl (t_X10_parted l d L1 kd1 κ _ hI1 x0 hx0  ) mk_L_142 mc_X10_parted mz_X10 mi_X10_parted ml_X10_parted (na := 0) ⟨md_X10.1, md_X10.2, by decide +kernel⟩ rfl ⟨by decide, by decide⟩ (Nat.le_of_ble_eq_true rfl) dL_law_1047 (fun v559 s560 hq => ?_)
                                                                    obtain ⟨hFs560, hSs560, hq⟩ := hq
                                                                    have h561 := hq
                                                                    have hMs560 := zRM.c hM hx0 hI1 hSs560 (zRy.of (rz_X10_parted zRz.rf) hFs560) (by decide) (by decide)
                                                                    refine zg_pop X dL_law_1050 rfl ?_
                                                                    refine zg_aload_n X 1 rfl dL_law_1051 ?_
                                                                    refine zg_swap ?_
                                                                    have X : zX d L2 kd2 A 4 p s m #[Value.ref b] c cL_law RL := X
                                                                    refine zg_cVi (As := []) (st := []) X hm0 rfl (by decide) rfl (t_X11_parted l d L2 kd2 κ _ hI2 m0 hm0   hgN hgH hgE hgL) mk_L_145 mc_X11_parted mz_X11 mi_X11_parted ml_X11_parted (na := 0) ⟨md_X11.1, md_X11.2, by decide +kernel⟩ rfl ⟨by decide, by decide⟩ (Nat.le_of_ble_eq_true rfl) dL_law_1052 (fun v562 s563 hq => ?_)
                                                                    obtain ⟨hFs563, hq⟩ := hq
                                                                    obtain ⟨⟨gNs563, gHs563, gEs563, gLs563⟩, h564, g565⟩ := hq
                                                                    have gKs563 := gK.same h564 hm0 g565 (by decide) hgK
                                                                    have hMs563 := zRM.m hMs560 hI2 hm0 g565 (by decide) (by decide)
                                                                    refine zg_pop X dL_law_1055 rfl ?_
                                                                    refine zg_goto X 1441 dL_law_1056 (by decide) ?_
                                                                    refine zg_iinc X 6 (fun v566 => [(3, .int v566), (2, .ref m0), (1, .ref x0), (0, .ref b)]) 0 dL_law_1441 rfl (by decide) (by decide) (by omega) (by omega) (fun _ => rfl) (fun v566 ev566 hv566 => ?_)
                                                                    refine zg_goto X 18 dL_law_1444 (by decide) ?_
                                                                    refine zg_swap ?_
                                                                    have X : zX d L1 kd1 A 4 p s m #[Value.ref b] c cL_law RL := X
                                                                    refine zg_sub [0, 1, 2, 3] rfl ?_
                                                                    exact ihLp _ _ _ v566 h561 h564 hMs563 gNs563 gHs563 gEs563 gLs563 gKs563 (by omega) (by omega)
                                                                  · skip
                                                                    by_cases q567 : v8.toInt = 31
                                                                    · refine zg_tabIn X 1059 31 dL_law_33 q567 (by decide) (by decide) rfl (by decide) ?_
                                                                      refine zg_aload_n X 2 rfl dL_law_1059 ?_
                                                                      refine zg_aload_n X 3 rfl dL_law_1060 ?_
                                                                      refine zg_iload_n X 0 rfl dL_law_1061 ?_
                                                                      refine zg_iconst X 1 dL_law_1062 (by decide) (fun v568 _ hv568 => ?_)
                                                                      refine zg_iadd X dL_law_1063 (by omega) (by omega) (fun v569 ev569 hv569 => ?_)
                                                                      refine zg_sld X hX hbl hbA (by omega) (by omega) dL_law_1064 (fun v570 ev570 => ?_)
                                                                      refine zg_aload_n X 3 rfl dL_law_1065 ?_
                                                                      refine zg_iload_n X 0 rfl dL_law_1066 ?_
                                                                      refine zg_iconst X 2 dL_law_1067 (by decide) (fun v571 _ hv571 => ?_)
                                                                      refine zg_iadd X dL_law_1068 (by omega) (by omega) (fun v572 ev572 hv572 => ?_)
                                                                      refine zg_sld X hX hbl hbA (by omega) (by omega) dL_law_1069 (fun v573 ev573 => ?_)
                                                                      refine zg_aload_n X 3 rfl dL_law_1070 ?_
                                                                      refine zg_iload_n X 0 rfl dL_law_1071 ?_
                                                                      refine zg_iconst X 3 dL_law_1072 (by decide) (fun v574 _ hv574 => ?_)
                                                                      refine zg_iadd X dL_law_1073 (by omega) (by omega) (fun v575 ev575 hv575 => ?_)
                                                                      refine zg_sld X hX hbl hbA (by omega) (by omega) dL_law_1074 (fun v576 ev576 => ?_)
                                                                      refine zg_cVi (As := [.int v570, .int v573, .int v576]) (st := []) X hx0 rfl (by decide) rfl (t_X10_meet l d L1 kd1 κ _ hI1 x0 hx0 v570 v573 v576 ) mk_L_146 mc_X10_meet mz_X10 mi_X10_meet ml_X10_meet (na := 3) ⟨md_X10.1, md_X10.2, by decide +kernel⟩ rfl ⟨by decide, by decide⟩ (Nat.le_of_ble_eq_true rfl) dL_law_1075 (fun v577 s578 hq => ?_)
                                                                      obtain ⟨hFs578, hSs578, hq⟩ := hq
                                                                      have h579 := hq
                                                                      have hMs578 := zRM.c hM hx0 hI1 hSs578 (zRy.of (rz_X10_meet zRz.rf) hFs578) (by decide) (by decide)
                                                                      refine zg_pop X dL_law_1078 rfl ?_
                                                                      refine zg_aload_n X 1 rfl dL_law_1079 ?_
                                                                      refine zg_aload_n X 3 rfl dL_law_1080 ?_
                                                                      refine zg_iload_n X 0 rfl dL_law_1081 ?_
                                                                      refine zg_iconst X 1 dL_law_1082 (by decide) (fun v580 _ hv580 => ?_)
                                                                      refine zg_iadd X dL_law_1083 (by omega) (by omega) (fun v581 ev581 hv581 => ?_)
                                                                      refine zg_sld X hX hbl hbA (by omega) (by omega) dL_law_1084 (fun v582 ev582 => ?_)
                                                                      refine zg_aload_n X 3 rfl dL_law_1085 ?_
                                                                      refine zg_iload_n X 0 rfl dL_law_1086 ?_
                                                                      refine zg_iconst X 2 dL_law_1087 (by decide) (fun v583 _ hv583 => ?_)
                                                                      refine zg_iadd X dL_law_1088 (by omega) (by omega) (fun v584 ev584 hv584 => ?_)
                                                                      refine zg_sld X hX hbl hbA (by omega) (by omega) dL_law_1089 (fun v585 ev585 => ?_)
                                                                      refine zg_aload_n X 3 rfl dL_law_1090 ?_
                                                                      refine zg_iload_n X 0 rfl dL_law_1091 ?_
                                                                      refine zg_iconst X 3 dL_law_1092 (by decide) (fun v586 _ hv586 => ?_)
                                                                      refine zg_iadd X dL_law_1093 (by omega) (by omega) (fun v587 ev587 hv587 => ?_)
                                                                      refine zg_sld X hX hbl hbA (by omega) (by omega) dL_law_1094 (fun v588 ev588 => ?_)
                                                                      refine zg_swap ?_
                                                                      have X : zX d L2 kd2 A 4 p s m #[Value.ref b] c cL_law RL := X
                                                                      refine zg_cVi (As := [.int v582, .int v585, .int v588]) (st := []) X hm0 rfl (by decide) rfl (t_X11_meet l d L2 kd2 κ _ hI2 m0 hm0 v582 v585 v588  hgN hgH hgE hgL) mk_L_149 mc_X11_meet mz_X11 mi_X11_meet ml_X11_meet (na := 3) ⟨md_X11.1, md_X11.2, by decide +kernel⟩ rfl ⟨by decide, by decide⟩ (Nat.le_of_ble_eq_true rfl) dL_law_1095 (fun v589 s590 hq => ?_)
                                                                      obtain ⟨hFs590, hq⟩ := hq
                                                                      obtain ⟨⟨gNs590, gHs590, gEs590, gLs590⟩, h591, g592⟩ := hq
                                                                      have gKs590 := gK.same h591 hm0 g592 (by decide) hgK
                                                                      have hMs590 := zRM.m hMs578 hI2 hm0 g592 (by decide) (by decide)
                                                                      refine zg_pop X dL_law_1098 rfl ?_
                                                                      refine zg_goto X 1441 dL_law_1099 (by decide) ?_
                                                                      refine zg_iinc X 6 (fun v593 => [(3, .int v593), (2, .ref m0), (1, .ref x0), (0, .ref b)]) 0 dL_law_1441 rfl (by decide) (by decide) (by omega) (by omega) (fun _ => rfl) (fun v593 ev593 hv593 => ?_)
                                                                      refine zg_goto X 18 dL_law_1444 (by decide) ?_
                                                                      refine zg_swap ?_
                                                                      have X : zX d L1 kd1 A 4 p s m #[Value.ref b] c cL_law RL := X
                                                                      refine zg_sub [0, 1, 2, 3] rfl ?_
                                                                      exact ihLp _ _ _ v593 h579 h591 hMs590 gNs590 gHs590 gEs590 gLs590 gKs590 (by omega) (by omega)
                                                                    · skip
                                                                      by_cases q594 : v8.toInt = 32
                                                                      · refine zg_tabIn X 1102 32 dL_law_33 q594 (by decide) (by decide) rfl (by decide) ?_
                                                                        refine zg_aload_n X 2 rfl dL_law_1102 ?_
                                                                        refine zg_aload_n X 3 rfl dL_law_1103 ?_
                                                                        refine zg_iload_n X 0 rfl dL_law_1104 ?_
                                                                        refine zg_iconst X 1 dL_law_1105 (by decide) (fun v595 _ hv595 => ?_)
                                                                        refine zg_iadd X dL_law_1106 (by omega) (by omega) (fun v596 ev596 hv596 => ?_)
                                                                        refine zg_sld X hX hbl hbA (by omega) (by omega) dL_law_1107 (fun v597 ev597 => ?_)
                                                                        refine zg_cVi (As := [.int v597]) (st := []) X hx0 rfl (by decide) rfl (t_X10_when l d L1 kd1 κ _ hI1 x0 hx0 v597 ) mk_L_150 mc_X10_when mz_X10 mi_X10_when ml_X10_when (na := 1) ⟨md_X10.1, md_X10.2, by decide +kernel⟩ rfl ⟨by decide, by decide⟩ (Nat.le_of_ble_eq_true rfl) dL_law_1108 (fun v598 s599 hq => ?_)
                                                                        obtain ⟨hFs599, hSs599, hq⟩ := hq
                                                                        have h600 := hq
                                                                        have hMs599 := zRM.t hM hx0 hI1 hSs599 (fun V ps pc sl rv sh cd hl hv => by rw [show s599 = (F_X10_when x0 v597 σ1).2 from congrArg Prod.snd hFs599]; exact pWhen hl hv v597) (by decide) (by decide)
                                                                        refine zg_pop X dL_law_1111 rfl ?_
                                                                        refine zg_aload_n X 1 rfl dL_law_1112 ?_
                                                                        refine zg_aload_n X 3 rfl dL_law_1113 ?_
                                                                        refine zg_iload_n X 0 rfl dL_law_1114 ?_
                                                                        refine zg_iconst X 1 dL_law_1115 (by decide) (fun v601 _ hv601 => ?_)
                                                                        refine zg_iadd X dL_law_1116 (by omega) (by omega) (fun v602 ev602 hv602 => ?_)
                                                                        refine zg_sld X hX hbl hbA (by omega) (by omega) dL_law_1117 (fun v603 ev603 => ?_)
                                                                        refine zg_swap ?_
                                                                        have X : zX d L2 kd2 A 4 p s m #[Value.ref b] c cL_law RL := X
                                                                        refine zg_cVi (As := [.int v603]) (st := []) X hm0 rfl (by decide) rfl (t_X11_when l d L2 kd2 κ _ hI2 m0 hm0 v603  hgN hgH hgE hgL) mk_L_153 mc_X11_when mz_X11 mi_X11_when ml_X11_when (na := 1) ⟨md_X11.1, md_X11.2, by decide +kernel⟩ rfl ⟨by decide, by decide⟩ (Nat.le_of_ble_eq_true rfl) dL_law_1118 (fun v604 s605 hq => ?_)
                                                                        obtain ⟨hFs605, hq⟩ := hq
                                                                        obtain ⟨⟨gNs605, gHs605, gEs605, gLs605⟩, h606, g607⟩ := hq
                                                                        have gKs605 := gK.same h606 hm0 g607 (by decide) hgK
                                                                        have hMs605 := zRM.m hMs599 hI2 hm0 g607 (by decide) (by decide)
                                                                        refine zg_pop X dL_law_1121 rfl ?_
                                                                        refine zg_goto X 1441 dL_law_1122 (by decide) ?_
                                                                        refine zg_iinc X 6 (fun v608 => [(3, .int v608), (2, .ref m0), (1, .ref x0), (0, .ref b)]) 0 dL_law_1441 rfl (by decide) (by decide) (by omega) (by omega) (fun _ => rfl) (fun v608 ev608 hv608 => ?_)
                                                                        refine zg_goto X 18 dL_law_1444 (by decide) ?_
                                                                        refine zg_swap ?_
                                                                        have X : zX d L1 kd1 A 4 p s m #[Value.ref b] c cL_law RL := X
                                                                        refine zg_sub [0, 1, 2, 3] rfl ?_
                                                                        exact ihLp _ _ _ v608 h600 h606 hMs605 gNs605 gHs605 gEs605 gLs605 gKs605 (by omega) (by omega)
                                                                      · skip
                                                                        by_cases q609 : v8.toInt = 33
                                                                        · refine zg_tabIn X 1125 33 dL_law_33 q609 (by decide) (by decide) rfl (by decide) ?_
                                                                          refine zg_aload_n X 2 rfl dL_law_1125 ?_
                                                                          refine zg_aload_n X 3 rfl dL_law_1126 ?_
                                                                          refine zg_iload_n X 0 rfl dL_law_1127 ?_
                                                                          refine zg_iconst X 1 dL_law_1128 (by decide) (fun v610 _ hv610 => ?_)
                                                                          refine zg_iadd X dL_law_1129 (by omega) (by omega) (fun v611 ev611 hv611 => ?_)
                                                                          refine zg_sld X hX hbl hbA (by omega) (by omega) dL_law_1130 (fun v612 ev612 => ?_)
                                                                          refine zg_aload_n X 3 rfl dL_law_1131 ?_
                                                                          refine zg_iload_n X 0 rfl dL_law_1132 ?_
                                                                          refine zg_iconst X 2 dL_law_1133 (by decide) (fun v613 _ hv613 => ?_)
                                                                          refine zg_iadd X dL_law_1134 (by omega) (by omega) (fun v614 ev614 hv614 => ?_)
                                                                          refine zg_sld X hX hbl hbA (by omega) (by omega) dL_law_1135 (fun v615 ev615 => ?_)
                                                                          refine zg_aload_n X 3 rfl dL_law_1136 ?_
                                                                          refine zg_iload_n X 0 rfl dL_law_1137 ?_
                                                                          refine zg_iconst X 3 dL_law_1138 (by decide) (fun v616 _ hv616 => ?_)
                                                                          refine zg_iadd X dL_law_1139 (by omega) (by omega) (fun v617 ev617 hv617 => ?_)
                                                                          refine zg_sld X hX hbl hbA (by omega) (by omega) dL_law_1140 (fun v618 ev618 => ?_)
                                                                          refine zg_cVi (As := [.int v612, .int v615, .int v618]) (st := []) X hx0 rfl (by decide) rfl (t_X10_then l d L1 kd1 κ _ hI1 x0 hx0 v612 v615 v618 ) mk_L_154 mc_X10_then mz_X10 mi_X10_then ml_X10_then (na := 3) ⟨md_X10.1, md_X10.2, by decide +kernel⟩ rfl ⟨by decide, by decide⟩ (Nat.le_of_ble_eq_true rfl) dL_law_1141 (fun v619 s620 hq => ?_)
                                                                          obtain ⟨hFs620, hSs620, hq⟩ := hq
                                                                          have h621 := hq
                                                                          have hMs620 := zRM.t hM hx0 hI1 hSs620 (fun V ps pc sl rv sh cd hl hv => by rw [show s620 = (F_X10_then x0 v612 v615 v618 σ1).2 from congrArg Prod.snd hFs620]; exact pThen hl hv v612 v615 v618) (by decide) (by decide)
                                                                          refine zg_pop X dL_law_1144 rfl ?_
                                                                          refine zg_aload_n X 1 rfl dL_law_1145 ?_
                                                                          refine zg_aload_n X 3 rfl dL_law_1146 ?_
                                                                          refine zg_iload_n X 0 rfl dL_law_1147 ?_
                                                                          refine zg_iconst X 1 dL_law_1148 (by decide) (fun v622 _ hv622 => ?_)
                                                                          refine zg_iadd X dL_law_1149 (by omega) (by omega) (fun v623 ev623 hv623 => ?_)
                                                                          refine zg_sld X hX hbl hbA (by omega) (by omega) dL_law_1150 (fun v624 ev624 => ?_)
                                                                          refine zg_aload_n X 3 rfl dL_law_1151 ?_
                                                                          refine zg_iload_n X 0 rfl dL_law_1152 ?_
                                                                          refine zg_iconst X 2 dL_law_1153 (by decide) (fun v625 _ hv625 => ?_)
                                                                          refine zg_iadd X dL_law_1154 (by omega) (by omega) (fun v626 ev626 hv626 => ?_)
                                                                          refine zg_sld X hX hbl hbA (by omega) (by omega) dL_law_1155 (fun v627 ev627 => ?_)
                                                                          refine zg_aload_n X 3 rfl dL_law_1156 ?_
                                                                          refine zg_iload_n X 0 rfl dL_law_1157 ?_
                                                                          refine zg_iconst X 3 dL_law_1158 (by decide) (fun v628 _ hv628 => ?_)
                                                                          refine zg_iadd X dL_law_1159 (by omega) (by omega) (fun v629 ev629 hv629 => ?_)
                                                                          refine zg_sld X hX hbl hbA (by omega) (by omega) dL_law_1160 (fun v630 ev630 => ?_)
                                                                          refine zg_swap ?_
                                                                          have X : zX d L2 kd2 A 4 p s m #[Value.ref b] c cL_law RL := X
                                                                          refine zg_cVi (As := [.int v624, .int v627, .int v630]) (st := []) X hm0 rfl (by decide) rfl (t_X11_then l d L2 kd2 κ _ hI2 m0 hm0 v624 v627 v630  hgN hgH hgE hgL) mk_L_157 mc_X11_then mz_X11 mi_X11_then ml_X11_then (na := 3) ⟨md_X11.1, md_X11.2, by decide +kernel⟩ rfl ⟨by decide, by decide⟩ (Nat.le_of_ble_eq_true rfl) dL_law_1161 (fun v631 s632 hq => ?_)
                                                                          obtain ⟨hFs632, hq⟩ := hq
                                                                          obtain ⟨⟨gNs632, gHs632, gEs632, gLs632⟩, h633, g634⟩ := hq
                                                                          have gKs632 := gK.same h633 hm0 g634 (by decide) hgK
                                                                          have hMs632 := zRM.m hMs620 hI2 hm0 g634 (by decide) (by decide)
                                                                          refine zg_pop X dL_law_1164 rfl ?_
                                                                          refine zg_goto X 1441 dL_law_1165 (by decide) ?_
                                                                          refine zg_iinc X 6 (fun v635 => [(3, .int v635), (2, .ref m0), (1, .ref x0), (0, .ref b)]) 0 dL_law_1441 rfl (by decide) (by decide) (by omega) (by omega) (fun _ => rfl) (fun v635 ev635 hv635 => ?_)
                                                                          refine zg_goto X 18 dL_law_1444 (by decide) ?_
                                                                          refine zg_swap ?_
                                                                          have X : zX d L1 kd1 A 4 p s m #[Value.ref b] c cL_law RL := X
                                                                          refine zg_sub [0, 1, 2, 3] rfl ?_
                                                                          exact ihLp _ _ _ v635 h621 h633 hMs632 gNs632 gHs632 gEs632 gLs632 gKs632 (by omega) (by omega)
                                                                        · skip
                                                                          by_cases q636 : v8.toInt = 34
                                                                          · refine zg_tabIn X 1168 34 dL_law_33 q636 (by decide) (by decide) rfl (by decide) ?_
                                                                            refine zg_aload_n X 2 rfl dL_law_1168 ?_
                                                                            refine zg_aload_n X 3 rfl dL_law_1169 ?_
                                                                            refine zg_iload_n X 0 rfl dL_law_1170 ?_
                                                                            refine zg_iconst X 1 dL_law_1171 (by decide) (fun v637 _ hv637 => ?_)
                                                                            refine zg_iadd X dL_law_1172 (by omega) (by omega) (fun v638 ev638 hv638 => ?_)
                                                                            refine zg_sld X hX hbl hbA (by omega) (by omega) dL_law_1173 (fun v639 ev639 => ?_)
                                                                            refine zg_cVi (As := [.int v639]) (st := []) X hx0 rfl (by decide) rfl (t_X10_flowIn l d L1 kd1 κ _ hI1 x0 hx0 v639 ) mk_L_158 mc_X10_flowIn mz_X10 mi_X10_flowIn ml_X10_flowIn (na := 1) ⟨md_X10.1, md_X10.2, by decide +kernel⟩ rfl ⟨by decide, by decide⟩ (Nat.le_of_ble_eq_true rfl) dL_law_1174 (fun v640 s641 hq => ?_)
                                                                            obtain ⟨hFs641, hSs641, hq⟩ := hq
                                                                            have h642 := hq
                                                                            have hMs641 := zRM.t hM hx0 hI1 hSs641 (fun V ps pc sl rv sh cd hl hv => by rw [show s641 = (F_X10_flowIn x0 v639 σ1).2 from congrArg Prod.snd hFs641]; exact pFlowIn hl hv v639) (by decide) (by decide)
                                                                            refine zg_pop X dL_law_1177 rfl ?_
                                                                            refine zg_aload_n X 1 rfl dL_law_1178 ?_
                                                                            refine zg_aload_n X 3 rfl dL_law_1179 ?_
                                                                            refine zg_iload_n X 0 rfl dL_law_1180 ?_
                                                                            refine zg_iconst X 1 dL_law_1181 (by decide) (fun v643 _ hv643 => ?_)
                                                                            refine zg_iadd X dL_law_1182 (by omega) (by omega) (fun v644 ev644 hv644 => ?_)
                                                                            refine zg_sld X hX hbl hbA (by omega) (by omega) dL_law_1183 (fun v645 ev645 => ?_)
                                                                            refine zg_swap ?_
                                                                            have X : zX d L2 kd2 A 4 p s m #[Value.ref b] c cL_law RL := X
                                                                            refine zg_cVi (As := [.int v645]) (st := []) X hm0 rfl (by decide) rfl (t_X11_flowIn l d L2 kd2 κ _ hI2 m0 hm0 v645  hgN hgH hgE hgL) mk_L_161 mc_X11_flowIn mz_X11 mi_X11_flowIn ml_X11_flowIn (na := 1) ⟨md_X11.1, md_X11.2, by decide +kernel⟩ rfl ⟨by decide, by decide⟩ (Nat.le_of_ble_eq_true rfl) dL_law_1184 (fun v646 s647 hq => ?_)
                                                                            obtain ⟨hFs647, hq⟩ := hq
                                                                            obtain ⟨⟨gNs647, gHs647, gEs647, gLs647⟩, h648, g649⟩ := hq
                                                                            have gKs647 := gK.same h648 hm0 g649 (by decide) hgK
                                                                            have hMs647 := zRM.m hMs641 hI2 hm0 g649 (by decide) (by decide)
                                                                            refine zg_pop X dL_law_1187 rfl ?_
                                                                            refine zg_goto X 1441 dL_law_1188 (by decide) ?_
                                                                            refine zg_iinc X 6 (fun v650 => [(3, .int v650), (2, .ref m0), (1, .ref x0), (0, .ref b)]) 0 dL_law_1441 rfl (by decide) (by decide) (by omega) (by omega) (fun _ => rfl) (fun v650 ev650 hv650 => ?_)
                                                                            refine zg_goto X 18 dL_law_1444 (by decide) ?_
                                                                            refine zg_swap ?_
                                                                            have X : zX d L1 kd1 A 4 p s m #[Value.ref b] c cL_law RL := X
                                                                            refine zg_sub [0, 1, 2, 3] rfl ?_
                                                                            exact ihLp _ _ _ v650 h642 h648 hMs647 gNs647 gHs647 gEs647 gLs647 gKs647 (by omega) (by omega)
                                                                          · skip
                                                                            by_cases q651 : v8.toInt = 35
                                                                            · refine zg_tabIn X 1191 35 dL_law_33 q651 (by decide) (by decide) rfl (by decide) ?_
                                                                              refine zg_aload_n X 2 rfl dL_law_1191 ?_
                                                                              refine zg_aload_n X 3 rfl dL_law_1192 ?_
                                                                              refine zg_iload_n X 0 rfl dL_law_1193 ?_
                                                                              refine zg_iconst X 1 dL_law_1194 (by decide) (fun v652 _ hv652 => ?_)
                                                                              refine zg_iadd X dL_law_1195 (by omega) (by omega) (fun v653 ev653 hv653 => ?_)
                                                                              refine zg_sld X hX hbl hbA (by omega) (by omega) dL_law_1196 (fun v654 ev654 => ?_)
                                                                              refine zg_aload_n X 3 rfl dL_law_1197 ?_
                                                                              refine zg_iload_n X 0 rfl dL_law_1198 ?_
                                                                              refine zg_iconst X 2 dL_law_1199 (by decide) (fun v655 _ hv655 => ?_)
                                                                              refine zg_iadd X dL_law_1200 (by omega) (by omega) (fun v656 ev656 hv656 => ?_)
                                                                              refine zg_sld X hX hbl hbA (by omega) (by omega) dL_law_1201 (fun v657 ev657 => ?_)
                                                                              refine zg_aload_n X 3 rfl dL_law_1202 ?_
                                                                              refine zg_iload_n X 0 rfl dL_law_1203 ?_
                                                                              refine zg_iconst X 3 dL_law_1204 (by decide) (fun v658 _ hv658 => ?_)
                                                                              refine zg_iadd X dL_law_1205 (by omega) (by omega) (fun v659 ev659 hv659 => ?_)
                                                                              refine zg_sld X hX hbl hbA (by omega) (by omega) dL_law_1206 (fun v660 ev660 => ?_)
                                                                              refine zg_cVi (As := [.int v654, .int v657, .int v660]) (st := []) X hx0 rfl (by decide) rfl (t_X10_year l d L1 kd1 κ _ hI1 x0 hx0 v654 v657 v660 ) mk_L_162 mc_X10_year mz_X10 mi_X10_year ml_X10_year (na := 3) ⟨md_X10.1, md_X10.2, by decide +kernel⟩ rfl ⟨by decide, by decide⟩ (Nat.le_of_ble_eq_true rfl) dL_law_1207 (fun v661 s662 hq => ?_)
                                                                              obtain ⟨hFs662, hSs662, hq⟩ := hq
                                                                              have h663 := hq
                                                                              have hMs662 := zRM.t hM hx0 hI1 hSs662 (fun V ps pc sl rv sh cd hl hv => by rw [show s662 = (F_X10_year x0 v654 v657 v660 σ1).2 from congrArg Prod.snd hFs662]; exact pYear hl hv v654 v657 v660) (by decide) (by decide)
                                                                              refine zg_pop X dL_law_1210 rfl ?_
                                                                              refine zg_aload_n X 1 rfl dL_law_1211 ?_
                                                                              refine zg_aload_n X 3 rfl dL_law_1212 ?_
                                                                              refine zg_iload_n X 0 rfl dL_law_1213 ?_
                                                                              refine zg_iconst X 1 dL_law_1214 (by decide) (fun v664 _ hv664 => ?_)
                                                                              refine zg_iadd X dL_law_1215 (by omega) (by omega) (fun v665 ev665 hv665 => ?_)
                                                                              refine zg_sld X hX hbl hbA (by omega) (by omega) dL_law_1216 (fun v666 ev666 => ?_)
                                                                              refine zg_aload_n X 3 rfl dL_law_1217 ?_
                                                                              refine zg_iload_n X 0 rfl dL_law_1218 ?_
                                                                              refine zg_iconst X 2 dL_law_1219 (by decide) (fun v667 _ hv667 => ?_)
                                                                              refine zg_iadd X dL_law_1220 (by omega) (by omega) (fun v668 ev668 hv668 => ?_)
                                                                              refine zg_sld X hX hbl hbA (by omega) (by omega) dL_law_1221 (fun v669 ev669 => ?_)
                                                                              refine zg_aload_n X 3 rfl dL_law_1222 ?_
                                                                              refine zg_iload_n X 0 rfl dL_law_1223 ?_
                                                                              refine zg_iconst X 3 dL_law_1224 (by decide) (fun v670 _ hv670 => ?_)
                                                                              refine zg_iadd X dL_law_1225 (by omega) (by omega) (fun v671 ev671 hv671 => ?_)
                                                                              refine zg_sld X hX hbl hbA (by omega) (by omega) dL_law_1226 (fun v672 ev672 => ?_)
                                                                              refine zg_swap ?_
                                                                              have X : zX d L2 kd2 A 4 p s m #[Value.ref b] c cL_law RL := X
                                                                              refine zg_cVi (As := [.int v666, .int v669, .int v672]) (st := []) X hm0 rfl (by decide) rfl (t_X11_year l d L2 kd2 κ _ hI2 m0 hm0 v666 v669 v672  hgN hgH hgE hgL) mk_L_165 mc_X11_year mz_X11 mi_X11_year ml_X11_year (na := 3) ⟨md_X11.1, md_X11.2, by decide +kernel⟩ rfl ⟨by decide, by decide⟩ (Nat.le_of_ble_eq_true rfl) dL_law_1227 (fun v673 s674 hq => ?_)
                                                                              obtain ⟨hFs674, hq⟩ := hq
                                                                              obtain ⟨⟨gNs674, gHs674, gEs674, gLs674⟩, h675, g676⟩ := hq
                                                                              have gKs674 := gK.same h675 hm0 g676 (by decide) hgK
                                                                              have hMs674 := zRM.m hMs662 hI2 hm0 g676 (by decide) (by decide)
                                                                              refine zg_pop X dL_law_1230 rfl ?_
                                                                              refine zg_goto X 1441 dL_law_1231 (by decide) ?_
                                                                              refine zg_iinc X 6 (fun v677 => [(3, .int v677), (2, .ref m0), (1, .ref x0), (0, .ref b)]) 0 dL_law_1441 rfl (by decide) (by decide) (by omega) (by omega) (fun _ => rfl) (fun v677 ev677 hv677 => ?_)
                                                                              refine zg_goto X 18 dL_law_1444 (by decide) ?_
                                                                              refine zg_swap ?_
                                                                              have X : zX d L1 kd1 A 4 p s m #[Value.ref b] c cL_law RL := X
                                                                              refine zg_sub [0, 1, 2, 3] rfl ?_
                                                                              exact ihLp _ _ _ v677 h663 h675 hMs674 gNs674 gHs674 gEs674 gLs674 gKs674 (by omega) (by omega)
                                                                            · skip
                                                                              by_cases q678 : v8.toInt = 36
                                                                              · refine zg_tabIn X 1234 36 dL_law_33 q678 (by decide) (by decide) rfl (by decide) ?_
                                                                                refine zg_aload_n X 2 rfl dL_law_1234 ?_
                                                                                refine zg_aload_n X 3 rfl dL_law_1235 ?_
                                                                                refine zg_iload_n X 0 rfl dL_law_1236 ?_
                                                                                refine zg_iconst X 1 dL_law_1237 (by decide) (fun v679 _ hv679 => ?_)
                                                                                refine zg_iadd X dL_law_1238 (by omega) (by omega) (fun v680 ev680 hv680 => ?_)
                                                                                refine zg_sld X hX hbl hbA (by omega) (by omega) dL_law_1239 (fun v681 ev681 => ?_)
                                                                                refine zg_aload_n X 3 rfl dL_law_1240 ?_
                                                                                refine zg_iload_n X 0 rfl dL_law_1241 ?_
                                                                                refine zg_iconst X 2 dL_law_1242 (by decide) (fun v682 _ hv682 => ?_)
                                                                                refine zg_iadd X dL_law_1243 (by omega) (by omega) (fun v683 ev683 hv683 => ?_)
                                                                                refine zg_sld X hX hbl hbA (by omega) (by omega) dL_law_1244 (fun v684 ev684 => ?_)
                                                                                refine zg_aload_n X 3 rfl dL_law_1245 ?_
                                                                                refine zg_iload_n X 0 rfl dL_law_1246 ?_
                                                                                refine zg_iconst X 3 dL_law_1247 (by decide) (fun v685 _ hv685 => ?_)
                                                                                refine zg_iadd X dL_law_1248 (by omega) (by omega) (fun v686 ev686 hv686 => ?_)
                                                                                refine zg_sld X hX hbl hbA (by omega) (by omega) dL_law_1249 (fun v687 ev687 => ?_)
                                                                                refine zg_aload_n X 3 rfl dL_law_1250 ?_
                                                                                refine zg_iload_n X 0 rfl dL_law_1251 ?_
                                                                                refine zg_iconst X 4 dL_law_1252 (by decide) (fun v688 _ hv688 => ?_)
                                                                                refine zg_iadd X dL_law_1253 (by omega) (by omega) (fun v689 ev689 hv689 => ?_)
                                                                                refine zg_sld X hX hbl hbA (by omega) (by omega) dL_law_1254 (fun v690 ev690 => ?_)
                                                                                refine zg_if_eq X 1262 dL_law_1255 (by decide) (fun c691 => ?_) (fun c691 => ?_)
                                                                                · skip
                                                                                  refine zg_iconst X 0 dL_law_1262 (by decide) (fun v692 _ hv692 => ?_)
                                                                                  refine zg_cVi (As := [.int v681, .int v684, .int v687, .int v692]) (st := []) X hx0 rfl (by decide) rfl (t_X10_tell l d L1 kd1 κ _ hI1 x0 hx0 v681 v684 v687 v692 (by omega)) mk_L_166 mc_X10_tell mz_X10 mi_X10_tell ml_X10_tell (na := 4) ⟨md_X10.1, md_X10.2, by decide +kernel⟩ rfl ⟨by decide, by decide⟩ (Nat.le_of_ble_eq_true rfl) dL_law_1263 (fun v693 s694 hq => ?_)
                                                                                  obtain ⟨hFs694, hSs694, hq⟩ := hq
                                                                                  have h695 := hq
                                                                                  refine zg_pop X dL_law_1266 rfl ?_
                                                                                  refine zg_aload_n X 1 rfl dL_law_1267 ?_
                                                                                  refine zg_aload_n X 3 rfl dL_law_1268 ?_
                                                                                  refine zg_iload_n X 0 rfl dL_law_1269 ?_
                                                                                  refine zg_iconst X 1 dL_law_1270 (by decide) (fun v696 _ hv696 => ?_)
                                                                                  refine zg_iadd X dL_law_1271 (by omega) (by omega) (fun v697 ev697 hv697 => ?_)
                                                                                  refine zg_sld X hX hbl hbA (by omega) (by omega) dL_law_1272 (fun v698 ev698 => ?_)
                                                                                  have wv698 : v698 = v681 := by rw [ev698, ev681, show v697 = v680 from Int32.toInt_inj.mp (by omega)]
                                                                                  have tv698 : v698.toInt = v681.toInt := by rw [wv698]
                                                                                  refine zg_aload_n X 3 rfl dL_law_1273 ?_
                                                                                  refine zg_iload_n X 0 rfl dL_law_1274 ?_
                                                                                  refine zg_iconst X 2 dL_law_1275 (by decide) (fun v699 _ hv699 => ?_)
                                                                                  refine zg_iadd X dL_law_1276 (by omega) (by omega) (fun v700 ev700 hv700 => ?_)
                                                                                  refine zg_sld X hX hbl hbA (by omega) (by omega) dL_law_1277 (fun v701 ev701 => ?_)
                                                                                  have wv701 : v701 = v684 := by rw [ev701, ev684, show v700 = v683 from Int32.toInt_inj.mp (by omega)]
                                                                                  have tv701 : v701.toInt = v684.toInt := by rw [wv701]
                                                                                  refine zg_aload_n X 3 rfl dL_law_1278 ?_
                                                                                  refine zg_iload_n X 0 rfl dL_law_1279 ?_
                                                                                  refine zg_iconst X 3 dL_law_1280 (by decide) (fun v702 _ hv702 => ?_)
                                                                                  refine zg_iadd X dL_law_1281 (by omega) (by omega) (fun v703 ev703 hv703 => ?_)
                                                                                  refine zg_sld X hX hbl hbA (by omega) (by omega) dL_law_1282 (fun v704 ev704 => ?_)
                                                                                  have wv704 : v704 = v687 := by rw [ev704, ev687, show v703 = v686 from Int32.toInt_inj.mp (by omega)]
                                                                                  have tv704 : v704.toInt = v687.toInt := by rw [wv704]
                                                                                  refine zg_aload_n X 3 rfl dL_law_1283 ?_
                                                                                  refine zg_iload_n X 0 rfl dL_law_1284 ?_
                                                                                  refine zg_iconst X 4 dL_law_1285 (by decide) (fun v705 _ hv705 => ?_)
                                                                                  refine zg_iadd X dL_law_1286 (by omega) (by omega) (fun v706 ev706 hv706 => ?_)
                                                                                  refine zg_sld X hX hbl hbA (by omega) (by omega) dL_law_1287 (fun v707 ev707 => ?_)
                                                                                  have wv707 : v707 = v690 := by rw [ev707, ev690, show v706 = v689 from Int32.toInt_inj.mp (by omega)]
                                                                                  have tv707 : v707.toInt = v690.toInt := by rw [wv707]
                                                                                  refine zg_if_eq X 1295 dL_law_1288 (by decide) (fun c708 => ?_) (fun c708 => ?_)
                                                                                  · skip
                                                                                    refine zg_iconst X 0 dL_law_1295 (by decide) (fun v709 _ hv709 => ?_)
                                                                                    refine zg_swap ?_
                                                                                    have X : zX d L2 kd2 A 4 p s m #[Value.ref b] c cL_law RL := X
                                                                                    have bv709 : v709 = v692 := Int32.toInt_inj.mp (by omega)
                                                                                    refine zg_cVi (As := [.int v698, .int v701, .int v704, .int v709]) (st := []) X hm0 rfl (by decide) rfl (t_X11_tell l d L2 kd2 κ _ hI2 m0 hm0 v698 v701 v704 v709 (by omega) hgN hgH hgE hgL) mk_L_170 mc_X11_tell mz_X11 mi_X11_tell ml_X11_tell (na := 4) ⟨md_X11.1, md_X11.2, by decide +kernel⟩ rfl ⟨by decide, by decide⟩ (Nat.le_of_ble_eq_true rfl) dL_law_1296 (fun v710 s711 hq => ?_)
                                                                                    obtain ⟨hFs711, hq⟩ := hq
                                                                                    obtain ⟨⟨gNs711, gHs711, gEs711, gLs711⟩, h712, g713⟩ := hq
                                                                                    have gKs711 := gK.same h712 hm0 g713 (by decide) hgK
                                                                                    rw [wv698, wv701, wv704, bv709] at hFs711
                                                                                    obtain ⟨hvs711, hMs711⟩ := zRM.tell hM hI1 hI2 hx0 hm0 hFs694 hFs711 hSs694 g713
                                                                                    refine zg_pop X dL_law_1299 rfl ?_
                                                                                    refine zg_goto X 1441 dL_law_1300 (by decide) ?_
                                                                                    refine zg_iinc X 6 (fun v714 => [(3, .int v714), (2, .ref m0), (1, .ref x0), (0, .ref b)]) 0 dL_law_1441 rfl (by decide) (by decide) (by omega) (by omega) (fun _ => rfl) (fun v714 ev714 hv714 => ?_)
                                                                                    refine zg_goto X 18 dL_law_1444 (by decide) ?_
                                                                                    refine zg_swap ?_
                                                                                    have X : zX d L1 kd1 A 4 p s m #[Value.ref b] c cL_law RL := X
                                                                                    refine zg_sub [0, 1, 2, 3] rfl ?_
                                                                                    exact ihLp _ _ _ v714 h695 h712 hMs711 gNs711 gHs711 gEs711 gLs711 gKs711 (by omega) (by omega)
                                                                                  · skip
                                                                                    refine zg_iconst X 1 dL_law_1291 (by decide) (fun v715 _ hv715 => ?_)
                                                                                    refine zg_goto X 1296 dL_law_1292 (by decide) ?_
                                                                                    refine zg_swap ?_
                                                                                    have X : zX d L2 kd2 A 4 p s m #[Value.ref b] c cL_law RL := X
                                                                                    exfalso
                                                                                    omega
                                                                                · skip
                                                                                  refine zg_iconst X 1 dL_law_1258 (by decide) (fun v717 _ hv717 => ?_)
                                                                                  refine zg_goto X 1263 dL_law_1259 (by decide) ?_
                                                                                  refine zg_cVi (As := [.int v681, .int v684, .int v687, .int v717]) (st := []) X hx0 rfl (by decide) rfl (t_X10_tell l d L1 kd1 κ _ hI1 x0 hx0 v681 v684 v687 v717 (by omega)) mk_L_166 mc_X10_tell mz_X10 mi_X10_tell ml_X10_tell (na := 4) ⟨md_X10.1, md_X10.2, by decide +kernel⟩ rfl ⟨by decide, by decide⟩ (Nat.le_of_ble_eq_true rfl) dL_law_1263 (fun v718 s719 hq => ?_)
                                                                                  obtain ⟨hFs719, hSs719, hq⟩ := hq
                                                                                  have h720 := hq
                                                                                  refine zg_pop X dL_law_1266 rfl ?_
                                                                                  refine zg_aload_n X 1 rfl dL_law_1267 ?_
                                                                                  refine zg_aload_n X 3 rfl dL_law_1268 ?_
                                                                                  refine zg_iload_n X 0 rfl dL_law_1269 ?_
                                                                                  refine zg_iconst X 1 dL_law_1270 (by decide) (fun v721 _ hv721 => ?_)
                                                                                  refine zg_iadd X dL_law_1271 (by omega) (by omega) (fun v722 ev722 hv722 => ?_)
                                                                                  refine zg_sld X hX hbl hbA (by omega) (by omega) dL_law_1272 (fun v723 ev723 => ?_)
                                                                                  have wv723 : v723 = v681 := by rw [ev723, ev681, show v722 = v680 from Int32.toInt_inj.mp (by omega)]
                                                                                  have tv723 : v723.toInt = v681.toInt := by rw [wv723]
                                                                                  refine zg_aload_n X 3 rfl dL_law_1273 ?_
                                                                                  refine zg_iload_n X 0 rfl dL_law_1274 ?_
                                                                                  refine zg_iconst X 2 dL_law_1275 (by decide) (fun v724 _ hv724 => ?_)
                                                                                  refine zg_iadd X dL_law_1276 (by omega) (by omega) (fun v725 ev725 hv725 => ?_)
                                                                                  refine zg_sld X hX hbl hbA (by omega) (by omega) dL_law_1277 (fun v726 ev726 => ?_)
                                                                                  have wv726 : v726 = v684 := by rw [ev726, ev684, show v725 = v683 from Int32.toInt_inj.mp (by omega)]
                                                                                  have tv726 : v726.toInt = v684.toInt := by rw [wv726]
                                                                                  refine zg_aload_n X 3 rfl dL_law_1278 ?_
                                                                                  refine zg_iload_n X 0 rfl dL_law_1279 ?_
                                                                                  refine zg_iconst X 3 dL_law_1280 (by decide) (fun v727 _ hv727 => ?_)
                                                                                  refine zg_iadd X dL_law_1281 (by omega) (by omega) (fun v728 ev728 hv728 => ?_)
                                                                                  refine zg_sld X hX hbl hbA (by omega) (by omega) dL_law_1282 (fun v729 ev729 => ?_)
                                                                                  have wv729 : v729 = v687 := by rw [ev729, ev687, show v728 = v686 from Int32.toInt_inj.mp (by omega)]
                                                                                  have tv729 : v729.toInt = v687.toInt := by rw [wv729]
                                                                                  refine zg_aload_n X 3 rfl dL_law_1283 ?_
                                                                                  refine zg_iload_n X 0 rfl dL_law_1284 ?_
                                                                                  refine zg_iconst X 4 dL_law_1285 (by decide) (fun v730 _ hv730 => ?_)
                                                                                  refine zg_iadd X dL_law_1286 (by omega) (by omega) (fun v731 ev731 hv731 => ?_)
                                                                                  refine zg_sld X hX hbl hbA (by omega) (by omega) dL_law_1287 (fun v732 ev732 => ?_)
                                                                                  have wv732 : v732 = v690 := by rw [ev732, ev690, show v731 = v689 from Int32.toInt_inj.mp (by omega)]
                                                                                  have tv732 : v732.toInt = v690.toInt := by rw [wv732]
                                                                                  refine zg_if_eq X 1295 dL_law_1288 (by decide) (fun c733 => ?_) (fun c733 => ?_)
                                                                                  · skip
                                                                                    refine zg_iconst X 0 dL_law_1295 (by decide) (fun v734 _ hv734 => ?_)
                                                                                    refine zg_swap ?_
                                                                                    have X : zX d L2 kd2 A 4 p s m #[Value.ref b] c cL_law RL := X
                                                                                    exfalso
                                                                                    omega
                                                                                  · skip
                                                                                    refine zg_iconst X 1 dL_law_1291 (by decide) (fun v736 _ hv736 => ?_)
                                                                                    refine zg_goto X 1296 dL_law_1292 (by decide) ?_
                                                                                    refine zg_swap ?_
                                                                                    have X : zX d L2 kd2 A 4 p s m #[Value.ref b] c cL_law RL := X
                                                                                    have bv736 : v736 = v717 := Int32.toInt_inj.mp (by omega)
                                                                                    refine zg_cVi (As := [.int v723, .int v726, .int v729, .int v736]) (st := []) X hm0 rfl (by decide) rfl (t_X11_tell l d L2 kd2 κ _ hI2 m0 hm0 v723 v726 v729 v736 (by omega) hgN hgH hgE hgL) mk_L_170 mc_X11_tell mz_X11 mi_X11_tell ml_X11_tell (na := 4) ⟨md_X11.1, md_X11.2, by decide +kernel⟩ rfl ⟨by decide, by decide⟩ (Nat.le_of_ble_eq_true rfl) dL_law_1296 (fun v737 s738 hq => ?_)
                                                                                    obtain ⟨hFs738, hq⟩ := hq
                                                                                    obtain ⟨⟨gNs738, gHs738, gEs738, gLs738⟩, h739, g740⟩ := hq
                                                                                    have gKs738 := gK.same h739 hm0 g740 (by decide) hgK
                                                                                    rw [wv723, wv726, wv729, bv736] at hFs738
                                                                                    obtain ⟨hvs738, hMs738⟩ := zRM.tell hM hI1 hI2 hx0 hm0 hFs719 hFs738 hSs719 g740
                                                                                    refine zg_pop X dL_law_1299 rfl ?_
                                                                                    refine zg_goto X 1441 dL_law_1300 (by decide) ?_
                                                                                    refine zg_iinc X 6 (fun v741 => [(3, .int v741), (2, .ref m0), (1, .ref x0), (0, .ref b)]) 0 dL_law_1441 rfl (by decide) (by decide) (by omega) (by omega) (fun _ => rfl) (fun v741 ev741 hv741 => ?_)
                                                                                    refine zg_goto X 18 dL_law_1444 (by decide) ?_
                                                                                    refine zg_swap ?_
                                                                                    have X : zX d L1 kd1 A 4 p s m #[Value.ref b] c cL_law RL := X
                                                                                    refine zg_sub [0, 1, 2, 3] rfl ?_
                                                                                    exact ihLp _ _ _ v741 h720 h739 hMs738 gNs738 gHs738 gEs738 gLs738 gKs738 (by omega) (by omega)
                                                                              · skip
                                                                                by_cases q742 : v8.toInt = 37
                                                                                · refine zg_tabIn X 1303 37 dL_law_33 q742 (by decide) (by decide) rfl (by decide) ?_
                                                                                  refine zg_aload_n X 2 rfl dL_law_1303 ?_
                                                                                  refine zg_cVi (As := []) (st := []) X hx0 rfl (by decide) rfl (t_X10_forget l d L1 kd1 κ _ hI1 x0 hx0  ) mk_L_171 mc_X10_forget mz_X10 mi_X10_forget ml_X10_forget (na := 0) ⟨md_X10.1, md_X10.2, by decide +kernel⟩ rfl ⟨by decide, by decide⟩ (Nat.le_of_ble_eq_true rfl) dL_law_1304 (fun v743 s744 hq => ?_)
                                                                                  obtain ⟨hFs744, hSs744, hq⟩ := hq
                                                                                  have h745 := hq
                                                                                  refine zg_pop X dL_law_1307 rfl ?_
                                                                                  refine zg_aload_n X 1 rfl dL_law_1308 ?_
                                                                                  refine zg_swap ?_
                                                                                  have X : zX d L2 kd2 A 4 p s m #[Value.ref b] c cL_law RL := X
                                                                                  refine zg_cVi (As := []) (st := []) X hm0 rfl (by decide) rfl (t_X11_forget l d L2 kd2 κ _ hI2 m0 hm0   hgN hgH hgE hgL) mk_L_174 mc_X11_forget mz_X11 mi_X11_forget ml_X11_forget (na := 0) ⟨md_X11.1, md_X11.2, by decide +kernel⟩ rfl ⟨by decide, by decide⟩ (Nat.le_of_ble_eq_true rfl) dL_law_1309 (fun v746 s747 hq => ?_)
                                                                                  obtain ⟨hFs747, hq⟩ := hq
                                                                                  obtain ⟨⟨gNs747, gHs747, gEs747, gLs747⟩, h748, g749⟩ := hq
                                                                                  have gKs747 := gK.same h748 hm0 g749 (by decide) hgK
                                                                                  obtain ⟨hvs747, hMs747⟩ := zRM.forget hM hI1 hI2 hx0 hm0 hFs744 hFs747 hSs744 g749
                                                                                  refine zg_pop X dL_law_1312 rfl ?_
                                                                                  refine zg_goto X 1441 dL_law_1313 (by decide) ?_
                                                                                  refine zg_iinc X 6 (fun v750 => [(3, .int v750), (2, .ref m0), (1, .ref x0), (0, .ref b)]) 0 dL_law_1441 rfl (by decide) (by decide) (by omega) (by omega) (fun _ => rfl) (fun v750 ev750 hv750 => ?_)
                                                                                  refine zg_goto X 18 dL_law_1444 (by decide) ?_
                                                                                  refine zg_swap ?_
                                                                                  have X : zX d L1 kd1 A 4 p s m #[Value.ref b] c cL_law RL := X
                                                                                  refine zg_sub [0, 1, 2, 3] rfl ?_
                                                                                  exact ihLp _ _ _ v750 h745 h748 hMs747 gNs747 gHs747 gEs747 gLs747 gKs747 (by omega) (by omega)
                                                                                · skip
                                                                                  by_cases q751 : v8.toInt = 38
                                                                                  · refine zg_tabIn X 1316 38 dL_law_33 q751 (by decide) (by decide) rfl (by decide) ?_
                                                                                    refine zg_aload_n X 2 rfl dL_law_1316 ?_
                                                                                    refine zg_aload_n X 3 rfl dL_law_1317 ?_
                                                                                    refine zg_iload_n X 0 rfl dL_law_1318 ?_
                                                                                    refine zg_iconst X 1 dL_law_1319 (by decide) (fun v752 _ hv752 => ?_)
                                                                                    refine zg_iadd X dL_law_1320 (by omega) (by omega) (fun v753 ev753 hv753 => ?_)
                                                                                    refine zg_sld X hX hbl hbA (by omega) (by omega) dL_law_1321 (fun v754 ev754 => ?_)
                                                                                    refine zg_aload_n X 3 rfl dL_law_1322 ?_
                                                                                    refine zg_iload_n X 0 rfl dL_law_1323 ?_
                                                                                    refine zg_iconst X 2 dL_law_1324 (by decide) (fun v755 _ hv755 => ?_)
                                                                                    refine zg_iadd X dL_law_1325 (by omega) (by omega) (fun v756 ev756 hv756 => ?_)
                                                                                    refine zg_sld X hX hbl hbA (by omega) (by omega) dL_law_1326 (fun v757 ev757 => ?_)
                                                                                    refine zg_cVi (As := [.int v754, .int v757]) (st := []) X hx0 rfl (by decide) rfl (t_X10_dyed l d L1 kd1 κ _ hI1 x0 hx0 v754 v757 ) mk_L_175 mc_X10_dyed mz_X10 mi_X10_dyed ml_X10_dyed (na := 2) ⟨md_X10.1, md_X10.2, by decide +kernel⟩ rfl ⟨by decide, by decide⟩ (Nat.le_of_ble_eq_true rfl) dL_law_1327 (fun v758 s759 hq => ?_)
                                                                                    obtain ⟨hFs759, hSs759, hq⟩ := hq
                                                                                    have h760 := hq
                                                                                    have hMs759 := zRM.c hM hx0 hI1 hSs759 (zRy.of (rz_X10_dyed zRz.rf) hFs759) (by decide) (by decide)
                                                                                    refine zg_pop X dL_law_1330 rfl ?_
                                                                                    refine zg_aload_n X 1 rfl dL_law_1331 ?_
                                                                                    refine zg_aload_n X 3 rfl dL_law_1332 ?_
                                                                                    refine zg_iload_n X 0 rfl dL_law_1333 ?_
                                                                                    refine zg_iconst X 1 dL_law_1334 (by decide) (fun v761 _ hv761 => ?_)
                                                                                    refine zg_iadd X dL_law_1335 (by omega) (by omega) (fun v762 ev762 hv762 => ?_)
                                                                                    refine zg_sld X hX hbl hbA (by omega) (by omega) dL_law_1336 (fun v763 ev763 => ?_)
                                                                                    refine zg_aload_n X 3 rfl dL_law_1337 ?_
                                                                                    refine zg_iload_n X 0 rfl dL_law_1338 ?_
                                                                                    refine zg_iconst X 2 dL_law_1339 (by decide) (fun v764 _ hv764 => ?_)
                                                                                    refine zg_iadd X dL_law_1340 (by omega) (by omega) (fun v765 ev765 hv765 => ?_)
                                                                                    refine zg_sld X hX hbl hbA (by omega) (by omega) dL_law_1341 (fun v766 ev766 => ?_)
                                                                                    refine zg_swap ?_
                                                                                    have X : zX d L2 kd2 A 4 p s m #[Value.ref b] c cL_law RL := X
                                                                                    refine zg_cVi (As := [.int v763, .int v766]) (st := []) X hm0 rfl (by decide) rfl (t_X11_dyed l d L2 kd2 κ _ hI2 m0 hm0 v763 v766  hgN hgH hgE hgL) mk_L_178 mc_X11_dyed mz_X11 mi_X11_dyed ml_X11_dyed (na := 2) ⟨md_X11.1, md_X11.2, by decide +kernel⟩ rfl ⟨by decide, by decide⟩ (Nat.le_of_ble_eq_true rfl) dL_law_1342 (fun v767 s768 hq => ?_)
                                                                                    obtain ⟨hFs768, hq⟩ := hq
                                                                                    obtain ⟨⟨gNs768, gHs768, gEs768, gLs768⟩, h769, g770⟩ := hq
                                                                                    have gKs768 := gK.same h769 hm0 g770 (by decide) hgK
                                                                                    have hMs768 := zRM.m hMs759 hI2 hm0 g770 (by decide) (by decide)
                                                                                    refine zg_pop X dL_law_1345 rfl ?_
                                                                                    refine zg_goto X 1441 dL_law_1346 (by decide) ?_
                                                                                    refine zg_iinc X 6 (fun v771 => [(3, .int v771), (2, .ref m0), (1, .ref x0), (0, .ref b)]) 0 dL_law_1441 rfl (by decide) (by decide) (by omega) (by omega) (fun _ => rfl) (fun v771 ev771 hv771 => ?_)
                                                                                    refine zg_goto X 18 dL_law_1444 (by decide) ?_
                                                                                    refine zg_swap ?_
                                                                                    have X : zX d L1 kd1 A 4 p s m #[Value.ref b] c cL_law RL := X
                                                                                    refine zg_sub [0, 1, 2, 3] rfl ?_
                                                                                    exact ihLp _ _ _ v771 h760 h769 hMs768 gNs768 gHs768 gEs768 gLs768 gKs768 (by omega) (by omega)
                                                                                  · skip
                                                                                    by_cases q772 : v8.toInt = 39
                                                                                    · refine zg_tabIn X 1349 39 dL_law_33 q772 (by decide) (by decide) rfl (by decide) ?_
                                                                                      refine zg_aload_n X 2 rfl dL_law_1349 ?_
                                                                                      refine zg_aload_n X 3 rfl dL_law_1350 ?_
                                                                                      refine zg_iload_n X 0 rfl dL_law_1351 ?_
                                                                                      refine zg_iconst X 1 dL_law_1352 (by decide) (fun v773 _ hv773 => ?_)
                                                                                      refine zg_iadd X dL_law_1353 (by omega) (by omega) (fun v774 ev774 hv774 => ?_)
                                                                                      refine zg_sld X hX hbl hbA (by omega) (by omega) dL_law_1354 (fun v775 ev775 => ?_)
                                                                                      refine zg_cVi (As := [.int v775]) (st := []) X hx0 rfl (by decide) rfl (t_X10_watch l d L1 kd1 κ _ hI1 x0 hx0 v775 ) mk_L_179 mc_X10_watch mz_X10 mi_X10_watch ml_X10_watch (na := 1) ⟨md_X10.1, md_X10.2, by decide +kernel⟩ rfl ⟨by decide, by decide⟩ (Nat.le_of_ble_eq_true rfl) dL_law_1355 (fun v776 s777 hq => ?_)
                                                                                      obtain ⟨hFs777, hSs777, hq⟩ := hq
                                                                                      have h778 := hq
                                                                                      have hMs777 := zRM.c hM hx0 hI1 hSs777 (zRy.of (rz_X10_watch zRz.rf) hFs777) (by decide) (by decide)
                                                                                      refine zg_pop X dL_law_1358 rfl ?_
                                                                                      refine zg_aload_n X 1 rfl dL_law_1359 ?_
                                                                                      refine zg_aload_n X 3 rfl dL_law_1360 ?_
                                                                                      refine zg_iload_n X 0 rfl dL_law_1361 ?_
                                                                                      refine zg_iconst X 1 dL_law_1362 (by decide) (fun v779 _ hv779 => ?_)
                                                                                      refine zg_iadd X dL_law_1363 (by omega) (by omega) (fun v780 ev780 hv780 => ?_)
                                                                                      refine zg_sld X hX hbl hbA (by omega) (by omega) dL_law_1364 (fun v781 ev781 => ?_)
                                                                                      refine zg_swap ?_
                                                                                      have X : zX d L2 kd2 A 4 p s m #[Value.ref b] c cL_law RL := X
                                                                                      refine zg_cVi (As := [.int v781]) (st := []) X hm0 rfl (by decide) rfl (t_X11_watch l d L2 kd2 κ _ hI2 m0 hm0 v781  hgN hgH hgE hgL) mk_L_182 mc_X11_watch mz_X11 mi_X11_watch ml_X11_watch (na := 1) ⟨md_X11.1, md_X11.2, by decide +kernel⟩ rfl ⟨by decide, by decide⟩ (Nat.le_of_ble_eq_true rfl) dL_law_1365 (fun v782 s783 hq => ?_)
                                                                                      obtain ⟨hFs783, hq⟩ := hq
                                                                                      obtain ⟨⟨gNs783, gHs783, gEs783, gLs783⟩, h784, g785⟩ := hq
                                                                                      have gKs783 := gK.same h784 hm0 g785 (by decide) hgK
                                                                                      have hMs783 := zRM.m hMs777 hI2 hm0 g785 (by decide) (by decide)
                                                                                      refine zg_pop X dL_law_1368 rfl ?_
                                                                                      refine zg_goto X 1441 dL_law_1369 (by decide) ?_
                                                                                      refine zg_iinc X 6 (fun v786 => [(3, .int v786), (2, .ref m0), (1, .ref x0), (0, .ref b)]) 0 dL_law_1441 rfl (by decide) (by decide) (by omega) (by omega) (fun _ => rfl) (fun v786 ev786 hv786 => ?_)
                                                                                      refine zg_goto X 18 dL_law_1444 (by decide) ?_
                                                                                      refine zg_swap ?_
                                                                                      have X : zX d L1 kd1 A 4 p s m #[Value.ref b] c cL_law RL := X
                                                                                      refine zg_sub [0, 1, 2, 3] rfl ?_
                                                                                      exact ihLp _ _ _ v786 h778 h784 hMs783 gNs783 gHs783 gEs783 gLs783 gKs783 (by omega) (by omega)
                                                                                    · skip
                                                                                      by_cases q787 : v8.toInt = 40
                                                                                      · refine zg_tabIn X 1372 40 dL_law_33 q787 (by decide) (by decide) rfl (by decide) ?_
                                                                                        refine zg_aload_n X 2 rfl dL_law_1372 ?_
                                                                                        refine zg_aload_n X 3 rfl dL_law_1373 ?_
                                                                                        refine zg_iload_n X 0 rfl dL_law_1374 ?_
                                                                                        refine zg_iconst X 1 dL_law_1375 (by decide) (fun v788 _ hv788 => ?_)
                                                                                        refine zg_iadd X dL_law_1376 (by omega) (by omega) (fun v789 ev789 hv789 => ?_)
                                                                                        refine zg_sld X hX hbl hbA (by omega) (by omega) dL_law_1377 (fun v790 ev790 => ?_)
                                                                                        refine zg_cVi (As := [.int v790]) (st := []) X hx0 rfl (by decide) rfl (t_X10_hold l d L1 kd1 κ _ hI1 x0 hx0 v790 ) mk_L_183 mc_X10_hold mz_X10 mi_X10_hold ml_X10_hold (na := 1) ⟨md_X10.1, md_X10.2, by decide +kernel⟩ rfl ⟨by decide, by decide⟩ (Nat.le_of_ble_eq_true rfl) dL_law_1378 (fun v791 s792 hq => ?_)
                                                                                        obtain ⟨hFs792, hSs792, hq⟩ := hq
                                                                                        obtain ⟨hzh793, h793⟩ := hq
                                                                                        refine zg_pop X dL_law_1381 rfl ?_
                                                                                        refine zg_aload_n X 1 rfl dL_law_1382 ?_
                                                                                        refine zg_aload_n X 3 rfl dL_law_1383 ?_
                                                                                        refine zg_iload_n X 0 rfl dL_law_1384 ?_
                                                                                        refine zg_iconst X 1 dL_law_1385 (by decide) (fun v794 _ hv794 => ?_)
                                                                                        refine zg_iadd X dL_law_1386 (by omega) (by omega) (fun v795 ev795 hv795 => ?_)
                                                                                        refine zg_sld X hX hbl hbA (by omega) (by omega) dL_law_1387 (fun v796 ev796 => ?_)
                                                                                        have wv796 : v796 = v790 := by rw [ev796, ev790, show v795 = v789 from Int32.toInt_inj.mp (by omega)]
                                                                                        have tv796 : v796.toInt = v790.toInt := by rw [wv796]
                                                                                        refine zg_swap ?_
                                                                                        have X : zX d L2 kd2 A 4 p s m #[Value.ref b] c cL_law RL := X
                                                                                        refine zg_cVi (As := [.int v796]) (st := []) X hm0 rfl (by decide) rfl (t_X11_hold l d L2 kd2 κ _ hI2 m0 hm0 v796  hgN hgH hgE hgL) mk_L_186 mc_X11_hold mz_X11 mi_X11_hold ml_X11_hold (na := 1) ⟨md_X11.1, md_X11.2, by decide +kernel⟩ rfl ⟨by decide, by decide⟩ (Nat.le_of_ble_eq_true rfl) dL_law_1388 (fun v797 s798 hq => ?_)
                                                                                        obtain ⟨hFs798, hq⟩ := hq
                                                                                        obtain ⟨⟨fs798_res, fs798_fact0, gNs798, gHs798, gEs798, gLs798⟩, h799, g800⟩ := hq
                                                                                        have gKs798 := gK.same h799 hm0 g800 (by decide) hgK
                                                                                        rw [wv796] at hFs798
                                                                                        obtain ⟨hvs798, hMs798⟩ := zRM.hold hM hI1 hI2 hx0 hm0 hFs792 hFs798 hSs792 g800
                                                                                        refine zg_pop X dL_law_1391 rfl ?_
                                                                                        refine zg_goto X 1441 dL_law_1392 (by decide) ?_
                                                                                        refine zg_iinc X 6 (fun v801 => [(3, .int v801), (2, .ref m0), (1, .ref x0), (0, .ref b)]) 0 dL_law_1441 rfl (by decide) (by decide) (by omega) (by omega) (fun _ => rfl) (fun v801 ev801 hv801 => ?_)
                                                                                        refine zg_goto X 18 dL_law_1444 (by decide) ?_
                                                                                        refine zg_swap ?_
                                                                                        have X : zX d L1 kd1 A 4 p s m #[Value.ref b] c cL_law RL := X
                                                                                        refine zg_sub [0, 1, 2, 3] rfl ?_
                                                                                        exact ihLp _ _ _ v801 h793 h799 hMs798 gNs798 gHs798 gEs798 gLs798 gKs798 (by omega) (by omega)
                                                                                      · skip
                                                                                        by_cases q802 : v8.toInt = 41
                                                                                        · refine zg_tabIn X 1395 41 dL_law_33 q802 (by decide) (by decide) rfl (by decide) ?_
                                                                                          refine zg_aload_n X 2 rfl dL_law_1395 ?_
                                                                                          refine zg_aload_n X 3 rfl dL_law_1396 ?_
                                                                                          refine zg_iload_n X 0 rfl dL_law_1397 ?_
                                                                                          refine zg_iconst X 1 dL_law_1398 (by decide) (fun v803 _ hv803 => ?_)
                                                                                          refine zg_iadd X dL_law_1399 (by omega) (by omega) (fun v804 ev804 hv804 => ?_)
                                                                                          refine zg_sld X hX hbl hbA (by omega) (by omega) dL_law_1400 (fun v805 ev805 => ?_)
                                                                                          refine zg_cVi (As := [.int v805]) (st := []) X hx0 rfl (by decide) rfl (t_X10_restore l d L1 kd1 κ _ hI1 x0 hx0 v805 ) mk_L_187 mc_X10_restore mz_X10 mi_X10_restore ml_X10_restore (na := 1) ⟨md_X10.1, md_X10.2, by decide +kernel⟩ rfl ⟨by decide, by decide⟩ (Nat.le_of_ble_eq_true rfl) dL_law_1401 (fun v806 s807 hq => ?_)
                                                                                          obtain ⟨hFs807, hSs807, hq⟩ := hq
                                                                                          obtain ⟨hzh808, h808⟩ := hq
                                                                                          refine zg_pop X dL_law_1404 rfl ?_
                                                                                          refine zg_aload_n X 1 rfl dL_law_1405 ?_
                                                                                          refine zg_aload_n X 3 rfl dL_law_1406 ?_
                                                                                          refine zg_iload_n X 0 rfl dL_law_1407 ?_
                                                                                          refine zg_iconst X 1 dL_law_1408 (by decide) (fun v809 _ hv809 => ?_)
                                                                                          refine zg_iadd X dL_law_1409 (by omega) (by omega) (fun v810 ev810 hv810 => ?_)
                                                                                          refine zg_sld X hX hbl hbA (by omega) (by omega) dL_law_1410 (fun v811 ev811 => ?_)
                                                                                          have wv811 : v811 = v805 := by rw [ev811, ev805, show v810 = v804 from Int32.toInt_inj.mp (by omega)]
                                                                                          have tv811 : v811.toInt = v805.toInt := by rw [wv811]
                                                                                          refine zg_swap ?_
                                                                                          have X : zX d L2 kd2 A 4 p s m #[Value.ref b] c cL_law RL := X
                                                                                          refine zg_cVi (As := [.int v811]) (st := []) X hm0 rfl (by decide) rfl (t_X11_restore l d L2 kd2 κ _ hI2 m0 hm0 v811  hgN hgH hgE hgL) mk_L_190 mc_X11_restore mz_X11 mi_X11_restore ml_X11_restore (na := 1) ⟨md_X11.1, md_X11.2, by decide +kernel⟩ rfl ⟨by decide, by decide⟩ (Nat.le_of_ble_eq_true rfl) dL_law_1411 (fun v812 s813 hq => ?_)
                                                                                          obtain ⟨hFs813, hq⟩ := hq
                                                                                          obtain ⟨⟨fs813_res, gNs813, gHs813, gEs813, gLs813⟩, h814, g815⟩ := hq
                                                                                          have gKs813 := gK.same h814 hm0 g815 (by decide) hgK
                                                                                          rw [wv811] at hFs813
                                                                                          obtain ⟨hvs813, hMs813⟩ := zRM.restore hM hI1 hI2 hx0 hm0 hFs807 hFs813 hSs807 g815
                                                                                          refine zg_pop X dL_law_1414 rfl ?_
                                                                                          refine zg_goto X 1441 dL_law_1415 (by decide) ?_
                                                                                          refine zg_iinc X 6 (fun v816 => [(3, .int v816), (2, .ref m0), (1, .ref x0), (0, .ref b)]) 0 dL_law_1441 rfl (by decide) (by decide) (by omega) (by omega) (fun _ => rfl) (fun v816 ev816 hv816 => ?_)
                                                                                          refine zg_goto X 18 dL_law_1444 (by decide) ?_
                                                                                          refine zg_swap ?_
                                                                                          have X : zX d L1 kd1 A 4 p s m #[Value.ref b] c cL_law RL := X
                                                                                          refine zg_sub [0, 1, 2, 3] rfl ?_
                                                                                          exact ihLp _ _ _ v816 h808 h814 hMs813 gNs813 gHs813 gEs813 gLs813 gKs813 (by omega) (by omega)
                                                                                        · skip
                                                                                          by_cases q817 : v8.toInt = 42
                                                                                          · refine zg_tabIn X 1418 42 dL_law_33 q817 (by decide) (by decide) rfl (by decide) ?_
                                                                                            refine zg_aload_n X 2 rfl dL_law_1418 ?_
                                                                                            refine zg_aload_n X 3 rfl dL_law_1419 ?_
                                                                                            refine zg_iload_n X 0 rfl dL_law_1420 ?_
                                                                                            refine zg_iconst X 1 dL_law_1421 (by decide) (fun v818 _ hv818 => ?_)
                                                                                            refine zg_iadd X dL_law_1422 (by omega) (by omega) (fun v819 ev819 hv819 => ?_)
                                                                                            refine zg_sld X hX hbl hbA (by omega) (by omega) dL_law_1423 (fun v820 ev820 => ?_)
                                                                                            refine zg_cVi (As := [.int v820]) (st := []) X hx0 rfl (by decide) rfl (t_X10_count l d L1 kd1 κ _ hI1 x0 hx0 v820 ) mk_L_191 mc_X10_count mz_X10 mi_X10_count ml_X10_count (na := 1) ⟨md_X10.1, md_X10.2, by decide +kernel⟩ rfl ⟨by decide, by decide⟩ (Nat.le_of_ble_eq_true rfl) dL_law_1424 (fun v821 s822 hq => ?_)
                                                                                            obtain ⟨hFs822, hSs822, hq⟩ := hq
                                                                                            have h823 := hq
                                                                                            have hMs822 := zRM.c hM hx0 hI1 hSs822 (zRy.of (rz_X10_count zRz.rf) hFs822) (by decide) (by decide)
                                                                                            refine zg_pop X dL_law_1427 rfl ?_
                                                                                            refine zg_aload_n X 1 rfl dL_law_1428 ?_
                                                                                            refine zg_aload_n X 3 rfl dL_law_1429 ?_
                                                                                            refine zg_iload_n X 0 rfl dL_law_1430 ?_
                                                                                            refine zg_iconst X 1 dL_law_1431 (by decide) (fun v824 _ hv824 => ?_)
                                                                                            refine zg_iadd X dL_law_1432 (by omega) (by omega) (fun v825 ev825 hv825 => ?_)
                                                                                            refine zg_sld X hX hbl hbA (by omega) (by omega) dL_law_1433 (fun v826 ev826 => ?_)
                                                                                            refine zg_swap ?_
                                                                                            have X : zX d L2 kd2 A 4 p s m #[Value.ref b] c cL_law RL := X
                                                                                            refine zg_cVi (As := [.int v826]) (st := []) X hm0 rfl (by decide) rfl (t_X11_count l d L2 kd2 κ _ hI2 m0 hm0 v826  hgN hgH hgE hgL) mk_L_194 mc_X11_count mz_X11 mi_X11_count ml_X11_count (na := 1) ⟨md_X11.1, md_X11.2, by decide +kernel⟩ rfl ⟨by decide, by decide⟩ (Nat.le_of_ble_eq_true rfl) dL_law_1434 (fun v827 s828 hq => ?_)
                                                                                            obtain ⟨hFs828, hq⟩ := hq
                                                                                            obtain ⟨⟨gNs828, gHs828, gEs828, gLs828⟩, h829, g830⟩ := hq
                                                                                            have gKs828 := gK.same h829 hm0 g830 (by decide) hgK
                                                                                            have hMs828 := zRM.m hMs822 hI2 hm0 g830 (by decide) (by decide)
                                                                                            refine zg_pop X dL_law_1437 rfl ?_
                                                                                            refine zg_goto X 1441 dL_law_1438 (by decide) ?_
                                                                                            refine zg_iinc X 6 (fun v831 => [(3, .int v831), (2, .ref m0), (1, .ref x0), (0, .ref b)]) 0 dL_law_1441 rfl (by decide) (by decide) (by omega) (by omega) (fun _ => rfl) (fun v831 ev831 hv831 => ?_)
                                                                                            refine zg_goto X 18 dL_law_1444 (by decide) ?_
                                                                                            refine zg_swap ?_
                                                                                            have X : zX d L1 kd1 A 4 p s m #[Value.ref b] c cL_law RL := X
                                                                                            refine zg_sub [0, 1, 2, 3] rfl ?_
                                                                                            exact ihLp _ _ _ v831 h823 h829 hMs828 gNs828 gHs828 gEs828 gLs828 gKs828 (by omega) (by omega)
                                                                                          · skip
                                                                                            refine zg_tabOut X 1441 dL_law_33 (by omega) (by decide) ?_
                                                                                            refine zg_iinc X 6 (fun v832 => [(3, .int v832), (2, .ref m0), (1, .ref x0), (0, .ref b)]) 0 dL_law_1441 rfl (by decide) (by decide) (by omega) (by omega) (fun _ => rfl) (fun v832 ev832 hv832 => ?_)
                                                                                            refine zg_goto X 18 dL_law_1444 (by decide) ?_
                                                                                            refine zg_sub [0, 1, 2, 3] rfl ?_
                                                                                            exact ihLp _ _ _ v832 hI1 hI2 hM hgN hgH hgE hgL hgK (by omega) (by omega)
