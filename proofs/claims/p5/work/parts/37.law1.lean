set_option maxHeartbeats 40000000 in
set_option maxRecDepth 100000 in
theorem zl_loop {p : Program} {e : Env} {s : State} {m : MethodId} {below : List Frame} {meth : Method} {c : Code} (l : Launch) (d : zD2) {A : Nat → Prop} {Q : State → Prop} {b N : Nat} {xs : Nat → Int32} (hL : N ≤ 3072) (X : zX d [] (fun _ => 0) A 4 p s m #[Value.ref b] c cL_law RL) (hX : va_X b N xs s s.heap) (hbl : b < s.heap.size) (hbA : ¬ A b) (L1 L2 : List Nat) (kd1 kd2 : Nat → Nat) (x0 m0 : Nat) (hx0 : zT L1 kd1 x0 10) (hm0 : zT L2 kd2 m0 11)
    (fin : ∀ {rs : va_W} {L : List Nat} {kd : Nat → Nat} {σ : zS} (pc : Nat) (lv : List (Nat × Value)), decode cL_law pc = .ok (.ireturn, 1) → zGc rs 276 18999 d L kd A 4 p l e room_1 s m #[Value.ref b] below meth c Q σ pc lv [.int 1]) :
    ∀ (n : Nat) (κ : Int) (σ1 σ2 : zS) (x : Int32), zI κ 0 L1 kd1 σ1 → zJ κ L2 kd2 σ2 → zSBM κ L1 kd1 L2 kd2 x0 m0 σ1 σ2 → gN m0 σ2 → gH m0 σ2 → gE m0 σ2 → gL m0 σ2 → gK m0 σ2 → 0 ≤ x.toInt ∧ x.toInt ≤ 3072 → 3072 - x.toInt < (n : Int) → zGc (zW d.2.2 L2 kd2 σ2) 276 18999 d L1 kd1 A 4 p l e room_1 s m #[Value.ref b] below meth c Q σ1 18 [(3, .int x), (2, .ref m0), (1, .ref x0), (0, .ref b)] [] := by
  intro n
  induction n with
  | zero => intro κ σ1 σ2 x hI1 hI2 hM hgN hgH hgE hgL hgK hx hm; exact absurd hm (by omega)
  | succ n ihLp =>
    intro κ σ1 σ2 x hI1 hI2 hM hgN hgH hgE hgL hgK hx hm
    have X : zX d L1 kd1 A 4 p s m #[Value.ref b] c cL_law RL := X
    refine zg_iload_n X 0 rfl dL_law_18 ?_
    refine zg_aload_n X 3 rfl dL_law_19 ?_
    refine zg_slenX X hX hbl hbA hL dL_law_20 (fun v1 hv1 => ?_)
    refine zg_bipush X 6 dL_law_21 (by decide) (fun v2 _ hv2 => ?_)
    refine zg_isub X dL_law_23 (by omega) (by omega) (fun v3 ev3 hv3 => ?_)
    refine zg_icmp_gt X 1447 dL_law_24 (by decide) (fun c4 => ?_) (fun c4 => ?_)
    · skip
      refine zg_iconst X 1 dL_law_1447 (by decide) (fun v5 _ hv5 => ?_)
      have e1 : v5 = 1 := Int32.toInt_inj.mp (by rw [hv5]; rfl)
      subst e1
      exact fin _ _ dL_law_1448
    · skip
      refine zg_aload_n X 3 rfl dL_law_27 ?_
      refine zg_iload_n X 0 rfl dL_law_28 ?_
      refine zg_sld X hX hbl hbA (by omega) (by omega) dL_law_29 (fun v6 ev6 => ?_)
      refine zg_bipush X 63 dL_law_30 (by decide) (fun v7 _ hv7 => ?_)
      refine zg_iandW X dL_law_32 (fun v8 ev8 => ?_)
      by_cases q9 : v8.toInt = 0
      · refine zg_tabIn X 220 0 dL_law_33 q9 (by decide) (by decide) rfl (by decide) ?_
        refine zg_aload_n X 2 rfl dL_law_220 ?_
        refine zg_aload_n X 3 rfl dL_law_221 ?_
        refine zg_iload_n X 0 rfl dL_law_222 ?_
        refine zg_iconst X 1 dL_law_223 (by decide) (fun v10 _ hv10 => ?_)
        refine zg_iadd X dL_law_224 (by omega) (by omega) (fun v11 ev11 hv11 => ?_)
        refine zg_sld X hX hbl hbA (by omega) (by omega) dL_law_225 (fun v12 ev12 => ?_)
        refine zg_aload_n X 3 rfl dL_law_226 ?_
        refine zg_iload_n X 0 rfl dL_law_227 ?_
        refine zg_iconst X 2 dL_law_228 (by decide) (fun v13 _ hv13 => ?_)
        refine zg_iadd X dL_law_229 (by omega) (by omega) (fun v14 ev14 hv14 => ?_)
        refine zg_sld X hX hbl hbA (by omega) (by omega) dL_law_230 (fun v15 ev15 => ?_)
        refine zg_aload_n X 3 rfl dL_law_231 ?_
        refine zg_iload_n X 0 rfl dL_law_232 ?_
        refine zg_iconst X 3 dL_law_233 (by decide) (fun v16 _ hv16 => ?_)
        refine zg_iadd X dL_law_234 (by omega) (by omega) (fun v17 ev17 hv17 => ?_)
        refine zg_sld X hX hbl hbA (by omega) (by omega) dL_law_235 (fun v18 ev18 => ?_)
        refine zg_aload_n X 3 rfl dL_law_236 ?_
        refine zg_iload_n X 0 rfl dL_law_237 ?_
        refine zg_iconst X 4 dL_law_238 (by decide) (fun v19 _ hv19 => ?_)
        refine zg_iadd X dL_law_239 (by omega) (by omega) (fun v20 ev20 hv20 => ?_)
        refine zg_sld X hX hbl hbA (by omega) (by omega) dL_law_240 (fun v21 ev21 => ?_)
        refine zg_aload_n X 3 rfl dL_law_241 ?_
        refine zg_iload_n X 0 rfl dL_law_242 ?_
        refine zg_iconst X 5 dL_law_243 (by decide) (fun v22 _ hv22 => ?_)
        refine zg_iadd X dL_law_244 (by omega) (by omega) (fun v23 ev23 hv23 => ?_)
        refine zg_sld X hX hbl hbA (by omega) (by omega) dL_law_245 (fun v24 ev24 => ?_)
        refine zg_cVi (As := [.int v12, .int v15, .int v18, .int v21, .int v24]) (st := []) X hx0 rfl (by decide) rfl (t_X10_feed l d L1 kd1 κ _ hI1 x0 hx0 v12 v15 v18 v21 v24 ) mk_L_13 mc_X10_feed mz_X10 mi_X10_feed ml_X10_feed (na := 5) ⟨md_X10.1, md_X10.2, by decide +kernel⟩ rfl ⟨by decide, by decide⟩ (Nat.le_of_ble_eq_true rfl) dL_law_246 (fun v25 s26 hq => ?_)
        obtain ⟨hFs26, hSs26, hq⟩ := hq
        obtain ⟨ks26, h27, fxs26⟩ : ∃ k : Int, zI k 0 L1 kd1 s26 ∧ ((v25.toInt = -1 ∧ 2000 < κ + 20 ∧ k = κ) ∨ (v25.toInt = κ + 20 ∧ κ + 20 ≤ 2000 ∧ k = κ + 20)) := by
          rcases hq with ⟨q1, q2, q3⟩ | ⟨q1, q2, q3⟩
          · exact ⟨_, q3, Or.inl ⟨q1, q2, rfl⟩⟩
          · exact ⟨_, q3, Or.inr ⟨q1, q2, rfl⟩⟩
        refine zg_pop X dL_law_249 rfl ?_
        refine zg_aload_n X 1 rfl dL_law_250 ?_
        refine zg_aload_n X 3 rfl dL_law_251 ?_
        refine zg_iload_n X 0 rfl dL_law_252 ?_
        refine zg_iconst X 1 dL_law_253 (by decide) (fun v28 _ hv28 => ?_)
        refine zg_iadd X dL_law_254 (by omega) (by omega) (fun v29 ev29 hv29 => ?_)
        refine zg_sld X hX hbl hbA (by omega) (by omega) dL_law_255 (fun v30 ev30 => ?_)
        have wv30 : v30 = v12 := by rw [ev30, ev12, show v29 = v11 from Int32.toInt_inj.mp (by omega)]
        refine zg_aload_n X 3 rfl dL_law_256 ?_
        refine zg_iload_n X 0 rfl dL_law_257 ?_
        refine zg_iconst X 2 dL_law_258 (by decide) (fun v31 _ hv31 => ?_)
        refine zg_iadd X dL_law_259 (by omega) (by omega) (fun v32 ev32 hv32 => ?_)
        refine zg_sld X hX hbl hbA (by omega) (by omega) dL_law_260 (fun v33 ev33 => ?_)
        have wv33 : v33 = v15 := by rw [ev33, ev15, show v32 = v14 from Int32.toInt_inj.mp (by omega)]
        refine zg_aload_n X 3 rfl dL_law_261 ?_
        refine zg_iload_n X 0 rfl dL_law_262 ?_
        refine zg_iconst X 3 dL_law_263 (by decide) (fun v34 _ hv34 => ?_)
        refine zg_iadd X dL_law_264 (by omega) (by omega) (fun v35 ev35 hv35 => ?_)
        refine zg_sld X hX hbl hbA (by omega) (by omega) dL_law_265 (fun v36 ev36 => ?_)
        have wv36 : v36 = v18 := by rw [ev36, ev18, show v35 = v17 from Int32.toInt_inj.mp (by omega)]
        refine zg_aload_n X 3 rfl dL_law_266 ?_
        refine zg_iload_n X 0 rfl dL_law_267 ?_
        refine zg_iconst X 4 dL_law_268 (by decide) (fun v37 _ hv37 => ?_)
        refine zg_iadd X dL_law_269 (by omega) (by omega) (fun v38 ev38 hv38 => ?_)
        refine zg_sld X hX hbl hbA (by omega) (by omega) dL_law_270 (fun v39 ev39 => ?_)
        have wv39 : v39 = v21 := by rw [ev39, ev21, show v38 = v20 from Int32.toInt_inj.mp (by omega)]
        refine zg_aload_n X 3 rfl dL_law_271 ?_
        refine zg_iload_n X 0 rfl dL_law_272 ?_
        refine zg_iconst X 5 dL_law_273 (by decide) (fun v40 _ hv40 => ?_)
        refine zg_iadd X dL_law_274 (by omega) (by omega) (fun v41 ev41 hv41 => ?_)
        refine zg_sld X hX hbl hbA (by omega) (by omega) dL_law_275 (fun v42 ev42 => ?_)
        have wv42 : v42 = v24 := by rw [ev42, ev24, show v41 = v23 from Int32.toInt_inj.mp (by omega)]
        refine zg_swap ?_
        have X : zX d L2 kd2 A 4 p s m #[Value.ref b] c cL_law RL := X
        refine zg_cVi (As := [.int v30, .int v33, .int v36, .int v39, .int v42]) (st := []) X hm0 rfl (by decide) rfl (t_X11_feed l d L2 kd2 κ _ hI2 m0 hm0 v30 v33 v36 v39 v42  hgN hgH hgE hgL) mk_L_17 mc_X11_feed mz_X11 mi_X11_feed ml_X11_feed (na := 5) ⟨md_X11.1, md_X11.2, by decide +kernel⟩ rfl ⟨by decide, by decide⟩ (Nat.le_of_ble_eq_true rfl) dL_law_276 (fun v43 s44 hq => ?_)
        obtain ⟨hFs44, hq⟩ := hq
        obtain ⟨ks44, ⟨fs44_fact0, gNs44, gHs44, gEs44, gLs44⟩, h45, g46⟩ := hq
        have gKs44 := gK.same h45 hm0 g46 (by decide) hgK
        rw [wv30, wv33, wv36, wv39, wv42] at hFs44
        have hMs44 := zSBM.feed hM hI1 hI2 hx0 hm0 hFs26 hFs44 hSs26 g46 (k := ks26) (by omega)
        refine zg_pop X dL_law_279 rfl ?_
        refine zg_goto X 1441 dL_law_280 (by decide) ?_
        refine zg_iinc X 6 (fun v47 => [(3, .int v47), (2, .ref m0), (1, .ref x0), (0, .ref b)]) 0 dL_law_1441 rfl (by decide) (by decide) (by omega) (by omega) (fun _ => rfl) (fun v47 ev47 hv47 => ?_)
        refine zg_goto X 18 dL_law_1444 (by decide) ?_
        refine zg_swap ?_
        have X : zX d L1 kd1 A 4 p s m #[Value.ref b] c cL_law RL := X
        refine zg_sub [0, 1, 2, 3] rfl ?_
        exact ihLp _ _ _ v47 h27 (zj_eq (by omega : ks44 = ks26) h45) hMs44 gNs44 gHs44 gEs44 gLs44 gKs44 (by omega) (by omega)
      · skip
        by_cases q48 : v8.toInt = 1
        · refine zg_tabIn X 283 1 dL_law_33 q48 (by decide) (by decide) rfl (by decide) ?_
          refine zg_aload_n X 2 rfl dL_law_283 ?_
          refine zg_aload_n X 3 rfl dL_law_284 ?_
          refine zg_iload_n X 0 rfl dL_law_285 ?_
          refine zg_iconst X 1 dL_law_286 (by decide) (fun v49 _ hv49 => ?_)
          refine zg_iadd X dL_law_287 (by omega) (by omega) (fun v50 ev50 hv50 => ?_)
          refine zg_sld X hX hbl hbA (by omega) (by omega) dL_law_288 (fun v51 ev51 => ?_)
          refine zg_cVi (As := [.int v51]) (st := []) X hx0 rfl (by decide) rfl (t_X10_back l d L1 kd1 κ _ hI1 x0 hx0 v51 ) mk_L_18 mc_X10_back mz_X10 mi_X10_back ml_X10_back (na := 1) ⟨md_X10.1, md_X10.2, by decide +kernel⟩ rfl ⟨by decide, by decide⟩ (Nat.le_of_ble_eq_true rfl) dL_law_289 (fun v52 s53 hq => ?_)
          obtain ⟨hFs53, hSs53, hq⟩ := hq
          obtain ⟨ks53, h54, fxs53⟩ : ∃ k : Int, zI k 0 L1 kd1 s53 ∧ ((v52.toInt = -1 ∧ (v51.toInt < 0 ∨ κ < v51.toInt) ∧ k = κ) ∨ (v52.toInt = κ - v51.toInt ∧ 0 ≤ v51.toInt ∧ v51.toInt ≤ κ ∧ k = κ - v51.toInt)) := by
            rcases hq with ⟨q1, q2, q3⟩ | ⟨q1, q2, q3, q4⟩
            · exact ⟨_, q3, Or.inl ⟨q1, q2, rfl⟩⟩
            · exact ⟨_, q4, Or.inr ⟨q1, q2, q3, rfl⟩⟩
          have hMs53 := zSBM.le (show ks53 ≤ κ by omega) (zSBM.c hM hx0 hSs53 (by decide) (by decide) (by decide))
          refine zg_pop X dL_law_292 rfl ?_
          refine zg_aload_n X 1 rfl dL_law_293 ?_
          refine zg_aload_n X 3 rfl dL_law_294 ?_
          refine zg_iload_n X 0 rfl dL_law_295 ?_
          refine zg_iconst X 1 dL_law_296 (by decide) (fun v55 _ hv55 => ?_)
          refine zg_iadd X dL_law_297 (by omega) (by omega) (fun v56 ev56 hv56 => ?_)
          refine zg_sld X hX hbl hbA (by omega) (by omega) dL_law_298 (fun v57 ev57 => ?_)
          have tv57 : v57.toInt = v51.toInt := by rw [ev57, ev51, show v56 = v50 from Int32.toInt_inj.mp (by omega)]
          refine zg_swap ?_
          have X : zX d L2 kd2 A 4 p s m #[Value.ref b] c cL_law RL := X
          refine zg_cVi (As := [.int v57]) (st := []) X hm0 rfl (by decide) rfl (t_X11_back l d L2 kd2 κ _ hI2 m0 hm0 v57  hgN hgH hgE hgL) mk_L_22 mc_X11_back mz_X11 mi_X11_back ml_X11_back (na := 1) ⟨md_X11.1, md_X11.2, by decide +kernel⟩ rfl ⟨by decide, by decide⟩ (Nat.le_of_ble_eq_true rfl) dL_law_299 (fun v58 s59 hq => ?_)
          obtain ⟨hFs59, hq⟩ := hq
          obtain ⟨ks59, ⟨fs59_fact0, gNs59, gHs59, gEs59, gLs59⟩, h60, g61⟩ := hq
          have gKs59 := gK.same h60 hm0 g61 (by decide) hgK
          have hMs59 := zSBM.m hMs53 g61 (by decide) (by decide) (by decide)
          refine zg_pop X dL_law_302 rfl ?_
          refine zg_goto X 1441 dL_law_303 (by decide) ?_
          refine zg_iinc X 6 (fun v62 => [(3, .int v62), (2, .ref m0), (1, .ref x0), (0, .ref b)]) 0 dL_law_1441 rfl (by decide) (by decide) (by omega) (by omega) (fun _ => rfl) (fun v62 ev62 hv62 => ?_)
          refine zg_goto X 18 dL_law_1444 (by decide) ?_
          refine zg_swap ?_
          have X : zX d L1 kd1 A 4 p s m #[Value.ref b] c cL_law RL := X
          refine zg_sub [0, 1, 2, 3] rfl ?_
          exact ihLp _ _ _ v62 h54 (zj_eq (by omega : ks59 = ks53) h60) hMs59 gNs59 gHs59 gEs59 gLs59 gKs59 (by omega) (by omega)
        · skip
          by_cases q63 : v8.toInt = 2
          · refine zg_tabIn X 306 2 dL_law_33 q63 (by decide) (by decide) rfl (by decide) ?_
            refine zg_aload_n X 2 rfl dL_law_306 ?_
            refine zg_cVi (As := []) (st := []) X hx0 rfl (by decide) rfl (t_X10_read l d L1 kd1 κ _ hI1 x0 hx0  ) mk_L_23 mc_X10_read mz_X10 mi_X10_read ml_X10_read (na := 0) ⟨md_X10.1, md_X10.2, by decide +kernel⟩ rfl ⟨by decide, by decide⟩ (Nat.le_of_ble_eq_true rfl) dL_law_307 (fun v64 s65 hq => ?_)
            obtain ⟨hFs65, hSs65, hq⟩ := hq
            have h66 := hq
            refine zg_pop X dL_law_310 rfl ?_
            refine zg_aload_n X 1 rfl dL_law_311 ?_
            refine zg_swap ?_
            have X : zX d L2 kd2 A 4 p s m #[Value.ref b] c cL_law RL := X
            refine zg_cVi (As := []) (st := []) X hm0 rfl (by decide) rfl (t_X11_read l d L2 kd2 κ _ hI2 m0 hm0   hgN hgH hgE hgL hgK) mk_L_27 mc_X11_read mz_X11 mi_X11_read ml_X11_read (na := 0) ⟨md_X11.1, md_X11.2, by decide +kernel⟩ rfl ⟨by decide, by decide⟩ (Nat.le_of_ble_eq_true rfl) dL_law_312 (fun v67 s68 hq => ?_)
            obtain ⟨hFs68, hq⟩ := hq
            obtain ⟨⟨gNs68, gHs68, gEs68, gLs68, gKs68⟩, h69, g70⟩ := hq
            obtain ⟨hvs68, hMs68⟩ := zSBM.read hM hI1 hI2 hx0 hm0 hFs65 hFs68 hSs65 g70
            refine zg_pop X dL_law_315 rfl ?_
            refine zg_goto X 1441 dL_law_316 (by decide) ?_
            refine zg_iinc X 6 (fun v71 => [(3, .int v71), (2, .ref m0), (1, .ref x0), (0, .ref b)]) 0 dL_law_1441 rfl (by decide) (by decide) (by omega) (by omega) (fun _ => rfl) (fun v71 ev71 hv71 => ?_)
            refine zg_goto X 18 dL_law_1444 (by decide) ?_
            refine zg_swap ?_
            have X : zX d L1 kd1 A 4 p s m #[Value.ref b] c cL_law RL := X
            refine zg_sub [0, 1, 2, 3] rfl ?_
            exact ihLp _ _ _ v71 h66 h69 hMs68 gNs68 gHs68 gEs68 gLs68 gKs68 (by omega) (by omega)
          · skip
            by_cases q72 : v8.toInt = 3
            · refine zg_tabIn X 319 3 dL_law_33 q72 (by decide) (by decide) rfl (by decide) ?_
              refine zg_aload_n X 2 rfl dL_law_319 ?_
              refine zg_cVi (As := []) (st := []) X hx0 rfl (by decide) rfl (t_X10_place l d L1 kd1 κ _ hI1 x0 hx0  ) mk_L_28 mc_X10_place mz_X10 mi_X10_place ml_X10_place (na := 0) ⟨md_X10.1, md_X10.2, by decide +kernel⟩ rfl ⟨by decide, by decide⟩ (Nat.le_of_ble_eq_true rfl) dL_law_320 (fun v73 s74 hq => ?_)
              obtain ⟨hFs74, hSs74, hq⟩ := hq
              have h75 := hq
              have hMs74 := zSBM.c hM hx0 hSs74 (by decide) (by decide) (by decide)
              refine zg_aload_n X 1 rfl dL_law_323 ?_
              refine zg_swap ?_
              have X : zX d L2 kd2 A 4 p s m #[Value.ref b] c cL_law RL := X
              refine zg_cVi (As := []) (st := [.int v73]) X hm0 rfl (by decide) rfl (t_X11_place l d L2 kd2 κ _ hI2 m0 hm0   ) mk_L_31 mc_X11_place mz_X11 mi_X11_place ml_X11_place (na := 0) ⟨md_X11.1, md_X11.2, by decide +kernel⟩ rfl ⟨by decide, by decide⟩ (Nat.le_of_ble_eq_true rfl) dL_law_324 (fun v76 s77 hq => ?_)
              obtain ⟨hFs77, rfl⟩ := hq
              have hcs77 := zSBM.place hM hFs74 hFs77
              refine zg_icmp_eq X 1441 dL_law_327 (by decide) (fun c79 => ?_) (fun c79 => ?_)
              · skip
                refine zg_iinc X 6 (fun v80 => [(3, .int v80), (2, .ref m0), (1, .ref x0), (0, .ref b)]) 0 dL_law_1441 rfl (by decide) (by decide) (by omega) (by omega) (fun _ => rfl) (fun v80 ev80 hv80 => ?_)
                refine zg_goto X 18 dL_law_1444 (by decide) ?_
                refine zg_swap ?_
                have X : zX d L1 kd1 A 4 p s m #[Value.ref b] c cL_law RL := X
                refine zg_sub [0, 1, 2, 3] rfl ?_
                exact ihLp _ _ _ v80 h75 hI2 hMs74 hgN hgH hgE hgL hgK (by omega) (by omega)
              · skip
                refine zg_iconst X 0 dL_law_330 (by decide) (fun v81 _ hv81 => ?_)
                exfalso
                omega
            · skip
              by_cases q82 : v8.toInt = 4
              · refine zg_tabIn X 332 4 dL_law_33 q82 (by decide) (by decide) rfl (by decide) ?_
                refine zg_aload_n X 2 rfl dL_law_332 ?_
                refine zg_aload_n X 3 rfl dL_law_333 ?_
                refine zg_iload_n X 0 rfl dL_law_334 ?_
                refine zg_iconst X 1 dL_law_335 (by decide) (fun v83 _ hv83 => ?_)
                refine zg_iadd X dL_law_336 (by omega) (by omega) (fun v84 ev84 hv84 => ?_)
                refine zg_sld X hX hbl hbA (by omega) (by omega) dL_law_337 (fun v85 ev85 => ?_)
                refine zg_aload_n X 3 rfl dL_law_338 ?_
                refine zg_iload_n X 0 rfl dL_law_339 ?_
                refine zg_iconst X 2 dL_law_340 (by decide) (fun v86 _ hv86 => ?_)
                refine zg_iadd X dL_law_341 (by omega) (by omega) (fun v87 ev87 hv87 => ?_)
                refine zg_sld X hX hbl hbA (by omega) (by omega) dL_law_342 (fun v88 ev88 => ?_)
                refine zg_cVi (As := [.int v85, .int v88]) (st := []) X hx0 rfl (by decide) rfl (t_X10_spot l d L1 kd1 κ _ hI1 x0 hx0 v85 v88 ) mk_L_32 mc_X10_spot mz_X10 mi_X10_spot ml_X10_spot (na := 2) ⟨md_X10.1, md_X10.2, by decide +kernel⟩ rfl ⟨by decide, by decide⟩ (Nat.le_of_ble_eq_true rfl) dL_law_343 (fun v89 s90 hq => ?_)
                obtain ⟨hFs90, hSs90, hq⟩ := hq
                have h91 := hq
                have hMs90 := zSBM.c hM hx0 hSs90 (by decide) (by decide) (by decide)
                refine zg_pop X dL_law_346 rfl ?_
                refine zg_aload_n X 1 rfl dL_law_347 ?_
                refine zg_aload_n X 3 rfl dL_law_348 ?_
                refine zg_iload_n X 0 rfl dL_law_349 ?_
                refine zg_iconst X 1 dL_law_350 (by decide) (fun v92 _ hv92 => ?_)
                refine zg_iadd X dL_law_351 (by omega) (by omega) (fun v93 ev93 hv93 => ?_)
                refine zg_sld X hX hbl hbA (by omega) (by omega) dL_law_352 (fun v94 ev94 => ?_)
                refine zg_aload_n X 3 rfl dL_law_353 ?_
                refine zg_iload_n X 0 rfl dL_law_354 ?_
                refine zg_iconst X 2 dL_law_355 (by decide) (fun v95 _ hv95 => ?_)
                refine zg_iadd X dL_law_356 (by omega) (by omega) (fun v96 ev96 hv96 => ?_)
                refine zg_sld X hX hbl hbA (by omega) (by omega) dL_law_357 (fun v97 ev97 => ?_)
                refine zg_swap ?_
                have X : zX d L2 kd2 A 4 p s m #[Value.ref b] c cL_law RL := X
                refine zg_cVi (As := [.int v94, .int v97]) (st := []) X hm0 rfl (by decide) rfl (t_X11_spot l d L2 kd2 κ _ hI2 m0 hm0 v94 v97  hgN hgH hgE hgL) mk_L_36 mc_X11_spot mz_X11 mi_X11_spot ml_X11_spot (na := 2) ⟨md_X11.1, md_X11.2, by decide +kernel⟩ rfl ⟨by decide, by decide⟩ (Nat.le_of_ble_eq_true rfl) dL_law_358 (fun v98 s99 hq => ?_)
                obtain ⟨hFs99, hq⟩ := hq
                obtain ⟨⟨gNs99, gHs99, gEs99, gLs99⟩, h100, g101⟩ := hq
                have gKs99 := gK.same h100 hm0 g101 (by decide) hgK
                have hMs99 := zSBM.m hMs90 g101 (by decide) (by decide) (by decide)
                refine zg_pop X dL_law_361 rfl ?_
                refine zg_goto X 1441 dL_law_362 (by decide) ?_
                refine zg_iinc X 6 (fun v102 => [(3, .int v102), (2, .ref m0), (1, .ref x0), (0, .ref b)]) 0 dL_law_1441 rfl (by decide) (by decide) (by omega) (by omega) (fun _ => rfl) (fun v102 ev102 hv102 => ?_)
                refine zg_goto X 18 dL_law_1444 (by decide) ?_
                refine zg_swap ?_
                have X : zX d L1 kd1 A 4 p s m #[Value.ref b] c cL_law RL := X
                refine zg_sub [0, 1, 2, 3] rfl ?_
                exact ihLp _ _ _ v102 h91 h100 hMs99 gNs99 gHs99 gEs99 gLs99 gKs99 (by omega) (by omega)
              · skip
                by_cases q103 : v8.toInt = 5
                · refine zg_tabIn X 365 5 dL_law_33 q103 (by decide) (by decide) rfl (by decide) ?_
                  refine zg_aload_n X 2 rfl dL_law_365 ?_
                  refine zg_aload_n X 3 rfl dL_law_366 ?_
                  refine zg_iload_n X 0 rfl dL_law_367 ?_
                  refine zg_iconst X 1 dL_law_368 (by decide) (fun v104 _ hv104 => ?_)
                  refine zg_iadd X dL_law_369 (by omega) (by omega) (fun v105 ev105 hv105 => ?_)
                  refine zg_sld X hX hbl hbA (by omega) (by omega) dL_law_370 (fun v106 ev106 => ?_)
                  refine zg_aload_n X 3 rfl dL_law_371 ?_
                  refine zg_iload_n X 0 rfl dL_law_372 ?_
                  refine zg_iconst X 2 dL_law_373 (by decide) (fun v107 _ hv107 => ?_)
                  refine zg_iadd X dL_law_374 (by omega) (by omega) (fun v108 ev108 hv108 => ?_)
                  refine zg_sld X hX hbl hbA (by omega) (by omega) dL_law_375 (fun v109 ev109 => ?_)
                  refine zg_cVi (As := [.int v106, .int v109]) (st := []) X hx0 rfl (by decide) rfl (t_X10_claim l d L1 kd1 κ _ hI1 x0 hx0 v106 v109 ) mk_L_37 mc_X10_claim mz_X10 mi_X10_claim ml_X10_claim (na := 2) ⟨md_X10.1, md_X10.2, by decide +kernel⟩ rfl ⟨by decide, by decide⟩ (Nat.le_of_ble_eq_true rfl) dL_law_376 (fun v110 s111 hq => ?_)
                  obtain ⟨hFs111, hSs111, hq⟩ := hq
                  have h112 := hq
                  have hMs111 := zSBM.c hM hx0 hSs111 (by decide) (by decide) (by decide)
                  refine zg_pop X dL_law_379 rfl ?_
                  refine zg_aload_n X 1 rfl dL_law_380 ?_
                  refine zg_aload_n X 3 rfl dL_law_381 ?_
                  refine zg_iload_n X 0 rfl dL_law_382 ?_
                  refine zg_iconst X 1 dL_law_383 (by decide) (fun v113 _ hv113 => ?_)
                  refine zg_iadd X dL_law_384 (by omega) (by omega) (fun v114 ev114 hv114 => ?_)
                  refine zg_sld X hX hbl hbA (by omega) (by omega) dL_law_385 (fun v115 ev115 => ?_)
                  refine zg_aload_n X 3 rfl dL_law_386 ?_
                  refine zg_iload_n X 0 rfl dL_law_387 ?_
                  refine zg_iconst X 2 dL_law_388 (by decide) (fun v116 _ hv116 => ?_)
                  refine zg_iadd X dL_law_389 (by omega) (by omega) (fun v117 ev117 hv117 => ?_)
                  refine zg_sld X hX hbl hbA (by omega) (by omega) dL_law_390 (fun v118 ev118 => ?_)
                  refine zg_swap ?_
                  have X : zX d L2 kd2 A 4 p s m #[Value.ref b] c cL_law RL := X
                  refine zg_cVi (As := [.int v115, .int v118]) (st := []) X hm0 rfl (by decide) rfl (t_X11_claim l d L2 kd2 κ _ hI2 m0 hm0 v115 v118  hgN hgH hgE hgL) mk_L_40 mc_X11_claim mz_X11 mi_X11_claim ml_X11_claim (na := 2) ⟨md_X11.1, md_X11.2, by decide +kernel⟩ rfl ⟨by decide, by decide⟩ (Nat.le_of_ble_eq_true rfl) dL_law_391 (fun v119 s120 hq => ?_)
                  obtain ⟨hFs120, hq⟩ := hq
                  obtain ⟨⟨gNs120, gHs120, gEs120, gLs120⟩, h121, g122⟩ := hq
                  have gKs120 := gK.same h121 hm0 g122 (by decide) hgK
                  have hMs120 := zSBM.m hMs111 g122 (by decide) (by decide) (by decide)
                  refine zg_pop X dL_law_394 rfl ?_
                  refine zg_goto X 1441 dL_law_395 (by decide) ?_
                  refine zg_iinc X 6 (fun v123 => [(3, .int v123), (2, .ref m0), (1, .ref x0), (0, .ref b)]) 0 dL_law_1441 rfl (by decide) (by decide) (by omega) (by omega) (fun _ => rfl) (fun v123 ev123 hv123 => ?_)
                  refine zg_goto X 18 dL_law_1444 (by decide) ?_
                  refine zg_swap ?_
                  have X : zX d L1 kd1 A 4 p s m #[Value.ref b] c cL_law RL := X
                  refine zg_sub [0, 1, 2, 3] rfl ?_
                  exact ihLp _ _ _ v123 h112 h121 hMs120 gNs120 gHs120 gEs120 gLs120 gKs120 (by omega) (by omega)
                · skip
                  by_cases q124 : v8.toInt = 6
                  · refine zg_tabIn X 398 6 dL_law_33 q124 (by decide) (by decide) rfl (by decide) ?_
                    refine zg_aload_n X 2 rfl dL_law_398 ?_
                    refine zg_aload_n X 3 rfl dL_law_399 ?_
                    refine zg_iload_n X 0 rfl dL_law_400 ?_
                    refine zg_iconst X 1 dL_law_401 (by decide) (fun v125 _ hv125 => ?_)
                    refine zg_iadd X dL_law_402 (by omega) (by omega) (fun v126 ev126 hv126 => ?_)
                    refine zg_sld X hX hbl hbA (by omega) (by omega) dL_law_403 (fun v127 ev127 => ?_)
                    refine zg_cVi (As := [.int v127]) (st := []) X hx0 rfl (by decide) rfl (t_X10_winner l d L1 kd1 κ _ hI1 x0 hx0 v127 ) mk_L_41 mc_X10_winner mz_X10 mi_X10_winner ml_X10_winner (na := 1) ⟨md_X10.1, md_X10.2, by decide +kernel⟩ rfl ⟨by decide, by decide⟩ (Nat.le_of_ble_eq_true rfl) dL_law_404 (fun v128 s129 hq => ?_)
                    obtain ⟨hFs129, hSs129, hq⟩ := hq
                    have h130 := hq
                    have hMs129 := zSBM.c hM hx0 hSs129 (by decide) (by decide) (by decide)
                    refine zg_pop X dL_law_407 rfl ?_
                    refine zg_aload_n X 1 rfl dL_law_408 ?_
                    refine zg_aload_n X 3 rfl dL_law_409 ?_
                    refine zg_iload_n X 0 rfl dL_law_410 ?_
                    refine zg_iconst X 1 dL_law_411 (by decide) (fun v131 _ hv131 => ?_)
                    refine zg_iadd X dL_law_412 (by omega) (by omega) (fun v132 ev132 hv132 => ?_)
                    refine zg_sld X hX hbl hbA (by omega) (by omega) dL_law_413 (fun v133 ev133 => ?_)
                    refine zg_swap ?_
                    have X : zX d L2 kd2 A 4 p s m #[Value.ref b] c cL_law RL := X
                    refine zg_cVi (As := [.int v133]) (st := []) X hm0 rfl (by decide) rfl (t_X11_winner l d L2 kd2 κ _ hI2 m0 hm0 v133  hgN hgH hgE hgL) mk_L_44 mc_X11_winner mz_X11 mi_X11_winner ml_X11_winner (na := 1) ⟨md_X11.1, md_X11.2, by decide +kernel⟩ rfl ⟨by decide, by decide⟩ (Nat.le_of_ble_eq_true rfl) dL_law_414 (fun v134 s135 hq => ?_)
                    obtain ⟨hFs135, hq⟩ := hq
                    obtain ⟨⟨gNs135, gHs135, gEs135, gLs135⟩, h136, g137⟩ := hq
                    have gKs135 := gK.same h136 hm0 g137 (by decide) hgK
                    have hMs135 := zSBM.m hMs129 g137 (by decide) (by decide) (by decide)
                    refine zg_pop X dL_law_417 rfl ?_
                    refine zg_goto X 1441 dL_law_418 (by decide) ?_
                    refine zg_iinc X 6 (fun v138 => [(3, .int v138), (2, .ref m0), (1, .ref x0), (0, .ref b)]) 0 dL_law_1441 rfl (by decide) (by decide) (by omega) (by omega) (fun _ => rfl) (fun v138 ev138 hv138 => ?_)
                    refine zg_goto X 18 dL_law_1444 (by decide) ?_
                    refine zg_swap ?_
                    have X : zX d L1 kd1 A 4 p s m #[Value.ref b] c cL_law RL := X
                    refine zg_sub [0, 1, 2, 3] rfl ?_
                    exact ihLp _ _ _ v138 h130 h136 hMs135 gNs135 gHs135 gEs135 gLs135 gKs135 (by omega) (by omega)
                  · skip
                    by_cases q139 : v8.toInt = 7
                    · refine zg_tabIn X 421 7 dL_law_33 q139 (by decide) (by decide) rfl (by decide) ?_
                      refine zg_aload_n X 2 rfl dL_law_421 ?_
                      refine zg_aload_n X 3 rfl dL_law_422 ?_
                      refine zg_iload_n X 0 rfl dL_law_423 ?_
                      refine zg_iconst X 1 dL_law_424 (by decide) (fun v140 _ hv140 => ?_)
                      refine zg_iadd X dL_law_425 (by omega) (by omega) (fun v141 ev141 hv141 => ?_)
                      refine zg_sld X hX hbl hbA (by omega) (by omega) dL_law_426 (fun v142 ev142 => ?_)
                      refine zg_aload_n X 3 rfl dL_law_427 ?_
                      refine zg_iload_n X 0 rfl dL_law_428 ?_
                      refine zg_iconst X 2 dL_law_429 (by decide) (fun v143 _ hv143 => ?_)
                      refine zg_iadd X dL_law_430 (by omega) (by omega) (fun v144 ev144 hv144 => ?_)
                      refine zg_sld X hX hbl hbA (by omega) (by omega) dL_law_431 (fun v145 ev145 => ?_)
                      refine zg_if_eq X 439 dL_law_432 (by decide) (fun c146 => ?_) (fun c146 => ?_)
                      · skip
                        refine zg_iconst X 0 dL_law_439 (by decide) (fun v147 _ hv147 => ?_)
                        refine zg_cVi (As := [.int v142, .int v147]) (st := []) X hx0 rfl (by decide) rfl (t_X10_dam l d L1 kd1 κ _ hI1 x0 hx0 v142 v147 (by omega)) mk_L_45 mc_X10_dam mz_X10 mi_X10_dam ml_X10_dam (na := 2) ⟨md_X10.1, md_X10.2, by decide +kernel⟩ rfl ⟨by decide, by decide⟩ (Nat.le_of_ble_eq_true rfl) dL_law_440 (fun v148 s149 hq => ?_)
                        obtain ⟨hFs149, hSs149, hq⟩ := hq
                        obtain ⟨hzh150, h150⟩ := hq
                        have hMs149 := zSBM.c hM hx0 hSs149 (by decide) (by decide) (by decide)
                        refine zg_pop X dL_law_443 rfl ?_
                        refine zg_aload_n X 1 rfl dL_law_444 ?_
                        refine zg_aload_n X 3 rfl dL_law_445 ?_
                        refine zg_iload_n X 0 rfl dL_law_446 ?_
                        refine zg_iconst X 1 dL_law_447 (by decide) (fun v151 _ hv151 => ?_)
                        refine zg_iadd X dL_law_448 (by omega) (by omega) (fun v152 ev152 hv152 => ?_)
                        refine zg_sld X hX hbl hbA (by omega) (by omega) dL_law_449 (fun v153 ev153 => ?_)
                        refine zg_aload_n X 3 rfl dL_law_450 ?_
                        refine zg_iload_n X 0 rfl dL_law_451 ?_
                        refine zg_iconst X 2 dL_law_452 (by decide) (fun v154 _ hv154 => ?_)
                        refine zg_iadd X dL_law_453 (by omega) (by omega) (fun v155 ev155 hv155 => ?_)
                        refine zg_sld X hX hbl hbA (by omega) (by omega) dL_law_454 (fun v156 ev156 => ?_)
                        refine zg_if_eq X 462 dL_law_455 (by decide) (fun c157 => ?_) (fun c157 => ?_)
                        · skip
                          refine zg_iconst X 0 dL_law_462 (by decide) (fun v158 _ hv158 => ?_)
                          refine zg_swap ?_
                          have X : zX d L2 kd2 A 4 p s m #[Value.ref b] c cL_law RL := X
                          refine zg_cVi (As := [.int v153, .int v158]) (st := []) X hm0 rfl (by decide) rfl (t_X11_dam l d L2 kd2 κ _ hI2 m0 hm0 v153 v158  hgN hgH hgE hgL) mk_L_49 mc_X11_dam mz_X11 mi_X11_dam ml_X11_dam (na := 2) ⟨md_X11.1, md_X11.2, by decide +kernel⟩ rfl ⟨by decide, by decide⟩ (Nat.le_of_ble_eq_true rfl) dL_law_463 (fun v159 s160 hq => ?_)
                          obtain ⟨hFs160, hq⟩ := hq
                          obtain ⟨⟨fs160_res, gNs160, gHs160, gEs160, gLs160⟩, h161, g162⟩ := hq
                          have gKs160 := gK.same h161 hm0 g162 (by decide) hgK
                          have hMs160 := zSBM.m hMs149 g162 (by decide) (by decide) (by decide)
                          refine zg_pop X dL_law_466 rfl ?_
                          refine zg_goto X 1441 dL_law_467 (by decide) ?_
                          refine zg_iinc X 6 (fun v163 => [(3, .int v163), (2, .ref m0), (1, .ref x0), (0, .ref b)]) 0 dL_law_1441 rfl (by decide) (by decide) (by omega) (by omega) (fun _ => rfl) (fun v163 ev163 hv163 => ?_)
                          refine zg_goto X 18 dL_law_1444 (by decide) ?_
                          refine zg_swap ?_
                          have X : zX d L1 kd1 A 4 p s m #[Value.ref b] c cL_law RL := X
                          refine zg_sub [0, 1, 2, 3] rfl ?_
                          exact ihLp _ _ _ v163 h150 h161 hMs160 gNs160 gHs160 gEs160 gLs160 gKs160 (by omega) (by omega)
                        · skip
                          refine zg_iconst X 1 dL_law_458 (by decide) (fun v164 _ hv164 => ?_)
                          refine zg_goto X 463 dL_law_459 (by decide) ?_
                          refine zg_swap ?_
                          have X : zX d L2 kd2 A 4 p s m #[Value.ref b] c cL_law RL := X
                          refine zg_cVi (As := [.int v153, .int v164]) (st := []) X hm0 rfl (by decide) rfl (t_X11_dam l d L2 kd2 κ _ hI2 m0 hm0 v153 v164  hgN hgH hgE hgL) mk_L_49 mc_X11_dam mz_X11 mi_X11_dam ml_X11_dam (na := 2) ⟨md_X11.1, md_X11.2, by decide +kernel⟩ rfl ⟨by decide, by decide⟩ (Nat.le_of_ble_eq_true rfl) dL_law_463 (fun v165 s166 hq => ?_)
                          obtain ⟨hFs166, hq⟩ := hq
                          obtain ⟨⟨fs166_res, gNs166, gHs166, gEs166, gLs166⟩, h167, g168⟩ := hq
                          have gKs166 := gK.same h167 hm0 g168 (by decide) hgK
                          have hMs166 := zSBM.m hMs149 g168 (by decide) (by decide) (by decide)
                          refine zg_pop X dL_law_466 rfl ?_
                          refine zg_goto X 1441 dL_law_467 (by decide) ?_
                          refine zg_iinc X 6 (fun v169 => [(3, .int v169), (2, .ref m0), (1, .ref x0), (0, .ref b)]) 0 dL_law_1441 rfl (by decide) (by decide) (by omega) (by omega) (fun _ => rfl) (fun v169 ev169 hv169 => ?_)
                          refine zg_goto X 18 dL_law_1444 (by decide) ?_
                          refine zg_swap ?_
                          have X : zX d L1 kd1 A 4 p s m #[Value.ref b] c cL_law RL := X
                          refine zg_sub [0, 1, 2, 3] rfl ?_
                          exact ihLp _ _ _ v169 h150 h167 hMs166 gNs166 gHs166 gEs166 gLs166 gKs166 (by omega) (by omega)
                      · skip
                        refine zg_iconst X 1 dL_law_435 (by decide) (fun v170 _ hv170 => ?_)
                        refine zg_goto X 440 dL_law_436 (by decide) ?_
                        refine zg_cVi (As := [.int v142, .int v170]) (st := []) X hx0 rfl (by decide) rfl (t_X10_dam l d L1 kd1 κ _ hI1 x0 hx0 v142 v170 (by omega)) mk_L_45 mc_X10_dam mz_X10 mi_X10_dam ml_X10_dam (na := 2) ⟨md_X10.1, md_X10.2, by decide +kernel⟩ rfl ⟨by decide, by decide⟩ (Nat.le_of_ble_eq_true rfl) dL_law_440 (fun v171 s172 hq => ?_)
                        obtain ⟨hFs172, hSs172, hq⟩ := hq
                        obtain ⟨hzh173, h173⟩ := hq
                        have hMs172 := zSBM.c hM hx0 hSs172 (by decide) (by decide) (by decide)
                        refine zg_pop X dL_law_443 rfl ?_
                        refine zg_aload_n X 1 rfl dL_law_444 ?_
                        refine zg_aload_n X 3 rfl dL_law_445 ?_
                        refine zg_iload_n X 0 rfl dL_law_446 ?_
                        refine zg_iconst X 1 dL_law_447 (by decide) (fun v174 _ hv174 => ?_)
                        refine zg_iadd X dL_law_448 (by omega) (by omega) (fun v175 ev175 hv175 => ?_)
                        refine zg_sld X hX hbl hbA (by omega) (by omega) dL_law_449 (fun v176 ev176 => ?_)
                        refine zg_aload_n X 3 rfl dL_law_450 ?_
                        refine zg_iload_n X 0 rfl dL_law_451 ?_
                        refine zg_iconst X 2 dL_law_452 (by decide) (fun v177 _ hv177 => ?_)
                        refine zg_iadd X dL_law_453 (by omega) (by omega) (fun v178 ev178 hv178 => ?_)
                        refine zg_sld X hX hbl hbA (by omega) (by omega) dL_law_454 (fun v179 ev179 => ?_)
                        refine zg_if_eq X 462 dL_law_455 (by decide) (fun c180 => ?_) (fun c180 => ?_)
                        · skip
                          refine zg_iconst X 0 dL_law_462 (by decide) (fun v181 _ hv181 => ?_)
                          refine zg_swap ?_
                          have X : zX d L2 kd2 A 4 p s m #[Value.ref b] c cL_law RL := X
                          refine zg_cVi (As := [.int v176, .int v181]) (st := []) X hm0 rfl (by decide) rfl (t_X11_dam l d L2 kd2 κ _ hI2 m0 hm0 v176 v181  hgN hgH hgE hgL) mk_L_49 mc_X11_dam mz_X11 mi_X11_dam ml_X11_dam (na := 2) ⟨md_X11.1, md_X11.2, by decide +kernel⟩ rfl ⟨by decide, by decide⟩ (Nat.le_of_ble_eq_true rfl) dL_law_463 (fun v182 s183 hq => ?_)
                          obtain ⟨hFs183, hq⟩ := hq
                          obtain ⟨⟨fs183_res, gNs183, gHs183, gEs183, gLs183⟩, h184, g185⟩ := hq
                          have gKs183 := gK.same h184 hm0 g185 (by decide) hgK
                          have hMs183 := zSBM.m hMs172 g185 (by decide) (by decide) (by decide)
                          refine zg_pop X dL_law_466 rfl ?_
                          refine zg_goto X 1441 dL_law_467 (by decide) ?_
                          refine zg_iinc X 6 (fun v186 => [(3, .int v186), (2, .ref m0), (1, .ref x0), (0, .ref b)]) 0 dL_law_1441 rfl (by decide) (by decide) (by omega) (by omega) (fun _ => rfl) (fun v186 ev186 hv186 => ?_)
                          refine zg_goto X 18 dL_law_1444 (by decide) ?_
                          refine zg_swap ?_
                          have X : zX d L1 kd1 A 4 p s m #[Value.ref b] c cL_law RL := X
                          refine zg_sub [0, 1, 2, 3] rfl ?_
                          exact ihLp _ _ _ v186 h173 h184 hMs183 gNs183 gHs183 gEs183 gLs183 gKs183 (by omega) (by omega)
                        · skip
                          refine zg_iconst X 1 dL_law_458 (by decide) (fun v187 _ hv187 => ?_)
                          refine zg_goto X 463 dL_law_459 (by decide) ?_
                          refine zg_swap ?_
                          have X : zX d L2 kd2 A 4 p s m #[Value.ref b] c cL_law RL := X
                          refine zg_cVi (As := [.int v176, .int v187]) (st := []) X hm0 rfl (by decide) rfl (t_X11_dam l d L2 kd2 κ _ hI2 m0 hm0 v176 v187  hgN hgH hgE hgL) mk_L_49 mc_X11_dam mz_X11 mi_X11_dam ml_X11_dam (na := 2) ⟨md_X11.1, md_X11.2, by decide +kernel⟩ rfl ⟨by decide, by decide⟩ (Nat.le_of_ble_eq_true rfl) dL_law_463 (fun v188 s189 hq => ?_)
                          obtain ⟨hFs189, hq⟩ := hq
                          obtain ⟨⟨fs189_res, gNs189, gHs189, gEs189, gLs189⟩, h190, g191⟩ := hq
                          have gKs189 := gK.same h190 hm0 g191 (by decide) hgK
                          have hMs189 := zSBM.m hMs172 g191 (by decide) (by decide) (by decide)
                          refine zg_pop X dL_law_466 rfl ?_
                          refine zg_goto X 1441 dL_law_467 (by decide) ?_
                          refine zg_iinc X 6 (fun v192 => [(3, .int v192), (2, .ref m0), (1, .ref x0), (0, .ref b)]) 0 dL_law_1441 rfl (by decide) (by decide) (by omega) (by omega) (fun _ => rfl) (fun v192 ev192 hv192 => ?_)
                          refine zg_goto X 18 dL_law_1444 (by decide) ?_
                          refine zg_swap ?_
                          have X : zX d L1 kd1 A 4 p s m #[Value.ref b] c cL_law RL := X
                          refine zg_sub [0, 1, 2, 3] rfl ?_
                          exact ihLp _ _ _ v192 h173 h190 hMs189 gNs189 gHs189 gEs189 gLs189 gKs189 (by omega) (by omega)
                    · skip
                      by_cases q193 : v8.toInt = 8
                      · refine zg_tabIn X 470 8 dL_law_33 q193 (by decide) (by decide) rfl (by decide) ?_
                        refine zg_aload_n X 2 rfl dL_law_470 ?_
                        refine zg_aload_n X 3 rfl dL_law_471 ?_
                        refine zg_iload_n X 0 rfl dL_law_472 ?_
                        refine zg_iconst X 1 dL_law_473 (by decide) (fun v194 _ hv194 => ?_)
                        refine zg_iadd X dL_law_474 (by omega) (by omega) (fun v195 ev195 hv195 => ?_)
                        refine zg_sld X hX hbl hbA (by omega) (by omega) dL_law_475 (fun v196 ev196 => ?_)
                        refine zg_aload_n X 3 rfl dL_law_476 ?_
                        refine zg_iload_n X 0 rfl dL_law_477 ?_
                        refine zg_iconst X 2 dL_law_478 (by decide) (fun v197 _ hv197 => ?_)
                        refine zg_iadd X dL_law_479 (by omega) (by omega) (fun v198 ev198 hv198 => ?_)
                        refine zg_sld X hX hbl hbA (by omega) (by omega) dL_law_480 (fun v199 ev199 => ?_)
                        refine zg_cVi (As := [.int v196, .int v199]) (st := []) X hx0 rfl (by decide) rfl (t_X10_turn l d L1 kd1 κ _ hI1 x0 hx0 v196 v199 ) mk_L_50 mc_X10_turn mz_X10 mi_X10_turn ml_X10_turn (na := 2) ⟨md_X10.1, md_X10.2, by decide +kernel⟩ rfl ⟨by decide, by decide⟩ (Nat.le_of_ble_eq_true rfl) dL_law_481 (fun v200 s201 hq => ?_)
                        obtain ⟨hFs201, hSs201, hq⟩ := hq
                        obtain ⟨hzh202, h202⟩ := hq
                        have hMs201 := zSBM.c hM hx0 hSs201 (by decide) (by decide) (by decide)
                        refine zg_pop X dL_law_484 rfl ?_
                        refine zg_aload_n X 1 rfl dL_law_485 ?_
                        refine zg_aload_n X 3 rfl dL_law_486 ?_
                        refine zg_iload_n X 0 rfl dL_law_487 ?_
                        refine zg_iconst X 1 dL_law_488 (by decide) (fun v203 _ hv203 => ?_)
                        refine zg_iadd X dL_law_489 (by omega) (by omega) (fun v204 ev204 hv204 => ?_)
                        refine zg_sld X hX hbl hbA (by omega) (by omega) dL_law_490 (fun v205 ev205 => ?_)
                        refine zg_aload_n X 3 rfl dL_law_491 ?_
                        refine zg_iload_n X 0 rfl dL_law_492 ?_
                        refine zg_iconst X 2 dL_law_493 (by decide) (fun v206 _ hv206 => ?_)
                        refine zg_iadd X dL_law_494 (by omega) (by omega) (fun v207 ev207 hv207 => ?_)
                        refine zg_sld X hX hbl hbA (by omega) (by omega) dL_law_495 (fun v208 ev208 => ?_)
                        refine zg_swap ?_
                        have X : zX d L2 kd2 A 4 p s m #[Value.ref b] c cL_law RL := X
                        refine zg_cVi (As := [.int v205, .int v208]) (st := []) X hm0 rfl (by decide) rfl (t_X11_turn l d L2 kd2 κ _ hI2 m0 hm0 v205 v208  hgN hgH hgE hgL) mk_L_54 mc_X11_turn mz_X11 mi_X11_turn ml_X11_turn (na := 2) ⟨md_X11.1, md_X11.2, by decide +kernel⟩ rfl ⟨by decide, by decide⟩ (Nat.le_of_ble_eq_true rfl) dL_law_496 (fun v209 s210 hq => ?_)
                        obtain ⟨hFs210, hq⟩ := hq
                        obtain ⟨⟨fs210_res, gNs210, gHs210, gEs210, gLs210⟩, h211, g212⟩ := hq
                        have gKs210 := gK.same h211 hm0 g212 (by decide) hgK
                        have hMs210 := zSBM.m hMs201 g212 (by decide) (by decide) (by decide)
                        refine zg_pop X dL_law_499 rfl ?_
                        refine zg_goto X 1441 dL_law_500 (by decide) ?_
                        refine zg_iinc X 6 (fun v213 => [(3, .int v213), (2, .ref m0), (1, .ref x0), (0, .ref b)]) 0 dL_law_1441 rfl (by decide) (by decide) (by omega) (by omega) (fun _ => rfl) (fun v213 ev213 hv213 => ?_)
                        refine zg_goto X 18 dL_law_1444 (by decide) ?_
                        refine zg_swap ?_
                        have X : zX d L1 kd1 A 4 p s m #[Value.ref b] c cL_law RL := X
                        refine zg_sub [0, 1, 2, 3] rfl ?_
                        exact ihLp _ _ _ v213 h202 h211 hMs210 gNs210 gHs210 gEs210 gLs210 gKs210 (by omega) (by omega)
                      · skip
                        by_cases q214 : v8.toInt = 9
                        · refine zg_tabIn X 503 9 dL_law_33 q214 (by decide) (by decide) rfl (by decide) ?_
                          refine zg_aload_n X 2 rfl dL_law_503 ?_
                          refine zg_aload_n X 3 rfl dL_law_504 ?_
                          refine zg_iload_n X 0 rfl dL_law_505 ?_
                          refine zg_iconst X 1 dL_law_506 (by decide) (fun v215 _ hv215 => ?_)
                          refine zg_iadd X dL_law_507 (by omega) (by omega) (fun v216 ev216 hv216 => ?_)
                          refine zg_sld X hX hbl hbA (by omega) (by omega) dL_law_508 (fun v217 ev217 => ?_)
                          refine zg_cVi (As := [.int v217]) (st := []) X hx0 rfl (by decide) rfl (t_X10_rule l d L1 kd1 κ _ hI1 x0 hx0 v217 ) mk_L_55 mc_X10_rule mz_X10 mi_X10_rule ml_X10_rule (na := 1) ⟨md_X10.1, md_X10.2, by decide +kernel⟩ rfl ⟨by decide, by decide⟩ (Nat.le_of_ble_eq_true rfl) dL_law_509 (fun v218 s219 hq => ?_)
                          obtain ⟨hFs219, hSs219, hq⟩ := hq
                          obtain ⟨hzh220, h220⟩ := hq
                          have hMs219 := zSBM.c hM hx0 hSs219 (by decide) (by decide) (by decide)
                          refine zg_pop X dL_law_512 rfl ?_
                          refine zg_aload_n X 1 rfl dL_law_513 ?_
                          refine zg_aload_n X 3 rfl dL_law_514 ?_
                          refine zg_iload_n X 0 rfl dL_law_515 ?_
                          refine zg_iconst X 1 dL_law_516 (by decide) (fun v221 _ hv221 => ?_)
                          refine zg_iadd X dL_law_517 (by omega) (by omega) (fun v222 ev222 hv222 => ?_)
                          refine zg_sld X hX hbl hbA (by omega) (by omega) dL_law_518 (fun v223 ev223 => ?_)
                          refine zg_swap ?_
                          have X : zX d L2 kd2 A 4 p s m #[Value.ref b] c cL_law RL := X
                          refine zg_cVi (As := [.int v223]) (st := []) X hm0 rfl (by decide) rfl (t_X11_rule l d L2 kd2 κ _ hI2 m0 hm0 v223  hgN hgH hgE hgL) mk_L_59 mc_X11_rule mz_X11 mi_X11_rule ml_X11_rule (na := 1) ⟨md_X11.1, md_X11.2, by decide +kernel⟩ rfl ⟨by decide, by decide⟩ (Nat.le_of_ble_eq_true rfl) dL_law_519 (fun v224 s225 hq => ?_)
                          obtain ⟨hFs225, hq⟩ := hq
                          obtain ⟨⟨fs225_res, gNs225, gHs225, gEs225, gLs225⟩, h226, g227⟩ := hq
                          have gKs225 := gK.same h226 hm0 g227 (by decide) hgK
                          have hMs225 := zSBM.m hMs219 g227 (by decide) (by decide) (by decide)
                          refine zg_pop X dL_law_522 rfl ?_
                          refine zg_goto X 1441 dL_law_523 (by decide) ?_
                          refine zg_iinc X 6 (fun v228 => [(3, .int v228), (2, .ref m0), (1, .ref x0), (0, .ref b)]) 0 dL_law_1441 rfl (by decide) (by decide) (by omega) (by omega) (fun _ => rfl) (fun v228 ev228 hv228 => ?_)
                          refine zg_goto X 18 dL_law_1444 (by decide) ?_
                          refine zg_swap ?_
                          have X : zX d L1 kd1 A 4 p s m #[Value.ref b] c cL_law RL := X
                          refine zg_sub [0, 1, 2, 3] rfl ?_
                          exact ihLp _ _ _ v228 h220 h226 hMs225 gNs225 gHs225 gEs225 gLs225 gKs225 (by omega) (by omega)
                        · skip
                          by_cases q229 : v8.toInt = 10
                          · refine zg_tabIn X 526 10 dL_law_33 q229 (by decide) (by decide) rfl (by decide) ?_
                            refine zg_aload_n X 2 rfl dL_law_526 ?_
                            refine zg_aload_n X 3 rfl dL_law_527 ?_
                            refine zg_iload_n X 0 rfl dL_law_528 ?_
                            refine zg_iconst X 1 dL_law_529 (by decide) (fun v230 _ hv230 => ?_)
                            refine zg_iadd X dL_law_530 (by omega) (by omega) (fun v231 ev231 hv231 => ?_)
                            refine zg_sld X hX hbl hbA (by omega) (by omega) dL_law_531 (fun v232 ev232 => ?_)
                            refine zg_cVi (As := [.int v232]) (st := []) X hx0 rfl (by decide) rfl (t_X10_months l d L1 kd1 κ _ hI1 x0 hx0 v232 ) mk_L_60 mc_X10_months mz_X10 mi_X10_months ml_X10_months (na := 1) ⟨md_X10.1, md_X10.2, by decide +kernel⟩ rfl ⟨by decide, by decide⟩ (Nat.le_of_ble_eq_true rfl) dL_law_532 (fun v233 s234 hq => ?_)
                            obtain ⟨hFs234, hSs234, hq⟩ := hq
                            have h235 := hq
                            have hMs234 := zSBM.c hM hx0 hSs234 (by decide) (by decide) (by decide)
                            refine zg_pop X dL_law_535 rfl ?_
                            refine zg_aload_n X 1 rfl dL_law_536 ?_
                            refine zg_aload_n X 3 rfl dL_law_537 ?_
                            refine zg_iload_n X 0 rfl dL_law_538 ?_
                            refine zg_iconst X 1 dL_law_539 (by decide) (fun v236 _ hv236 => ?_)
                            refine zg_iadd X dL_law_540 (by omega) (by omega) (fun v237 ev237 hv237 => ?_)
                            refine zg_sld X hX hbl hbA (by omega) (by omega) dL_law_541 (fun v238 ev238 => ?_)
                            refine zg_swap ?_
                            have X : zX d L2 kd2 A 4 p s m #[Value.ref b] c cL_law RL := X
                            refine zg_cVi (As := [.int v238]) (st := []) X hm0 rfl (by decide) rfl (t_X11_months l d L2 kd2 κ _ hI2 m0 hm0 v238  hgN hgH hgE hgL) mk_L_63 mc_X11_months mz_X11 mi_X11_months ml_X11_months (na := 1) ⟨md_X11.1, md_X11.2, by decide +kernel⟩ rfl ⟨by decide, by decide⟩ (Nat.le_of_ble_eq_true rfl) dL_law_542 (fun v239 s240 hq => ?_)
                            obtain ⟨hFs240, hq⟩ := hq
                            obtain ⟨⟨gNs240, gHs240, gEs240, gLs240⟩, h241, g242⟩ := hq
                            have gKs240 := gK.same h241 hm0 g242 (by decide) hgK
                            have hMs240 := zSBM.m hMs234 g242 (by decide) (by decide) (by decide)
                            refine zg_pop X dL_law_545 rfl ?_
                            refine zg_goto X 1441 dL_law_546 (by decide) ?_
                            refine zg_iinc X 6 (fun v243 => [(3, .int v243), (2, .ref m0), (1, .ref x0), (0, .ref b)]) 0 dL_law_1441 rfl (by decide) (by decide) (by omega) (by omega) (fun _ => rfl) (fun v243 ev243 hv243 => ?_)
                            refine zg_goto X 18 dL_law_1444 (by decide) ?_
                            refine zg_swap ?_
                            have X : zX d L1 kd1 A 4 p s m #[Value.ref b] c cL_law RL := X
                            refine zg_sub [0, 1, 2, 3] rfl ?_
                            exact ihLp _ _ _ v243 h235 h241 hMs240 gNs240 gHs240 gEs240 gLs240 gKs240 (by omega) (by omega)
                          · skip
                            by_cases q244 : v8.toInt = 11
                            · refine zg_tabIn X 549 11 dL_law_33 q244 (by decide) (by decide) rfl (by decide) ?_
                              refine zg_aload_n X 2 rfl dL_law_549 ?_
                              refine zg_cVi (As := []) (st := []) X hx0 rfl (by decide) rfl (t_X10_undo l d L1 kd1 κ _ hI1 x0 hx0  ) mk_L_64 mc_X10_undo mz_X10 mi_X10_undo ml_X10_undo (na := 0) ⟨md_X10.1, md_X10.2, by decide +kernel⟩ rfl ⟨by decide, by decide⟩ (Nat.le_of_ble_eq_true rfl) dL_law_550 (fun v245 s246 hq => ?_)
                              obtain ⟨hFs246, hSs246, hq⟩ := hq
                              obtain ⟨hzh247, h247⟩ := hq
                              have hMs246 := zSBM.c hM hx0 hSs246 (by decide) (by decide) (by decide)
                              refine zg_pop X dL_law_553 rfl ?_
                              refine zg_aload_n X 1 rfl dL_law_554 ?_
                              refine zg_swap ?_
                              have X : zX d L2 kd2 A 4 p s m #[Value.ref b] c cL_law RL := X
                              refine zg_cVi (As := []) (st := []) X hm0 rfl (by decide) rfl (t_X11_undo l d L2 kd2 κ _ hI2 m0 hm0   hgN hgH hgE hgL) mk_L_68 mc_X11_undo mz_X11 mi_X11_undo ml_X11_undo (na := 0) ⟨md_X11.1, md_X11.2, by decide +kernel⟩ rfl ⟨by decide, by decide⟩ (Nat.le_of_ble_eq_true rfl) dL_law_555 (fun v248 s249 hq => ?_)
                              obtain ⟨hFs249, hq⟩ := hq
                              obtain ⟨⟨fs249_res, gNs249, gHs249, gEs249, gLs249⟩, h250, g251⟩ := hq
                              have gKs249 := gK.same h250 hm0 g251 (by decide) hgK
                              have hMs249 := zSBM.m hMs246 g251 (by decide) (by decide) (by decide)
                              refine zg_pop X dL_law_558 rfl ?_
                              refine zg_goto X 1441 dL_law_559 (by decide) ?_
                              refine zg_iinc X 6 (fun v252 => [(3, .int v252), (2, .ref m0), (1, .ref x0), (0, .ref b)]) 0 dL_law_1441 rfl (by decide) (by decide) (by omega) (by omega) (fun _ => rfl) (fun v252 ev252 hv252 => ?_)
                              refine zg_goto X 18 dL_law_1444 (by decide) ?_
                              refine zg_swap ?_
                              have X : zX d L1 kd1 A 4 p s m #[Value.ref b] c cL_law RL := X
                              refine zg_sub [0, 1, 2, 3] rfl ?_
                              exact ihLp _ _ _ v252 h247 h250 hMs249 gNs249 gHs249 gEs249 gLs249 gKs249 (by omega) (by omega)
                            · skip
                              by_cases q253 : v8.toInt = 12
                              · refine zg_tabIn X 562 12 dL_law_33 q253 (by decide) (by decide) rfl (by decide) ?_
                                refine zg_aload_n X 2 rfl dL_law_562 ?_
                                refine zg_aload_n X 3 rfl dL_law_563 ?_
                                refine zg_iload_n X 0 rfl dL_law_564 ?_
                                refine zg_iconst X 1 dL_law_565 (by decide) (fun v254 _ hv254 => ?_)
                                refine zg_iadd X dL_law_566 (by omega) (by omega) (fun v255 ev255 hv255 => ?_)
                                refine zg_sld X hX hbl hbA (by omega) (by omega) dL_law_567 (fun v256 ev256 => ?_)
                                refine zg_cVi (As := [.int v256]) (st := []) X hx0 rfl (by decide) rfl (t_X10_agree l d L1 kd1 κ _ hI1 x0 hx0 v256 ) mk_L_69 mc_X10_agree mz_X10 mi_X10_agree ml_X10_agree (na := 1) ⟨md_X10.1, md_X10.2, by decide +kernel⟩ rfl ⟨by decide, by decide⟩ (Nat.le_of_ble_eq_true rfl) dL_law_568 (fun v257 s258 hq => ?_)
                                obtain ⟨hFs258, hSs258, hq⟩ := hq
                                have h259 := hq
                                have hMs258 := zSBM.c hM hx0 hSs258 (by decide) (by decide) (by decide)
                                refine zg_pop X dL_law_571 rfl ?_
                                refine zg_aload_n X 1 rfl dL_law_572 ?_
                                refine zg_aload_n X 3 rfl dL_law_573 ?_
                                refine zg_iload_n X 0 rfl dL_law_574 ?_
                                refine zg_iconst X 1 dL_law_575 (by decide) (fun v260 _ hv260 => ?_)
                                refine zg_iadd X dL_law_576 (by omega) (by omega) (fun v261 ev261 hv261 => ?_)
                                refine zg_sld X hX hbl hbA (by omega) (by omega) dL_law_577 (fun v262 ev262 => ?_)
                                refine zg_swap ?_
                                have X : zX d L2 kd2 A 4 p s m #[Value.ref b] c cL_law RL := X
                                refine zg_cVi (As := [.int v262]) (st := []) X hm0 rfl (by decide) rfl (t_X11_agree l d L2 kd2 κ _ hI2 m0 hm0 v262  hgN hgH hgE hgL) mk_L_72 mc_X11_agree mz_X11 mi_X11_agree ml_X11_agree (na := 1) ⟨md_X11.1, md_X11.2, by decide +kernel⟩ rfl ⟨by decide, by decide⟩ (Nat.le_of_ble_eq_true rfl) dL_law_578 (fun v263 s264 hq => ?_)
                                obtain ⟨hFs264, hq⟩ := hq
                                obtain ⟨⟨gNs264, gHs264, gEs264, gLs264⟩, h265, g266⟩ := hq
                                have gKs264 := gK.same h265 hm0 g266 (by decide) hgK
                                have hMs264 := zSBM.m hMs258 g266 (by decide) (by decide) (by decide)
                                refine zg_pop X dL_law_581 rfl ?_
                                refine zg_goto X 1441 dL_law_582 (by decide) ?_
                                refine zg_iinc X 6 (fun v267 => [(3, .int v267), (2, .ref m0), (1, .ref x0), (0, .ref b)]) 0 dL_law_1441 rfl (by decide) (by decide) (by omega) (by omega) (fun _ => rfl) (fun v267 ev267 hv267 => ?_)
                                refine zg_goto X 18 dL_law_1444 (by decide) ?_
                                refine zg_swap ?_
                                have X : zX d L1 kd1 A 4 p s m #[Value.ref b] c cL_law RL := X
                                refine zg_sub [0, 1, 2, 3] rfl ?_
                                exact ihLp _ _ _ v267 h259 h265 hMs264 gNs264 gHs264 gEs264 gLs264 gKs264 (by omega) (by omega)
                              · skip
                                by_cases q268 : v8.toInt = 13
                                · refine zg_tabIn X 585 13 dL_law_33 q268 (by decide) (by decide) rfl (by decide) ?_
                                  refine zg_aload_n X 2 rfl dL_law_585 ?_
                                  refine zg_aload_n X 3 rfl dL_law_586 ?_
                                  refine zg_iload_n X 0 rfl dL_law_587 ?_
                                  refine zg_iconst X 1 dL_law_588 (by decide) (fun v269 _ hv269 => ?_)
                                  refine zg_iadd X dL_law_589 (by omega) (by omega) (fun v270 ev270 hv270 => ?_)
                                  refine zg_sld X hX hbl hbA (by omega) (by omega) dL_law_590 (fun v271 ev271 => ?_)
                                  refine zg_aload_n X 3 rfl dL_law_591 ?_
                                  refine zg_iload_n X 0 rfl dL_law_592 ?_
                                  refine zg_iconst X 2 dL_law_593 (by decide) (fun v272 _ hv272 => ?_)
                                  refine zg_iadd X dL_law_594 (by omega) (by omega) (fun v273 ev273 hv273 => ?_)
                                  refine zg_sld X hX hbl hbA (by omega) (by omega) dL_law_595 (fun v274 ev274 => ?_)
                                  refine zg_cVi (As := [.int v271, .int v274]) (st := []) X hx0 rfl (by decide) rfl (t_X10_behind l d L1 kd1 κ _ hI1 x0 hx0 v271 v274 ) mk_L_73 mc_X10_behind mz_X10 mi_X10_behind ml_X10_behind (na := 2) ⟨md_X10.1, md_X10.2, by decide +kernel⟩ rfl ⟨by decide, by decide⟩ (Nat.le_of_ble_eq_true rfl) dL_law_596 (fun v275 s276 hq => ?_)
                                  obtain ⟨hFs276, hSs276, hq⟩ := hq
                                  have h277 := hq
                                  have hMs276 := zSBM.c hM hx0 hSs276 (by decide) (by decide) (by decide)
                                  refine zg_pop X dL_law_599 rfl ?_
                                  refine zg_aload_n X 1 rfl dL_law_600 ?_
                                  refine zg_aload_n X 3 rfl dL_law_601 ?_
                                  refine zg_iload_n X 0 rfl dL_law_602 ?_
                                  refine zg_iconst X 1 dL_law_603 (by decide) (fun v278 _ hv278 => ?_)
                                  refine zg_iadd X dL_law_604 (by omega) (by omega) (fun v279 ev279 hv279 => ?_)
                                  refine zg_sld X hX hbl hbA (by omega) (by omega) dL_law_605 (fun v280 ev280 => ?_)
                                  refine zg_aload_n X 3 rfl dL_law_606 ?_
                                  refine zg_iload_n X 0 rfl dL_law_607 ?_
                                  refine zg_iconst X 2 dL_law_608 (by decide) (fun v281 _ hv281 => ?_)
                                  refine zg_iadd X dL_law_609 (by omega) (by omega) (fun v282 ev282 hv282 => ?_)
                                  refine zg_sld X hX hbl hbA (by omega) (by omega) dL_law_610 (fun v283 ev283 => ?_)
                                  refine zg_swap ?_
                                  have X : zX d L2 kd2 A 4 p s m #[Value.ref b] c cL_law RL := X
                                  refine zg_cVi (As := [.int v280, .int v283]) (st := []) X hm0 rfl (by decide) rfl (t_X11_behind l d L2 kd2 κ _ hI2 m0 hm0 v280 v283  hgN hgH hgE hgL) mk_L_76 mc_X11_behind mz_X11 mi_X11_behind ml_X11_behind (na := 2) ⟨md_X11.1, md_X11.2, by decide +kernel⟩ rfl ⟨by decide, by decide⟩ (Nat.le_of_ble_eq_true rfl) dL_law_611 (fun v284 s285 hq => ?_)
                                  obtain ⟨hFs285, hq⟩ := hq
                                  obtain ⟨⟨gNs285, gHs285, gEs285, gLs285⟩, h286, g287⟩ := hq
                                  have gKs285 := gK.same h286 hm0 g287 (by decide) hgK
                                  have hMs285 := zSBM.m hMs276 g287 (by decide) (by decide) (by decide)
                                  refine zg_pop X dL_law_614 rfl ?_
                                  refine zg_goto X 1441 dL_law_615 (by decide) ?_
                                  refine zg_iinc X 6 (fun v288 => [(3, .int v288), (2, .ref m0), (1, .ref x0), (0, .ref b)]) 0 dL_law_1441 rfl (by decide) (by decide) (by omega) (by omega) (fun _ => rfl) (fun v288 ev288 hv288 => ?_)
                                  refine zg_goto X 18 dL_law_1444 (by decide) ?_
                                  refine zg_swap ?_
                                  have X : zX d L1 kd1 A 4 p s m #[Value.ref b] c cL_law RL := X
                                  refine zg_sub [0, 1, 2, 3] rfl ?_
                                  exact ihLp _ _ _ v288 h277 h286 hMs285 gNs285 gHs285 gEs285 gLs285 gKs285 (by omega) (by omega)
                                · skip
                                  by_cases q289 : v8.toInt = 14
                                  · refine zg_tabIn X 618 14 dL_law_33 q289 (by decide) (by decide) rfl (by decide) ?_
                                    refine zg_aload_n X 2 rfl dL_law_618 ?_
                                    refine zg_aload_n X 3 rfl dL_law_619 ?_
                                    refine zg_iload_n X 0 rfl dL_law_620 ?_
                                    refine zg_iconst X 1 dL_law_621 (by decide) (fun v290 _ hv290 => ?_)
                                    refine zg_iadd X dL_law_622 (by omega) (by omega) (fun v291 ev291 hv291 => ?_)
                                    refine zg_sld X hX hbl hbA (by omega) (by omega) dL_law_623 (fun v292 ev292 => ?_)
                                    refine zg_cVi (As := [.int v292]) (st := []) X hx0 rfl (by decide) rfl (t_X10_margin l d L1 kd1 κ _ hI1 x0 hx0 v292 ) mk_L_77 mc_X10_margin mz_X10 mi_X10_margin ml_X10_margin (na := 1) ⟨md_X10.1, md_X10.2, by decide +kernel⟩ rfl ⟨by decide, by decide⟩ (Nat.le_of_ble_eq_true rfl) dL_law_624 (fun v293 s294 hq => ?_)
                                    obtain ⟨hFs294, hSs294, hq⟩ := hq
                                    have h295 := hq
                                    have hMs294 := zSBM.c hM hx0 hSs294 (by decide) (by decide) (by decide)
                                    refine zg_pop X dL_law_627 rfl ?_
                                    refine zg_aload_n X 1 rfl dL_law_628 ?_
                                    refine zg_aload_n X 3 rfl dL_law_629 ?_
                                    refine zg_iload_n X 0 rfl dL_law_630 ?_
                                    refine zg_iconst X 1 dL_law_631 (by decide) (fun v296 _ hv296 => ?_)
                                    refine zg_iadd X dL_law_632 (by omega) (by omega) (fun v297 ev297 hv297 => ?_)
                                    refine zg_sld X hX hbl hbA (by omega) (by omega) dL_law_633 (fun v298 ev298 => ?_)
                                    refine zg_swap ?_
                                    have X : zX d L2 kd2 A 4 p s m #[Value.ref b] c cL_law RL := X
                                    refine zg_cVi (As := [.int v298]) (st := []) X hm0 rfl (by decide) rfl (t_X11_margin l d L2 kd2 κ _ hI2 m0 hm0 v298  hgN hgH hgE hgL) mk_L_80 mc_X11_margin mz_X11 mi_X11_margin ml_X11_margin (na := 1) ⟨md_X11.1, md_X11.2, by decide +kernel⟩ rfl ⟨by decide, by decide⟩ (Nat.le_of_ble_eq_true rfl) dL_law_634 (fun v299 s300 hq => ?_)
                                    obtain ⟨hFs300, hq⟩ := hq
                                    obtain ⟨⟨gNs300, gHs300, gEs300, gLs300⟩, h301, g302⟩ := hq
                                    have gKs300 := gK.same h301 hm0 g302 (by decide) hgK
                                    have hMs300 := zSBM.m hMs294 g302 (by decide) (by decide) (by decide)
                                    refine zg_pop X dL_law_637 rfl ?_
                                    refine zg_goto X 1441 dL_law_638 (by decide) ?_
                                    refine zg_iinc X 6 (fun v303 => [(3, .int v303), (2, .ref m0), (1, .ref x0), (0, .ref b)]) 0 dL_law_1441 rfl (by decide) (by decide) (by omega) (by omega) (fun _ => rfl) (fun v303 ev303 hv303 => ?_)
                                    refine zg_goto X 18 dL_law_1444 (by decide) ?_
                                    refine zg_swap ?_
                                    have X : zX d L1 kd1 A 4 p s m #[Value.ref b] c cL_law RL := X
                                    refine zg_sub [0, 1, 2, 3] rfl ?_
                                    exact ihLp _ _ _ v303 h295 h301 hMs300 gNs300 gHs300 gEs300 gLs300 gKs300 (by omega) (by omega)
                                  · skip
                                    by_cases q304 : v8.toInt = 15
                                    · refine zg_tabIn X 641 15 dL_law_33 q304 (by decide) (by decide) rfl (by decide) ?_
                                      refine zg_aload_n X 2 rfl dL_law_641 ?_
                                      refine zg_aload_n X 3 rfl dL_law_642 ?_
                                      refine zg_iload_n X 0 rfl dL_law_643 ?_
                                      refine zg_iconst X 1 dL_law_644 (by decide) (fun v305 _ hv305 => ?_)
                                      refine zg_iadd X dL_law_645 (by omega) (by omega) (fun v306 ev306 hv306 => ?_)
                                      refine zg_sld X hX hbl hbA (by omega) (by omega) dL_law_646 (fun v307 ev307 => ?_)
                                      refine zg_cVi (As := [.int v307]) (st := []) X hx0 rfl (by decide) rfl (t_X10_richest l d L1 kd1 κ _ hI1 x0 hx0 v307 ) mk_L_81 mc_X10_richest mz_X10 mi_X10_richest ml_X10_richest (na := 1) ⟨md_X10.1, md_X10.2, by decide +kernel⟩ rfl ⟨by decide, by decide⟩ (Nat.le_of_ble_eq_true rfl) dL_law_647 (fun v308 s309 hq => ?_)
                                      obtain ⟨hFs309, hSs309, hq⟩ := hq
                                      have h310 := hq
                                      have hMs309 := zSBM.c hM hx0 hSs309 (by decide) (by decide) (by decide)
                                      refine zg_pop X dL_law_650 rfl ?_
                                      refine zg_aload_n X 1 rfl dL_law_651 ?_
                                      refine zg_aload_n X 3 rfl dL_law_652 ?_
                                      refine zg_iload_n X 0 rfl dL_law_653 ?_
                                      refine zg_iconst X 1 dL_law_654 (by decide) (fun v311 _ hv311 => ?_)
                                      refine zg_iadd X dL_law_655 (by omega) (by omega) (fun v312 ev312 hv312 => ?_)
                                      refine zg_sld X hX hbl hbA (by omega) (by omega) dL_law_656 (fun v313 ev313 => ?_)
                                      refine zg_swap ?_
                                      have X : zX d L2 kd2 A 4 p s m #[Value.ref b] c cL_law RL := X
                                      refine zg_cVi (As := [.int v313]) (st := []) X hm0 rfl (by decide) rfl (t_X11_richest l d L2 kd2 κ _ hI2 m0 hm0 v313  ) mk_L_84 mc_X11_richest mz_X11 mi_X11_richest ml_X11_richest (na := 1) ⟨md_X11.1, md_X11.2, by decide +kernel⟩ rfl ⟨by decide, by decide⟩ (Nat.le_of_ble_eq_true rfl) dL_law_657 (fun v314 s315 hq => ?_)
                                      obtain ⟨hFs315, rfl⟩ := hq
                                      refine zg_pop X dL_law_660 rfl ?_
                                      refine zg_goto X 1441 dL_law_661 (by decide) ?_
                                      refine zg_iinc X 6 (fun v317 => [(3, .int v317), (2, .ref m0), (1, .ref x0), (0, .ref b)]) 0 dL_law_1441 rfl (by decide) (by decide) (by omega) (by omega) (fun _ => rfl) (fun v317 ev317 hv317 => ?_)
                                      refine zg_goto X 18 dL_law_1444 (by decide) ?_
                                      refine zg_swap ?_
                                      have X : zX d L1 kd1 A 4 p s m #[Value.ref b] c cL_law RL := X
                                      refine zg_sub [0, 1, 2, 3] rfl ?_
                                      exact ihLp _ _ _ v317 h310 hI2 hMs309 hgN hgH hgE hgL hgK (by omega) (by omega)
                                    · skip
                                      by_cases q318 : v8.toInt = 16
                                      · refine zg_tabIn X 664 16 dL_law_33 q318 (by decide) (by decide) rfl (by decide) ?_
                                        refine zg_aload_n X 2 rfl dL_law_664 ?_
                                        refine zg_aload_n X 3 rfl dL_law_665 ?_
                                        refine zg_iload_n X 0 rfl dL_law_666 ?_
                                        refine zg_iconst X 1 dL_law_667 (by decide) (fun v319 _ hv319 => ?_)
                                        refine zg_iadd X dL_law_668 (by omega) (by omega) (fun v320 ev320 hv320 => ?_)
                                        refine zg_sld X hX hbl hbA (by omega) (by omega) dL_law_669 (fun v321 ev321 => ?_)
                                        refine zg_aload_n X 3 rfl dL_law_670 ?_
                                        refine zg_iload_n X 0 rfl dL_law_671 ?_
                                        refine zg_iconst X 2 dL_law_672 (by decide) (fun v322 _ hv322 => ?_)
                                        refine zg_iadd X dL_law_673 (by omega) (by omega) (fun v323 ev323 hv323 => ?_)
                                        refine zg_sld X hX hbl hbA (by omega) (by omega) dL_law_674 (fun v324 ev324 => ?_)
                                        refine zg_cVi (As := [.int v321, .int v324]) (st := []) X hx0 rfl (by decide) rfl (t_X10_rank l d L1 kd1 κ _ hI1 x0 hx0 v321 v324 ) mk_L_85 mc_X10_rank mz_X10 mi_X10_rank ml_X10_rank (na := 2) ⟨md_X10.1, md_X10.2, by decide +kernel⟩ rfl ⟨by decide, by decide⟩ (Nat.le_of_ble_eq_true rfl) dL_law_675 (fun v325 s326 hq => ?_)
                                        obtain ⟨hFs326, hSs326, hq⟩ := hq
                                        have h327 := hq
                                        have hMs326 := zSBM.c hM hx0 hSs326 (by decide) (by decide) (by decide)
                                        refine zg_pop X dL_law_678 rfl ?_
                                        refine zg_aload_n X 1 rfl dL_law_679 ?_
                                        refine zg_aload_n X 3 rfl dL_law_680 ?_
                                        refine zg_iload_n X 0 rfl dL_law_681 ?_
                                        refine zg_iconst X 1 dL_law_682 (by decide) (fun v328 _ hv328 => ?_)
                                        refine zg_iadd X dL_law_683 (by omega) (by omega) (fun v329 ev329 hv329 => ?_)
                                        refine zg_sld X hX hbl hbA (by omega) (by omega) dL_law_684 (fun v330 ev330 => ?_)
                                        refine zg_aload_n X 3 rfl dL_law_685 ?_
                                        refine zg_iload_n X 0 rfl dL_law_686 ?_
                                        refine zg_iconst X 2 dL_law_687 (by decide) (fun v331 _ hv331 => ?_)
                                        refine zg_iadd X dL_law_688 (by omega) (by omega) (fun v332 ev332 hv332 => ?_)
                                        refine zg_sld X hX hbl hbA (by omega) (by omega) dL_law_689 (fun v333 ev333 => ?_)
                                        refine zg_swap ?_
                                        have X : zX d L2 kd2 A 4 p s m #[Value.ref b] c cL_law RL := X
                                        refine zg_cVi (As := [.int v330, .int v333]) (st := []) X hm0 rfl (by decide) rfl (t_X11_rank l d L2 kd2 κ _ hI2 m0 hm0 v330 v333  hgN hgH hgE hgL) mk_L_88 mc_X11_rank mz_X11 mi_X11_rank ml_X11_rank (na := 2) ⟨md_X11.1, md_X11.2, by decide +kernel⟩ rfl ⟨by decide, by decide⟩ (Nat.le_of_ble_eq_true rfl) dL_law_690 (fun v334 s335 hq => ?_)
                                        obtain ⟨hFs335, hq⟩ := hq
                                        obtain ⟨⟨gNs335, gHs335, gEs335, gLs335⟩, h336, g337⟩ := hq
                                        have gKs335 := gK.same h336 hm0 g337 (by decide) hgK
                                        have hMs335 := zSBM.m hMs326 g337 (by decide) (by decide) (by decide)
                                        refine zg_pop X dL_law_693 rfl ?_
                                        refine zg_goto X 1441 dL_law_694 (by decide) ?_
                                        refine zg_iinc X 6 (fun v338 => [(3, .int v338), (2, .ref m0), (1, .ref x0), (0, .ref b)]) 0 dL_law_1441 rfl (by decide) (by decide) (by omega) (by omega) (fun _ => rfl) (fun v338 ev338 hv338 => ?_)
                                        refine zg_goto X 18 dL_law_1444 (by decide) ?_
                                        refine zg_swap ?_
                                        have X : zX d L1 kd1 A 4 p s m #[Value.ref b] c cL_law RL := X
                                        refine zg_sub [0, 1, 2, 3] rfl ?_
                                        exact ihLp _ _ _ v338 h327 h336 hMs335 gNs335 gHs335 gEs335 gLs335 gKs335 (by omega) (by omega)
                                      · skip
                                        by_cases q339 : v8.toInt = 17
                                        · refine zg_tabIn X 697 17 dL_law_33 q339 (by decide) (by decide) rfl (by decide) ?_
                                          refine zg_aload_n X 2 rfl dL_law_697 ?_
                                          refine zg_aload_n X 3 rfl dL_law_698 ?_
                                          refine zg_iload_n X 0 rfl dL_law_699 ?_
                                          refine zg_iconst X 1 dL_law_700 (by decide) (fun v340 _ hv340 => ?_)
                                          refine zg_iadd X dL_law_701 (by omega) (by omega) (fun v341 ev341 hv341 => ?_)
                                          refine zg_sld X hX hbl hbA (by omega) (by omega) dL_law_702 (fun v342 ev342 => ?_)
                                          refine zg_cVi (As := [.int v342]) (st := []) X hx0 rfl (by decide) rfl (t_X10_vote l d L1 kd1 κ _ hI1 x0 hx0 v342 ) mk_L_89 mc_X10_vote mz_X10 mi_X10_vote ml_X10_vote (na := 1) ⟨md_X10.1, md_X10.2, by decide +kernel⟩ rfl ⟨by decide, by decide⟩ (Nat.le_of_ble_eq_true rfl) dL_law_703 (fun v343 s344 hq => ?_)
                                          obtain ⟨hFs344, hSs344, hq⟩ := hq
                                          have h345 := hq
                                          have hMs344 := zSBM.c hM hx0 hSs344 (by decide) (by decide) (by decide)
                                          refine zg_pop X dL_law_706 rfl ?_
                                          refine zg_aload_n X 1 rfl dL_law_707 ?_
                                          refine zg_aload_n X 3 rfl dL_law_708 ?_
                                          refine zg_iload_n X 0 rfl dL_law_709 ?_
                                          refine zg_iconst X 1 dL_law_710 (by decide) (fun v346 _ hv346 => ?_)
                                          refine zg_iadd X dL_law_711 (by omega) (by omega) (fun v347 ev347 hv347 => ?_)
                                          refine zg_sld X hX hbl hbA (by omega) (by omega) dL_law_712 (fun v348 ev348 => ?_)
                                          refine zg_swap ?_
                                          have X : zX d L2 kd2 A 4 p s m #[Value.ref b] c cL_law RL := X
                                          refine zg_cVi (As := [.int v348]) (st := []) X hm0 rfl (by decide) rfl (t_X11_vote l d L2 kd2 κ _ hI2 m0 hm0 v348  hgN hgH hgE hgL) mk_L_92 mc_X11_vote mz_X11 mi_X11_vote ml_X11_vote (na := 1) ⟨md_X11.1, md_X11.2, by decide +kernel⟩ rfl ⟨by decide, by decide⟩ (Nat.le_of_ble_eq_true rfl) dL_law_713 (fun v349 s350 hq => ?_)
                                          obtain ⟨hFs350, hq⟩ := hq
                                          obtain ⟨⟨gNs350, gHs350, gEs350, gLs350⟩, h351, g352⟩ := hq
                                          have gKs350 := gK.same h351 hm0 g352 (by decide) hgK
                                          have hMs350 := zSBM.m hMs344 g352 (by decide) (by decide) (by decide)
                                          refine zg_pop X dL_law_716 rfl ?_
                                          refine zg_goto X 1441 dL_law_717 (by decide) ?_
                                          refine zg_iinc X 6 (fun v353 => [(3, .int v353), (2, .ref m0), (1, .ref x0), (0, .ref b)]) 0 dL_law_1441 rfl (by decide) (by decide) (by omega) (by omega) (fun _ => rfl) (fun v353 ev353 hv353 => ?_)
                                          refine zg_goto X 18 dL_law_1444 (by decide) ?_
                                          refine zg_swap ?_
                                          have X : zX d L1 kd1 A 4 p s m #[Value.ref b] c cL_law RL := X
                                          refine zg_sub [0, 1, 2, 3] rfl ?_
                                          exact ihLp _ _ _ v353 h345 h351 hMs350 gNs350 gHs350 gEs350 gLs350 gKs350 (by omega) (by omega)
                                        · skip
                                          by_cases q354 : v8.toInt = 18
                                          · refine zg_tabIn X 720 18 dL_law_33 q354 (by decide) (by decide) rfl (by decide) ?_
                                            refine zg_aload_n X 2 rfl dL_law_720 ?_
                                            refine zg_aload_n X 3 rfl dL_law_721 ?_
                                            refine zg_iload_n X 0 rfl dL_law_722 ?_
                                            refine zg_iconst X 1 dL_law_723 (by decide) (fun v355 _ hv355 => ?_)
                                            refine zg_iadd X dL_law_724 (by omega) (by omega) (fun v356 ev356 hv356 => ?_)
                                            refine zg_sld X hX hbl hbA (by omega) (by omega) dL_law_725 (fun v357 ev357 => ?_)
                                            refine zg_aload_n X 3 rfl dL_law_726 ?_
                                            refine zg_iload_n X 0 rfl dL_law_727 ?_
                                            refine zg_iconst X 2 dL_law_728 (by decide) (fun v358 _ hv358 => ?_)
                                            refine zg_iadd X dL_law_729 (by omega) (by omega) (fun v359 ev359 hv359 => ?_)
                                            refine zg_sld X hX hbl hbA (by omega) (by omega) dL_law_730 (fun v360 ev360 => ?_)
                                            refine zg_cVi (As := [.int v357, .int v360]) (st := []) X hx0 rfl (by decide) rfl (t_X10_dams l d L1 kd1 κ _ hI1 x0 hx0 v357 v360 ) mk_L_93 mc_X10_dams mz_X10 mi_X10_dams ml_X10_dams (na := 2) ⟨md_X10.1, md_X10.2, by decide +kernel⟩ rfl ⟨by decide, by decide⟩ (Nat.le_of_ble_eq_true rfl) dL_law_731 (fun v361 s362 hq => ?_)
                                            obtain ⟨hFs362, hSs362, hq⟩ := hq
                                            have h363 := hq
                                            have hMs362 := zSBM.c hM hx0 hSs362 (by decide) (by decide) (by decide)
                                            refine zg_pop X dL_law_734 rfl ?_
                                            refine zg_aload_n X 1 rfl dL_law_735 ?_
                                            refine zg_aload_n X 3 rfl dL_law_736 ?_
                                            refine zg_iload_n X 0 rfl dL_law_737 ?_
                                            refine zg_iconst X 1 dL_law_738 (by decide) (fun v364 _ hv364 => ?_)
                                            refine zg_iadd X dL_law_739 (by omega) (by omega) (fun v365 ev365 hv365 => ?_)
                                            refine zg_sld X hX hbl hbA (by omega) (by omega) dL_law_740 (fun v366 ev366 => ?_)
                                            refine zg_aload_n X 3 rfl dL_law_741 ?_
                                            refine zg_iload_n X 0 rfl dL_law_742 ?_
                                            refine zg_iconst X 2 dL_law_743 (by decide) (fun v367 _ hv367 => ?_)
                                            refine zg_iadd X dL_law_744 (by omega) (by omega) (fun v368 ev368 hv368 => ?_)
                                            refine zg_sld X hX hbl hbA (by omega) (by omega) dL_law_745 (fun v369 ev369 => ?_)
                                            refine zg_swap ?_
                                            have X : zX d L2 kd2 A 4 p s m #[Value.ref b] c cL_law RL := X
                                            refine zg_cVi (As := [.int v366, .int v369]) (st := []) X hm0 rfl (by decide) rfl (t_X11_dams l d L2 kd2 κ _ hI2 m0 hm0 v366 v369  hgN hgH hgE hgL) mk_L_96 mc_X11_dams mz_X11 mi_X11_dams ml_X11_dams (na := 2) ⟨md_X11.1, md_X11.2, by decide +kernel⟩ rfl ⟨by decide, by decide⟩ (Nat.le_of_ble_eq_true rfl) dL_law_746 (fun v370 s371 hq => ?_)
                                            obtain ⟨hFs371, hq⟩ := hq
                                            obtain ⟨⟨gNs371, gHs371, gEs371, gLs371⟩, h372, g373⟩ := hq
                                            have gKs371 := gK.same h372 hm0 g373 (by decide) hgK
                                            have hMs371 := zSBM.m hMs362 g373 (by decide) (by decide) (by decide)
                                            refine zg_pop X dL_law_749 rfl ?_
                                            refine zg_goto X 1441 dL_law_750 (by decide) ?_
                                            refine zg_iinc X 6 (fun v374 => [(3, .int v374), (2, .ref m0), (1, .ref x0), (0, .ref b)]) 0 dL_law_1441 rfl (by decide) (by decide) (by omega) (by omega) (fun _ => rfl) (fun v374 ev374 hv374 => ?_)
                                            refine zg_goto X 18 dL_law_1444 (by decide) ?_
                                            refine zg_swap ?_
                                            have X : zX d L1 kd1 A 4 p s m #[Value.ref b] c cL_law RL := X
                                            refine zg_sub [0, 1, 2, 3] rfl ?_
                                            exact ihLp _ _ _ v374 h363 h372 hMs371 gNs371 gHs371 gEs371 gLs371 gKs371 (by omega) (by omega)
                                          · skip
                                            by_cases q375 : v8.toInt = 19
                                            · refine zg_tabIn X 753 19 dL_law_33 q375 (by decide) (by decide) rfl (by decide) ?_
                                              refine zg_aload_n X 2 rfl dL_law_753 ?_
                                              refine zg_aload_n X 3 rfl dL_law_754 ?_
                                              refine zg_iload_n X 0 rfl dL_law_755 ?_
                                              refine zg_iconst X 1 dL_law_756 (by decide) (fun v376 _ hv376 => ?_)
                                              refine zg_iadd X dL_law_757 (by omega) (by omega) (fun v377 ev377 hv377 => ?_)
                                              refine zg_sld X hX hbl hbA (by omega) (by omega) dL_law_758 (fun v378 ev378 => ?_)
                                              refine zg_cVi (As := [.int v378]) (st := []) X hx0 rfl (by decide) rfl (t_X10_loss l d L1 kd1 κ _ hI1 x0 hx0 v378 ) mk_L_97 mc_X10_loss mz_X10 mi_X10_loss ml_X10_loss (na := 1) ⟨md_X10.1, md_X10.2, by decide +kernel⟩ rfl ⟨by decide, by decide⟩ (Nat.le_of_ble_eq_true rfl) dL_law_759 (fun v379 s380 hq => ?_)
                                              obtain ⟨hFs380, hSs380, hq⟩ := hq
                                              have h381 := hq
                                              have hMs380 := zSBM.c hM hx0 hSs380 (by decide) (by decide) (by decide)
                                              refine zg_pop X dL_law_762 rfl ?_
                                              refine zg_aload_n X 1 rfl dL_law_763 ?_
                                              refine zg_aload_n X 3 rfl dL_law_764 ?_
                                              refine zg_iload_n X 0 rfl dL_law_765 ?_
                                              refine zg_iconst X 1 dL_law_766 (by decide) (fun v382 _ hv382 => ?_)
                                              refine zg_iadd X dL_law_767 (by omega) (by omega) (fun v383 ev383 hv383 => ?_)
                                              refine zg_sld X hX hbl hbA (by omega) (by omega) dL_law_768 (fun v384 ev384 => ?_)
                                              refine zg_swap ?_
                                              have X : zX d L2 kd2 A 4 p s m #[Value.ref b] c cL_law RL := X
                                              refine zg_cVi (As := [.int v384]) (st := []) X hm0 rfl (by decide) rfl (t_X11_loss l d L2 kd2 κ _ hI2 m0 hm0 v384  hgN hgH hgE hgL) mk_L_100 mc_X11_loss mz_X11 mi_X11_loss ml_X11_loss (na := 1) ⟨md_X11.1, md_X11.2, by decide +kernel⟩ rfl ⟨by decide, by decide⟩ (Nat.le_of_ble_eq_true rfl) dL_law_769 (fun v385 s386 hq => ?_)
                                              obtain ⟨hFs386, hq⟩ := hq
                                              obtain ⟨⟨gNs386, gHs386, gEs386, gLs386⟩, h387, g388⟩ := hq
                                              have gKs386 := gK.same h387 hm0 g388 (by decide) hgK
                                              have hMs386 := zSBM.m hMs380 g388 (by decide) (by decide) (by decide)
                                              refine zg_pop X dL_law_772 rfl ?_
                                              refine zg_goto X 1441 dL_law_773 (by decide) ?_
                                              refine zg_iinc X 6 (fun v389 => [(3, .int v389), (2, .ref m0), (1, .ref x0), (0, .ref b)]) 0 dL_law_1441 rfl (by decide) (by decide) (by omega) (by omega) (fun _ => rfl) (fun v389 ev389 hv389 => ?_)
                                              refine zg_goto X 18 dL_law_1444 (by decide) ?_
                                              refine zg_swap ?_
                                              have X : zX d L1 kd1 A 4 p s m #[Value.ref b] c cL_law RL := X
                                              refine zg_sub [0, 1, 2, 3] rfl ?_
                                              exact ihLp _ _ _ v389 h381 h387 hMs386 gNs386 gHs386 gEs386 gLs386 gKs386 (by omega) (by omega)
                                            · skip
                                              by_cases q390 : v8.toInt = 20
                                              · refine zg_tabIn X 776 20 dL_law_33 q390 (by decide) (by decide) rfl (by decide) ?_
                                                refine zg_aload_n X 2 rfl dL_law_776 ?_
                                                refine zg_aload_n X 3 rfl dL_law_777 ?_
                                                refine zg_iload_n X 0 rfl dL_law_778 ?_
                                                refine zg_iconst X 1 dL_law_779 (by decide) (fun v391 _ hv391 => ?_)
                                                refine zg_iadd X dL_law_780 (by omega) (by omega) (fun v392 ev392 hv392 => ?_)
                                                refine zg_sld X hX hbl hbA (by omega) (by omega) dL_law_781 (fun v393 ev393 => ?_)
                                                refine zg_cVi (As := [.int v393]) (st := []) X hx0 rfl (by decide) rfl (t_X10_main l d L1 kd1 κ _ hI1 x0 hx0 v393 ) mk_L_101 mc_X10_main mz_X10 mi_X10_main ml_X10_main (na := 1) ⟨md_X10.1, md_X10.2, by decide +kernel⟩ rfl ⟨by decide, by decide⟩ (Nat.le_of_ble_eq_true rfl) dL_law_782 (fun v394 s395 hq => ?_)
                                                obtain ⟨hFs395, hSs395, hq⟩ := hq
                                                have h396 := hq
                                                have hMs395 := zSBM.c hM hx0 hSs395 (by decide) (by decide) (by decide)
                                                refine zg_pop X dL_law_785 rfl ?_
                                                refine zg_aload_n X 1 rfl dL_law_786 ?_
                                                refine zg_aload_n X 3 rfl dL_law_787 ?_
                                                refine zg_iload_n X 0 rfl dL_law_788 ?_
                                                refine zg_iconst X 1 dL_law_789 (by decide) (fun v397 _ hv397 => ?_)
                                                refine zg_iadd X dL_law_790 (by omega) (by omega) (fun v398 ev398 hv398 => ?_)
                                                refine zg_sld X hX hbl hbA (by omega) (by omega) dL_law_791 (fun v399 ev399 => ?_)
                                                refine zg_swap ?_
                                                have X : zX d L2 kd2 A 4 p s m #[Value.ref b] c cL_law RL := X
                                                refine zg_cVi (As := [.int v399]) (st := []) X hm0 rfl (by decide) rfl (t_X11_main l d L2 kd2 κ _ hI2 m0 hm0 v399  hgN hgH hgE hgL) mk_L_104 mc_X11_main mz_X11 mi_X11_main ml_X11_main (na := 1) ⟨md_X11.1, md_X11.2, by decide +kernel⟩ rfl ⟨by decide, by decide⟩ (Nat.le_of_ble_eq_true rfl) dL_law_792 (fun v400 s401 hq => ?_)
                                                obtain ⟨hFs401, hq⟩ := hq
                                                obtain ⟨⟨gNs401, gHs401, gEs401, gLs401⟩, h402, g403⟩ := hq
                                                have gKs401 := gK.same h402 hm0 g403 (by decide) hgK
                                                have hMs401 := zSBM.m hMs395 g403 (by decide) (by decide) (by decide)
                                                refine zg_pop X dL_law_795 rfl ?_
                                                refine zg_goto X 1441 dL_law_796 (by decide) ?_
                                                refine zg_iinc X 6 (fun v404 => [(3, .int v404), (2, .ref m0), (1, .ref x0), (0, .ref b)]) 0 dL_law_1441 rfl (by decide) (by decide) (by omega) (by omega) (fun _ => rfl) (fun v404 ev404 hv404 => ?_)
                                                refine zg_goto X 18 dL_law_1444 (by decide) ?_
                                                refine zg_swap ?_
                                                have X : zX d L1 kd1 A 4 p s m #[Value.ref b] c cL_law RL := X
                                                refine zg_sub [0, 1, 2, 3] rfl ?_
                                                exact ihLp _ _ _ v404 h396 h402 hMs401 gNs401 gHs401 gEs401 gLs401 gKs401 (by omega) (by omega)
                                              · skip
                                                by_cases q405 : v8.toInt = 21
                                                · refine zg_tabIn X 799 21 dL_law_33 q405 (by decide) (by decide) rfl (by decide) ?_
                                                  refine zg_aload_n X 2 rfl dL_law_799 ?_
                                                  refine zg_aload_n X 3 rfl dL_law_800 ?_
                                                  refine zg_iload_n X 0 rfl dL_law_801 ?_
                                                  refine zg_iconst X 1 dL_law_802 (by decide) (fun v406 _ hv406 => ?_)
                                                  refine zg_iadd X dL_law_803 (by omega) (by omega) (fun v407 ev407 hv407 => ?_)
                                                  refine zg_sld X hX hbl hbA (by omega) (by omega) dL_law_804 (fun v408 ev408 => ?_)
                                                  refine zg_aload_n X 3 rfl dL_law_805 ?_
                                                  refine zg_iload_n X 0 rfl dL_law_806 ?_
                                                  refine zg_iconst X 2 dL_law_807 (by decide) (fun v409 _ hv409 => ?_)
                                                  refine zg_iadd X dL_law_808 (by omega) (by omega) (fun v410 ev410 hv410 => ?_)
                                                  refine zg_sld X hX hbl hbA (by omega) (by omega) dL_law_809 (fun v411 ev411 => ?_)
                                                  refine zg_cVi (As := [.int v408, .int v411]) (st := []) X hx0 rfl (by decide) rfl (t_X10_driest l d L1 kd1 κ _ hI1 x0 hx0 v408 v411 ) mk_L_105 mc_X10_driest mz_X10 mi_X10_driest ml_X10_driest (na := 2) ⟨md_X10.1, md_X10.2, by decide +kernel⟩ rfl ⟨by decide, by decide⟩ (Nat.le_of_ble_eq_true rfl) dL_law_810 (fun v412 s413 hq => ?_)
                                                  obtain ⟨hFs413, hSs413, hq⟩ := hq
                                                  have h414 := hq
                                                  have hMs413 := zSBM.c hM hx0 hSs413 (by decide) (by decide) (by decide)
                                                  refine zg_pop X dL_law_813 rfl ?_
                                                  refine zg_aload_n X 1 rfl dL_law_814 ?_
                                                  refine zg_aload_n X 3 rfl dL_law_815 ?_
                                                  refine zg_iload_n X 0 rfl dL_law_816 ?_
                                                  refine zg_iconst X 1 dL_law_817 (by decide) (fun v415 _ hv415 => ?_)
                                                  refine zg_iadd X dL_law_818 (by omega) (by omega) (fun v416 ev416 hv416 => ?_)
                                                  refine zg_sld X hX hbl hbA (by omega) (by omega) dL_law_819 (fun v417 ev417 => ?_)
                                                  refine zg_aload_n X 3 rfl dL_law_820 ?_
                                                  refine zg_iload_n X 0 rfl dL_law_821 ?_
                                                  refine zg_iconst X 2 dL_law_822 (by decide) (fun v418 _ hv418 => ?_)
                                                  refine zg_iadd X dL_law_823 (by omega) (by omega) (fun v419 ev419 hv419 => ?_)
                                                  refine zg_sld X hX hbl hbA (by omega) (by omega) dL_law_824 (fun v420 ev420 => ?_)
                                                  refine zg_swap ?_
                                                  have X : zX d L2 kd2 A 4 p s m #[Value.ref b] c cL_law RL := X
                                                  refine zg_cVi (As := [.int v417, .int v420]) (st := []) X hm0 rfl (by decide) rfl (t_X11_driest l d L2 kd2 κ _ hI2 m0 hm0 v417 v420  hgN hgH hgE hgL) mk_L_108 mc_X11_driest mz_X11 mi_X11_driest ml_X11_driest (na := 2) ⟨md_X11.1, md_X11.2, by decide +kernel⟩ rfl ⟨by decide, by decide⟩ (Nat.le_of_ble_eq_true rfl) dL_law_825 (fun v421 s422 hq => ?_)
                                                  obtain ⟨hFs422, hq⟩ := hq
                                                  obtain ⟨⟨gNs422, gHs422, gEs422, gLs422⟩, h423, g424⟩ := hq
                                                  have gKs422 := gK.same h423 hm0 g424 (by decide) hgK
                                                  have hMs422 := zSBM.m hMs413 g424 (by decide) (by decide) (by decide)
                                                  refine zg_pop X dL_law_828 rfl ?_
                                                  refine zg_goto X 1441 dL_law_829 (by decide) ?_
                                                  refine zg_iinc X 6 (fun v425 => [(3, .int v425), (2, .ref m0), (1, .ref x0), (0, .ref b)]) 0 dL_law_1441 rfl (by decide) (by decide) (by omega) (by omega) (fun _ => rfl) (fun v425 ev425 hv425 => ?_)
                                                  refine zg_goto X 18 dL_law_1444 (by decide) ?_
                                                  refine zg_swap ?_
                                                  have X : zX d L1 kd1 A 4 p s m #[Value.ref b] c cL_law RL := X
                                                  refine zg_sub [0, 1, 2, 3] rfl ?_
                                                  exact ihLp _ _ _ v425 h414 h423 hMs422 gNs422 gHs422 gEs422 gLs422 gKs422 (by omega) (by omega)
                                                · skip
                                                  by_cases q426 : v8.toInt = 22
                                                  · refine zg_tabIn X 832 22 dL_law_33 q426 (by decide) (by decide) rfl (by decide) ?_
                                                    refine zg_aload_n X 2 rfl dL_law_832 ?_
                                                    refine zg_aload_n X 3 rfl dL_law_833 ?_
                                                    refine zg_iload_n X 0 rfl dL_law_834 ?_
                                                    refine zg_iconst X 1 dL_law_835 (by decide) (fun v427 _ hv427 => ?_)
                                                    refine zg_iadd X dL_law_836 (by omega) (by omega) (fun v428 ev428 hv428 => ?_)
                                                    refine zg_sld X hX hbl hbA (by omega) (by omega) dL_law_837 (fun v429 ev429 => ?_)
                                                    refine zg_aload_n X 3 rfl dL_law_838 ?_
                                                    refine zg_iload_n X 0 rfl dL_law_839 ?_
                                                    refine zg_iconst X 2 dL_law_840 (by decide) (fun v430 _ hv430 => ?_)
                                                    refine zg_iadd X dL_law_841 (by omega) (by omega) (fun v431 ev431 hv431 => ?_)
                                                    refine zg_sld X hX hbl hbA (by omega) (by omega) dL_law_842 (fun v432 ev432 => ?_)
                                                    refine zg_cVi (As := [.int v429, .int v432]) (st := []) X hx0 rfl (by decide) rfl (t_X10_turnFor l d L1 kd1 κ _ hI1 x0 hx0 v429 v432 ) mk_L_109 mc_X10_turnFor mz_X10 mi_X10_turnFor ml_X10_turnFor (na := 2) ⟨md_X10.1, md_X10.2, by decide +kernel⟩ rfl ⟨by decide, by decide⟩ (Nat.le_of_ble_eq_true rfl) dL_law_843 (fun v433 s434 hq => ?_)
                                                    obtain ⟨hFs434, hSs434, hq⟩ := hq
                                                    have h435 := hq
                                                    have hMs434 := zSBM.c hM hx0 hSs434 (by decide) (by decide) (by decide)
                                                    refine zg_pop X dL_law_846 rfl ?_
                                                    refine zg_aload_n X 1 rfl dL_law_847 ?_
                                                    refine zg_aload_n X 3 rfl dL_law_848 ?_
                                                    refine zg_iload_n X 0 rfl dL_law_849 ?_
                                                    refine zg_iconst X 1 dL_law_850 (by decide) (fun v436 _ hv436 => ?_)
                                                    refine zg_iadd X dL_law_851 (by omega) (by omega) (fun v437 ev437 hv437 => ?_)
                                                    refine zg_sld X hX hbl hbA (by omega) (by omega) dL_law_852 (fun v438 ev438 => ?_)
                                                    refine zg_aload_n X 3 rfl dL_law_853 ?_
                                                    refine zg_iload_n X 0 rfl dL_law_854 ?_
                                                    refine zg_iconst X 2 dL_law_855 (by decide) (fun v439 _ hv439 => ?_)
                                                    refine zg_iadd X dL_law_856 (by omega) (by omega) (fun v440 ev440 hv440 => ?_)
                                                    refine zg_sld X hX hbl hbA (by omega) (by omega) dL_law_857 (fun v441 ev441 => ?_)
                                                    refine zg_swap ?_
                                                    have X : zX d L2 kd2 A 4 p s m #[Value.ref b] c cL_law RL := X
                                                    refine zg_cVi (As := [.int v438, .int v441]) (st := []) X hm0 rfl (by decide) rfl (t_X11_turnFor l d L2 kd2 κ _ hI2 m0 hm0 v438 v441  hgN hgH hgE hgL) mk_L_112 mc_X11_turnFor mz_X11 mi_X11_turnFor ml_X11_turnFor (na := 2) ⟨md_X11.1, md_X11.2, by decide +kernel⟩ rfl ⟨by decide, by decide⟩ (Nat.le_of_ble_eq_true rfl) dL_law_858 (fun v442 s443 hq => ?_)
                                                    obtain ⟨hFs443, hq⟩ := hq
                                                    obtain ⟨⟨gNs443, gHs443, gEs443, gLs443⟩, h444, g445⟩ := hq
                                                    have gKs443 := gK.same h444 hm0 g445 (by decide) hgK
                                                    have hMs443 := zSBM.m hMs434 g445 (by decide) (by decide) (by decide)
                                                    refine zg_pop X dL_law_861 rfl ?_
                                                    refine zg_goto X 1441 dL_law_862 (by decide) ?_
                                                    refine zg_iinc X 6 (fun v446 => [(3, .int v446), (2, .ref m0), (1, .ref x0), (0, .ref b)]) 0 dL_law_1441 rfl (by decide) (by decide) (by omega) (by omega) (fun _ => rfl) (fun v446 ev446 hv446 => ?_)
                                                    refine zg_goto X 18 dL_law_1444 (by decide) ?_
                                                    refine zg_swap ?_
                                                    have X : zX d L1 kd1 A 4 p s m #[Value.ref b] c cL_law RL := X
                                                    refine zg_sub [0, 1, 2, 3] rfl ?_
                                                    exact ihLp _ _ _ v446 h435 h444 hMs443 gNs443 gHs443 gEs443 gLs443 gKs443 (by omega) (by omega)
                                                  · skip
                                                    by_cases q447 : v8.toInt = 23
                                                    · refine zg_tabIn X 865 23 dL_law_33 q447 (by decide) (by decide) rfl (by decide) ?_
                                                      refine zg_aload_n X 2 rfl dL_law_865 ?_
                                                      refine zg_aload_n X 3 rfl dL_law_866 ?_
                                                      refine zg_iload_n X 0 rfl dL_law_867 ?_
                                                      refine zg_iconst X 1 dL_law_868 (by decide) (fun v448 _ hv448 => ?_)
                                                      refine zg_iadd X dL_law_869 (by omega) (by omega) (fun v449 ev449 hv449 => ?_)
                                                      refine zg_sld X hX hbl hbA (by omega) (by omega) dL_law_870 (fun v450 ev450 => ?_)
                                                      refine zg_aload_n X 3 rfl dL_law_871 ?_
                                                      refine zg_iload_n X 0 rfl dL_law_872 ?_
                                                      refine zg_iconst X 2 dL_law_873 (by decide) (fun v451 _ hv451 => ?_)
                                                      refine zg_iadd X dL_law_874 (by omega) (by omega) (fun v452 ev452 hv452 => ?_)
                                                      refine zg_sld X hX hbl hbA (by omega) (by omega) dL_law_875 (fun v453 ev453 => ?_)
                                                      refine zg_cVi (As := [.int v450, .int v453]) (st := []) X hx0 rfl (by decide) rfl (t_X10_damFor l d L1 kd1 κ _ hI1 x0 hx0 v450 v453 ) mk_L_113 mc_X10_damFor mz_X10 mi_X10_damFor ml_X10_damFor (na := 2) ⟨md_X10.1, md_X10.2, by decide +kernel⟩ rfl ⟨by decide, by decide⟩ (Nat.le_of_ble_eq_true rfl) dL_law_876 (fun v454 s455 hq => ?_)
                                                      obtain ⟨hFs455, hSs455, hq⟩ := hq
                                                      have h456 := hq
                                                      have hMs455 := zSBM.c hM hx0 hSs455 (by decide) (by decide) (by decide)
                                                      refine zg_pop X dL_law_879 rfl ?_
                                                      refine zg_aload_n X 1 rfl dL_law_880 ?_
                                                      refine zg_aload_n X 3 rfl dL_law_881 ?_
                                                      refine zg_iload_n X 0 rfl dL_law_882 ?_
                                                      refine zg_iconst X 1 dL_law_883 (by decide) (fun v457 _ hv457 => ?_)
                                                      refine zg_iadd X dL_law_884 (by omega) (by omega) (fun v458 ev458 hv458 => ?_)
                                                      refine zg_sld X hX hbl hbA (by omega) (by omega) dL_law_885 (fun v459 ev459 => ?_)
                                                      refine zg_aload_n X 3 rfl dL_law_886 ?_
                                                      refine zg_iload_n X 0 rfl dL_law_887 ?_
                                                      refine zg_iconst X 2 dL_law_888 (by decide) (fun v460 _ hv460 => ?_)
                                                      refine zg_iadd X dL_law_889 (by omega) (by omega) (fun v461 ev461 hv461 => ?_)
                                                      refine zg_sld X hX hbl hbA (by omega) (by omega) dL_law_890 (fun v462 ev462 => ?_)
                                                      refine zg_swap ?_
                                                      have X : zX d L2 kd2 A 4 p s m #[Value.ref b] c cL_law RL := X
                                                      refine zg_cVi (As := [.int v459, .int v462]) (st := []) X hm0 rfl (by decide) rfl (t_X11_damFor l d L2 kd2 κ _ hI2 m0 hm0 v459 v462  hgN hgH hgE hgL) mk_L_116 mc_X11_damFor mz_X11 mi_X11_damFor ml_X11_damFor (na := 2) ⟨md_X11.1, md_X11.2, by decide +kernel⟩ rfl ⟨by decide, by decide⟩ (Nat.le_of_ble_eq_true rfl) dL_law_891 (fun v463 s464 hq => ?_)
                                                      obtain ⟨hFs464, hq⟩ := hq
                                                      obtain ⟨⟨gNs464, gHs464, gEs464, gLs464⟩, h465, g466⟩ := hq
                                                      have gKs464 := gK.same h465 hm0 g466 (by decide) hgK
                                                      have hMs464 := zSBM.m hMs455 g466 (by decide) (by decide) (by decide)
                                                      refine zg_pop X dL_law_894 rfl ?_
                                                      refine zg_goto X 1441 dL_law_895 (by decide) ?_
                                                      refine zg_iinc X 6 (fun v467 => [(3, .int v467), (2, .ref m0), (1, .ref x0), (0, .ref b)]) 0 dL_law_1441 rfl (by decide) (by decide) (by omega) (by omega) (fun _ => rfl) (fun v467 ev467 hv467 => ?_)
                                                      refine zg_goto X 18 dL_law_1444 (by decide) ?_
                                                      refine zg_swap ?_
                                                      have X : zX d L1 kd1 A 4 p s m #[Value.ref b] c cL_law RL := X
                                                      refine zg_sub [0, 1, 2, 3] rfl ?_
                                                      exact ihLp _ _ _ v467 h456 h465 hMs464 gNs464 gHs464 gEs464 gLs464 gKs464 (by omega) (by omega)
                                                    · skip
                                                      by_cases q468 : v8.toInt = 24
                                                      · refine zg_tabIn X 898 24 dL_law_33 q468 (by decide) (by decide) rfl (by decide) ?_
                                                        refine zg_aload_n X 2 rfl dL_law_898 ?_
                                                        refine zg_cVi (As := []) (st := []) X hx0 rfl (by decide) rfl (t_X10_depth l d L1 kd1 κ _ hI1 x0 hx0  ) mk_L_117 mc_X10_depth mz_X10 mi_X10_depth ml_X10_depth (na := 0) ⟨md_X10.1, md_X10.2, by decide +kernel⟩ rfl ⟨by decide, by decide⟩ (Nat.le_of_ble_eq_true rfl) dL_law_899 (fun v469 s470 hq => ?_)
                                                        obtain ⟨hFs470, hSs470, hq⟩ := hq
                                                        have h471 := hq
                                                        have hMs470 := zSBM.c hM hx0 hSs470 (by decide) (by decide) (by decide)
                                                        refine zg_pop X dL_law_902 rfl ?_
                                                        refine zg_aload_n X 1 rfl dL_law_903 ?_
                                                        refine zg_swap ?_
                                                        have X : zX d L2 kd2 A 4 p s m #[Value.ref b] c cL_law RL := X
                                                        refine zg_cVi (As := []) (st := []) X hm0 rfl (by decide) rfl (t_X11_depth l d L2 kd2 κ _ hI2 m0 hm0   hgN hgH hgE hgL) mk_L_120 mc_X11_depth mz_X11 mi_X11_depth ml_X11_depth (na := 0) ⟨md_X11.1, md_X11.2, by decide +kernel⟩ rfl ⟨by decide, by decide⟩ (Nat.le_of_ble_eq_true rfl) dL_law_904 (fun v472 s473 hq => ?_)
                                                        obtain ⟨hFs473, hq⟩ := hq
                                                        obtain ⟨⟨gNs473, gHs473, gEs473, gLs473⟩, h474, g475⟩ := hq
                                                        have gKs473 := gK.same h474 hm0 g475 (by decide) hgK
                                                        have hMs473 := zSBM.m hMs470 g475 (by decide) (by decide) (by decide)
                                                        refine zg_pop X dL_law_907 rfl ?_
                                                        refine zg_goto X 1441 dL_law_908 (by decide) ?_
                                                        refine zg_iinc X 6 (fun v476 => [(3, .int v476), (2, .ref m0), (1, .ref x0), (0, .ref b)]) 0 dL_law_1441 rfl (by decide) (by decide) (by omega) (by omega) (fun _ => rfl) (fun v476 ev476 hv476 => ?_)
                                                        refine zg_goto X 18 dL_law_1444 (by decide) ?_
                                                        refine zg_swap ?_
                                                        have X : zX d L1 kd1 A 4 p s m #[Value.ref b] c cL_law RL := X
                                                        refine zg_sub [0, 1, 2, 3] rfl ?_
                                                        exact ihLp _ _ _ v476 h471 h474 hMs473 gNs473 gHs473 gEs473 gLs473 gKs473 (by omega) (by omega)
                                                      · skip
                                                        by_cases q477 : v8.toInt = 25
                                                        · refine zg_tabIn X 911 25 dL_law_33 q477 (by decide) (by decide) rfl (by decide) ?_
                                                          refine zg_aload_n X 2 rfl dL_law_911 ?_
                                                          refine zg_aload_n X 3 rfl dL_law_912 ?_
                                                          refine zg_iload_n X 0 rfl dL_law_913 ?_
                                                          refine zg_iconst X 1 dL_law_914 (by decide) (fun v478 _ hv478 => ?_)
                                                          refine zg_iadd X dL_law_915 (by omega) (by omega) (fun v479 ev479 hv479 => ?_)
                                                          refine zg_sld X hX hbl hbA (by omega) (by omega) dL_law_916 (fun v480 ev480 => ?_)
                                                          refine zg_cVi (As := [.int v480]) (st := []) X hx0 rfl (by decide) rfl (t_X10_order l d L1 kd1 κ _ hI1 x0 hx0 v480 ) mk_L_121 mc_X10_order mz_X10 mi_X10_order ml_X10_order (na := 1) ⟨md_X10.1, md_X10.2, by decide +kernel⟩ rfl ⟨by decide, by decide⟩ (Nat.le_of_ble_eq_true rfl) dL_law_917 (fun v481 s482 hq => ?_)
                                                          obtain ⟨hFs482, hSs482, hq⟩ := hq
                                                          have h483 := hq
                                                          have hMs482 := zSBM.c hM hx0 hSs482 (by decide) (by decide) (by decide)
                                                          refine zg_pop X dL_law_920 rfl ?_
                                                          refine zg_aload_n X 1 rfl dL_law_921 ?_
                                                          refine zg_aload_n X 3 rfl dL_law_922 ?_
                                                          refine zg_iload_n X 0 rfl dL_law_923 ?_
                                                          refine zg_iconst X 1 dL_law_924 (by decide) (fun v484 _ hv484 => ?_)
                                                          refine zg_iadd X dL_law_925 (by omega) (by omega) (fun v485 ev485 hv485 => ?_)
                                                          refine zg_sld X hX hbl hbA (by omega) (by omega) dL_law_926 (fun v486 ev486 => ?_)
                                                          refine zg_swap ?_
                                                          have X : zX d L2 kd2 A 4 p s m #[Value.ref b] c cL_law RL := X
                                                          refine zg_cVi (As := [.int v486]) (st := []) X hm0 rfl (by decide) rfl (t_X11_order l d L2 kd2 κ _ hI2 m0 hm0 v486  hgN hgH hgE hgL) mk_L_124 mc_X11_order mz_X11 mi_X11_order ml_X11_order (na := 1) ⟨md_X11.1, md_X11.2, by decide +kernel⟩ rfl ⟨by decide, by decide⟩ (Nat.le_of_ble_eq_true rfl) dL_law_927 (fun v487 s488 hq => ?_)
                                                          obtain ⟨hFs488, hq⟩ := hq
                                                          obtain ⟨⟨gNs488, gHs488, gEs488, gLs488⟩, h489, g490⟩ := hq
                                                          have gKs488 := gK.same h489 hm0 g490 (by decide) hgK
                                                          have hMs488 := zSBM.m hMs482 g490 (by decide) (by decide) (by decide)
                                                          refine zg_pop X dL_law_930 rfl ?_
                                                          refine zg_goto X 1441 dL_law_931 (by decide) ?_
                                                          refine zg_iinc X 6 (fun v491 => [(3, .int v491), (2, .ref m0), (1, .ref x0), (0, .ref b)]) 0 dL_law_1441 rfl (by decide) (by decide) (by omega) (by omega) (fun _ => rfl) (fun v491 ev491 hv491 => ?_)
                                                          refine zg_goto X 18 dL_law_1444 (by decide) ?_
                                                          refine zg_swap ?_
                                                          have X : zX d L1 kd1 A 4 p s m #[Value.ref b] c cL_law RL := X
                                                          refine zg_sub [0, 1, 2, 3] rfl ?_
                                                          exact ihLp _ _ _ v491 h483 h489 hMs488 gNs488 gHs488 gEs488 gLs488 gKs488 (by omega) (by omega)
                                                        · skip
                                                          by_cases q492 : v8.toInt = 26
                                                          · refine zg_tabIn X 934 26 dL_law_33 q492 (by decide) (by decide) rfl (by decide) ?_
                                                            refine zg_aload_n X 2 rfl dL_law_934 ?_
                                                            refine zg_aload_n X 3 rfl dL_law_935 ?_
                                                            refine zg_iload_n X 0 rfl dL_law_936 ?_
                                                            refine zg_iconst X 1 dL_law_937 (by decide) (fun v493 _ hv493 => ?_)
                                                            refine zg_iadd X dL_law_938 (by omega) (by omega) (fun v494 ev494 hv494 => ?_)
                                                            refine zg_sld X hX hbl hbA (by omega) (by omega) dL_law_939 (fun v495 ev495 => ?_)
                                                            refine zg_aload_n X 3 rfl dL_law_940 ?_
                                                            refine zg_iload_n X 0 rfl dL_law_941 ?_
                                                            refine zg_iconst X 2 dL_law_942 (by decide) (fun v496 _ hv496 => ?_)
                                                            refine zg_iadd X dL_law_943 (by omega) (by omega) (fun v497 ev497 hv497 => ?_)
                                                            refine zg_sld X hX hbl hbA (by omega) (by omega) dL_law_944 (fun v498 ev498 => ?_)
                                                            refine zg_cVi (As := [.int v495, .int v498]) (st := []) X hx0 rfl (by decide) rfl (t_X10_basin l d L1 kd1 κ _ hI1 x0 hx0 v495 v498 ) mk_L_125 mc_X10_basin mz_X10 mi_X10_basin ml_X10_basin (na := 2) ⟨md_X10.1, md_X10.2, by decide +kernel⟩ rfl ⟨by decide, by decide⟩ (Nat.le_of_ble_eq_true rfl) dL_law_945 (fun v499 s500 hq => ?_)
                                                            obtain ⟨hFs500, hSs500, hq⟩ := hq
                                                            have h501 := hq
                                                            have hMs500 := zSBM.c hM hx0 hSs500 (by decide) (by decide) (by decide)
                                                            refine zg_pop X dL_law_948 rfl ?_
                                                            refine zg_aload_n X 1 rfl dL_law_949 ?_
                                                            refine zg_aload_n X 3 rfl dL_law_950 ?_
                                                            refine zg_iload_n X 0 rfl dL_law_951 ?_
                                                            refine zg_iconst X 1 dL_law_952 (by decide) (fun v502 _ hv502 => ?_)
                                                            refine zg_iadd X dL_law_953 (by omega) (by omega) (fun v503 ev503 hv503 => ?_)
                                                            refine zg_sld X hX hbl hbA (by omega) (by omega) dL_law_954 (fun v504 ev504 => ?_)
                                                            refine zg_aload_n X 3 rfl dL_law_955 ?_
                                                            refine zg_iload_n X 0 rfl dL_law_956 ?_
                                                            refine zg_iconst X 2 dL_law_957 (by decide) (fun v505 _ hv505 => ?_)
                                                            refine zg_iadd X dL_law_958 (by omega) (by omega) (fun v506 ev506 hv506 => ?_)
                                                            refine zg_sld X hX hbl hbA (by omega) (by omega) dL_law_959 (fun v507 ev507 => ?_)
                                                            refine zg_swap ?_
                                                            have X : zX d L2 kd2 A 4 p s m #[Value.ref b] c cL_law RL := X
                                                            refine zg_cVi (As := [.int v504, .int v507]) (st := []) X hm0 rfl (by decide) rfl (t_X11_basin l d L2 kd2 κ _ hI2 m0 hm0 v504 v507  hgN hgH hgE hgL) mk_L_128 mc_X11_basin mz_X11 mi_X11_basin ml_X11_basin (na := 2) ⟨md_X11.1, md_X11.2, by decide +kernel⟩ rfl ⟨by decide, by decide⟩ (Nat.le_of_ble_eq_true rfl) dL_law_960 (fun v508 s509 hq => ?_)
                                                            obtain ⟨hFs509, hq⟩ := hq
                                                            obtain ⟨⟨gNs509, gHs509, gEs509, gLs509⟩, h510, g511⟩ := hq
                                                            have gKs509 := gK.same h510 hm0 g511 (by decide) hgK
                                                            have hMs509 := zSBM.m hMs500 g511 (by decide) (by decide) (by decide)
                                                            refine zg_pop X dL_law_963 rfl ?_
                                                            refine zg_goto X 1441 dL_law_964 (by decide) ?_
                                                            refine zg_iinc X 6 (fun v512 => [(3, .int v512), (2, .ref m0), (1, .ref x0), (0, .ref b)]) 0 dL_law_1441 rfl (by decide) (by decide) (by omega) (by omega) (fun _ => rfl) (fun v512 ev512 hv512 => ?_)
                                                            refine zg_goto X 18 dL_law_1444 (by decide) ?_
                                                            refine zg_swap ?_
                                                            have X : zX d L1 kd1 A 4 p s m #[Value.ref b] c cL_law RL := X
                                                            refine zg_sub [0, 1, 2, 3] rfl ?_
                                                            exact ihLp _ _ _ v512 h501 h510 hMs509 gNs509 gHs509 gEs509 gLs509 gKs509 (by omega) (by omega)
                                                          · skip
                                                            by_cases q513 : v8.toInt = 27
                                                            · refine zg_tabIn X 967 27 dL_law_33 q513 (by decide) (by decide) rfl (by decide) ?_
                                                              refine zg_aload_n X 2 rfl dL_law_967 ?_
                                                              refine zg_aload_n X 3 rfl dL_law_968 ?_
                                                              refine zg_iload_n X 0 rfl dL_law_969 ?_
                                                              refine zg_iconst X 1 dL_law_970 (by decide) (fun v514 _ hv514 => ?_)
                                                              refine zg_iadd X dL_law_971 (by omega) (by omega) (fun v515 ev515 hv515 => ?_)
                                                              refine zg_sld X hX hbl hbA (by omega) (by omega) dL_law_972 (fun v516 ev516 => ?_)
                                                              refine zg_cVi (As := [.int v516]) (st := []) X hx0 rfl (by decide) rfl (t_X10_part l d L1 kd1 κ _ hI1 x0 hx0 v516 ) mk_L_129 mc_X10_part mz_X10 mi_X10_part ml_X10_part (na := 1) ⟨md_X10.1, md_X10.2, by decide +kernel⟩ rfl ⟨by decide, by decide⟩ (Nat.le_of_ble_eq_true rfl) dL_law_973 (fun v517 s518 hq => ?_)
                                                              obtain ⟨hFs518, hSs518, hq⟩ := hq
                                                              have h519 := hq
                                                              have hMs518 := zSBM.c hM hx0 hSs518 (by decide) (by decide) (by decide)
                                                              refine zg_pop X dL_law_976 rfl ?_
                                                              refine zg_aload_n X 1 rfl dL_law_977 ?_
                                                              refine zg_aload_n X 3 rfl dL_law_978 ?_
                                                              refine zg_iload_n X 0 rfl dL_law_979 ?_
                                                              refine zg_iconst X 1 dL_law_980 (by decide) (fun v520 _ hv520 => ?_)
                                                              refine zg_iadd X dL_law_981 (by omega) (by omega) (fun v521 ev521 hv521 => ?_)
                                                              refine zg_sld X hX hbl hbA (by omega) (by omega) dL_law_982 (fun v522 ev522 => ?_)
                                                              refine zg_swap ?_
                                                              have X : zX d L2 kd2 A 4 p s m #[Value.ref b] c cL_law RL := X
                                                              refine zg_cVi (As := [.int v522]) (st := []) X hm0 rfl (by decide) rfl (t_X11_part l d L2 kd2 κ _ hI2 m0 hm0 v522  hgN hgH hgE hgL) mk_L_132 mc_X11_part mz_X11 mi_X11_part ml_X11_part (na := 1) ⟨md_X11.1, md_X11.2, by decide +kernel⟩ rfl ⟨by decide, by decide⟩ (Nat.le_of_ble_eq_true rfl) dL_law_983 (fun v523 s524 hq => ?_)
                                                              obtain ⟨hFs524, hq⟩ := hq
                                                              obtain ⟨⟨gNs524, gHs524, gEs524, gLs524⟩, h525, g526⟩ := hq
                                                              have gKs524 := gK.same h525 hm0 g526 (by decide) hgK
                                                              have hMs524 := zSBM.m hMs518 g526 (by decide) (by decide) (by decide)
                                                              refine zg_pop X dL_law_986 rfl ?_
                                                              refine zg_goto X 1441 dL_law_987 (by decide) ?_
                                                              refine zg_iinc X 6 (fun v527 => [(3, .int v527), (2, .ref m0), (1, .ref x0), (0, .ref b)]) 0 dL_law_1441 rfl (by decide) (by decide) (by omega) (by omega) (fun _ => rfl) (fun v527 ev527 hv527 => ?_)
                                                              refine zg_goto X 18 dL_law_1444 (by decide) ?_
                                                              refine zg_swap ?_
                                                              have X : zX d L1 kd1 A 4 p s m #[Value.ref b] c cL_law RL := X
                                                              refine zg_sub [0, 1, 2, 3] rfl ?_
                                                              exact ihLp _ _ _ v527 h519 h525 hMs524 gNs524 gHs524 gEs524 gLs524 gKs524 (by omega) (by omega)
                                                            · skip
                                                              by_cases q528 : v8.toInt = 28
                                                              · refine zg_tabIn X 990 28 dL_law_33 q528 (by decide) (by decide) rfl (by decide) ?_
                                                                refine zg_aload_n X 2 rfl dL_law_990 ?_
                                                                refine zg_aload_n X 3 rfl dL_law_991 ?_
                                                                refine zg_iload_n X 0 rfl dL_law_992 ?_
                                                                refine zg_iconst X 1 dL_law_993 (by decide) (fun v529 _ hv529 => ?_)
                                                                refine zg_iadd X dL_law_994 (by omega) (by omega) (fun v530 ev530 hv530 => ?_)
                                                                refine zg_sld X hX hbl hbA (by omega) (by omega) dL_law_995 (fun v531 ev531 => ?_)
                                                                refine zg_aload_n X 3 rfl dL_law_996 ?_
                                                                refine zg_iload_n X 0 rfl dL_law_997 ?_
                                                                refine zg_iconst X 2 dL_law_998 (by decide) (fun v532 _ hv532 => ?_)
                                                                refine zg_iadd X dL_law_999 (by omega) (by omega) (fun v533 ev533 hv533 => ?_)
                                                                refine zg_sld X hX hbl hbA (by omega) (by omega) dL_law_1000 (fun v534 ev534 => ?_)
                                                                refine zg_aload_n X 3 rfl dL_law_1001 ?_
                                                                refine zg_iload_n X 0 rfl dL_law_1002 ?_
                                                                refine zg_iconst X 3 dL_law_1003 (by decide) (fun v535 _ hv535 => ?_)
                                                                refine zg_iadd X dL_law_1004 (by omega) (by omega) (fun v536 ev536 hv536 => ?_)
                                                                refine zg_sld X hX hbl hbA (by omega) (by omega) dL_law_1005 (fun v537 ev537 => ?_)
                                                                refine zg_cVi (As := [.int v531, .int v534, .int v537]) (st := []) X hx0 rfl (by decide) rfl (t_X10_reign l d L1 kd1 κ _ hI1 x0 hx0 v531 v534 v537 ) mk_L_133 mc_X10_reign mz_X10 mi_X10_reign ml_X10_reign (na := 3) ⟨md_X10.1, md_X10.2, by decide +kernel⟩ rfl ⟨by decide, by decide⟩ (Nat.le_of_ble_eq_true rfl) dL_law_1006 (fun v538 s539 hq => ?_)
                                                                obtain ⟨hFs539, hSs539, hq⟩ := hq
                                                                have h540 := hq
                                                                have hMs539 := zSBM.c hM hx0 hSs539 (by decide) (by decide) (by decide)
                                                                refine zg_pop X dL_law_1009 rfl ?_
                                                                refine zg_aload_n X 1 rfl dL_law_1010 ?_
                                                                refine zg_aload_n X 3 rfl dL_law_1011 ?_
                                                                refine zg_iload_n X 0 rfl dL_law_1012 ?_
                                                                refine zg_iconst X 1 dL_law_1013 (by decide) (fun v541 _ hv541 => ?_)
                                                                refine zg_iadd X dL_law_1014 (by omega) (by omega) (fun v542 ev542 hv542 => ?_)
                                                                refine zg_sld X hX hbl hbA (by omega) (by omega) dL_law_1015 (fun v543 ev543 => ?_)
                                                                refine zg_aload_n X 3 rfl dL_law_1016 ?_
                                                                refine zg_iload_n X 0 rfl dL_law_1017 ?_
                                                                refine zg_iconst X 2 dL_law_1018 (by decide) (fun v544 _ hv544 => ?_)
                                                                refine zg_iadd X dL_law_1019 (by omega) (by omega) (fun v545 ev545 hv545 => ?_)
                                                                refine zg_sld X hX hbl hbA (by omega) (by omega) dL_law_1020 (fun v546 ev546 => ?_)
                                                                refine zg_aload_n X 3 rfl dL_law_1021 ?_
                                                                refine zg_iload_n X 0 rfl dL_law_1022 ?_
                                                                refine zg_iconst X 3 dL_law_1023 (by decide) (fun v547 _ hv547 => ?_)
                                                                refine zg_iadd X dL_law_1024 (by omega) (by omega) (fun v548 ev548 hv548 => ?_)
                                                                refine zg_sld X hX hbl hbA (by omega) (by omega) dL_law_1025 (fun v549 ev549 => ?_)
                                                                refine zg_swap ?_
                                                                have X : zX d L2 kd2 A 4 p s m #[Value.ref b] c cL_law RL := X
                                                                refine zg_cVi (As := [.int v543, .int v546, .int v549]) (st := []) X hm0 rfl (by decide) rfl (t_X11_reign l d L2 kd2 κ _ hI2 m0 hm0 v543 v546 v549  hgN hgH hgE hgL) mk_L_137 mc_X11_reign mz_X11 mi_X11_reign ml_X11_reign (na := 3) ⟨md_X11.1, md_X11.2, by decide +kernel⟩ rfl ⟨by decide, by decide⟩ (Nat.le_of_ble_eq_true rfl) dL_law_1026 (fun v550 s551 hq => ?_)
                                                                obtain ⟨hFs551, hq⟩ := hq
                                                                obtain ⟨⟨gNs551, gHs551, gEs551, gLs551⟩, h552, g553⟩ := hq
                                                                have gKs551 := gK.same h552 hm0 g553 (by decide) hgK
                                                                have hMs551 := zSBM.m hMs539 g553 (by decide) (by decide) (by decide)
                                                                refine zg_pop X dL_law_1029 rfl ?_
                                                                refine zg_goto X 1441 dL_law_1030 (by decide) ?_
                                                                refine zg_iinc X 6 (fun v554 => [(3, .int v554), (2, .ref m0), (1, .ref x0), (0, .ref b)]) 0 dL_law_1441 rfl (by decide) (by decide) (by omega) (by omega) (fun _ => rfl) (fun v554 ev554 hv554 => ?_)
                                                                refine zg_goto X 18 dL_law_1444 (by decide) ?_
                                                                refine zg_swap ?_
                                                                have X : zX d L1 kd1 A 4 p s m #[Value.ref b] c cL_law RL := X
                                                                refine zg_sub [0, 1, 2, 3] rfl ?_
                                                                exact ihLp _ _ _ v554 h540 h552 hMs551 gNs551 gHs551 gEs551 gLs551 gKs551 (by omega) (by omega)
                                                              · skip
                                                                by_cases q555 : v8.toInt = 29
                                                                · refine zg_tabIn X 1033 29 dL_law_33 q555 (by decide) (by decide) rfl (by decide) ?_
                                                                  refine zg_aload_n X 2 rfl dL_law_1033 ?_
                                                                  refine zg_cVi (As := []) (st := []) X hx0 rfl (by decide) rfl (t_X10_tour l d L1 kd1 κ _ hI1 x0 hx0  ) mk_L_138 mc_X10_tour mz_X10 mi_X10_tour ml_X10_tour (na := 0) ⟨md_X10.1, md_X10.2, by decide +kernel⟩ rfl ⟨by decide, by decide⟩ (Nat.le_of_ble_eq_true rfl) dL_law_1034 (fun v556 s557 hq => ?_)
                                                                  obtain ⟨hFs557, hSs557, hq⟩ := hq
                                                                  have h558 := hq
                                                                  have hMs557 := zSBM.c hM hx0 hSs557 (by decide) (by decide) (by decide)
                                                                  refine zg_pop X dL_law_1037 rfl ?_
                                                                  refine zg_aload_n X 1 rfl dL_law_1038 ?_
                                                                  refine zg_swap ?_
                                                                  have X : zX d L2 kd2 A 4 p s m #[Value.ref b] c cL_law RL := X
                                                                  refine zg_cVi (As := []) (st := []) X hm0 rfl (by decide) rfl (t_X11_tour l d L2 kd2 κ _ hI2 m0 hm0   hgN hgH hgE hgL) mk_L_141 mc_X11_tour mz_X11 mi_X11_tour ml_X11_tour (na := 0) ⟨md_X11.1, md_X11.2, by decide +kernel⟩ rfl ⟨by decide, by decide⟩ (Nat.le_of_ble_eq_true rfl) dL_law_1039 (fun v559 s560 hq => ?_)
                                                                  obtain ⟨hFs560, hq⟩ := hq
                                                                  obtain ⟨⟨gNs560, gHs560, gEs560, gLs560⟩, h561, g562⟩ := hq
                                                                  have gKs560 := gK.same h561 hm0 g562 (by decide) hgK
                                                                  have hMs560 := zSBM.m hMs557 g562 (by decide) (by decide) (by decide)
                                                                  refine zg_pop X dL_law_1042 rfl ?_
                                                                  refine zg_goto X 1441 dL_law_1043 (by decide) ?_
                                                                  refine zg_iinc X 6 (fun v563 => [(3, .int v563), (2, .ref m0), (1, .ref x0), (0, .ref b)]) 0 dL_law_1441 rfl (by decide) (by decide) (by omega) (by omega) (fun _ => rfl) (fun v563 ev563 hv563 => ?_)
                                                                  refine zg_goto X 18 dL_law_1444 (by decide) ?_
                                                                  refine zg_swap ?_
                                                                  have X : zX d L1 kd1 A 4 p s m #[Value.ref b] c cL_law RL := X
                                                                  refine zg_sub [0, 1, 2, 3] rfl ?_
                                                                  exact ihLp _ _ _ v563 h558 h561 hMs560 gNs560 gHs560 gEs560 gLs560 gKs560 (by omega) (by omega)
                                                                · skip
                                                                  by_cases q564 : v8.toInt = 30
                                                                  · refine zg_tabIn X 1046 30 dL_law_33 q564 (by decide) (by decide) rfl (by decide) ?_
                                                                    refine zg_aload_n X 2 rfl dL_law_1046 ?_
                                                                    refine zg_cVi (As := []) (st := []) X hx0 rfl (by decide) rfl (t_X10_parted l d L1 kd1 κ _ hI1 x0 hx0  ) mk_L_142 mc_X10_parted mz_X10 mi_X10_parted ml_X10_parted (na := 0) ⟨md_X10.1, md_X10.2, by decide +kernel⟩ rfl ⟨by decide, by decide⟩ (Nat.le_of_ble_eq_true rfl) dL_law_1047 (fun v565 s566 hq => ?_)
                                                                    obtain ⟨hFs566, hSs566, hq⟩ := hq
                                                                    have h567 := hq
                                                                    have hMs566 := zSBM.c hM hx0 hSs566 (by decide) (by decide) (by decide)
                                                                    refine zg_pop X dL_law_1050 rfl ?_
                                                                    refine zg_aload_n X 1 rfl dL_law_1051 ?_
                                                                    refine zg_swap ?_
                                                                    have X : zX d L2 kd2 A 4 p s m #[Value.ref b] c cL_law RL := X
                                                                    refine zg_cVi (As := []) (st := []) X hm0 rfl (by decide) rfl (t_X11_parted l d L2 kd2 κ _ hI2 m0 hm0   hgN hgH hgE hgL) mk_L_145 mc_X11_parted mz_X11 mi_X11_parted ml_X11_parted (na := 0) ⟨md_X11.1, md_X11.2, by decide +kernel⟩ rfl ⟨by decide, by decide⟩ (Nat.le_of_ble_eq_true rfl) dL_law_1052 (fun v568 s569 hq => ?_)
                                                                    obtain ⟨hFs569, hq⟩ := hq
                                                                    obtain ⟨⟨gNs569, gHs569, gEs569, gLs569⟩, h570, g571⟩ := hq
                                                                    have gKs569 := gK.same h570 hm0 g571 (by decide) hgK
                                                                    have hMs569 := zSBM.m hMs566 g571 (by decide) (by decide) (by decide)
                                                                    refine zg_pop X dL_law_1055 rfl ?_
                                                                    refine zg_goto X 1441 dL_law_1056 (by decide) ?_
                                                                    refine zg_iinc X 6 (fun v572 => [(3, .int v572), (2, .ref m0), (1, .ref x0), (0, .ref b)]) 0 dL_law_1441 rfl (by decide) (by decide) (by omega) (by omega) (fun _ => rfl) (fun v572 ev572 hv572 => ?_)
                                                                    refine zg_goto X 18 dL_law_1444 (by decide) ?_
                                                                    refine zg_swap ?_
                                                                    have X : zX d L1 kd1 A 4 p s m #[Value.ref b] c cL_law RL := X
                                                                    refine zg_sub [0, 1, 2, 3] rfl ?_
                                                                    exact ihLp _ _ _ v572 h567 h570 hMs569 gNs569 gHs569 gEs569 gLs569 gKs569 (by omega) (by omega)
                                                                  · skip
                                                                    by_cases q573 : v8.toInt = 31
                                                                    · refine zg_tabIn X 1059 31 dL_law_33 q573 (by decide) (by decide) rfl (by decide) ?_
                                                                      refine zg_aload_n X 2 rfl dL_law_1059 ?_
                                                                      refine zg_aload_n X 3 rfl dL_law_1060 ?_
                                                                      refine zg_iload_n X 0 rfl dL_law_1061 ?_
                                                                      refine zg_iconst X 1 dL_law_1062 (by decide) (fun v574 _ hv574 => ?_)
                                                                      refine zg_iadd X dL_law_1063 (by omega) (by omega) (fun v575 ev575 hv575 => ?_)
                                                                      refine zg_sld X hX hbl hbA (by omega) (by omega) dL_law_1064 (fun v576 ev576 => ?_)
                                                                      refine zg_aload_n X 3 rfl dL_law_1065 ?_
                                                                      refine zg_iload_n X 0 rfl dL_law_1066 ?_
                                                                      refine zg_iconst X 2 dL_law_1067 (by decide) (fun v577 _ hv577 => ?_)
                                                                      refine zg_iadd X dL_law_1068 (by omega) (by omega) (fun v578 ev578 hv578 => ?_)
                                                                      refine zg_sld X hX hbl hbA (by omega) (by omega) dL_law_1069 (fun v579 ev579 => ?_)
                                                                      refine zg_aload_n X 3 rfl dL_law_1070 ?_
                                                                      refine zg_iload_n X 0 rfl dL_law_1071 ?_
                                                                      refine zg_iconst X 3 dL_law_1072 (by decide) (fun v580 _ hv580 => ?_)
                                                                      refine zg_iadd X dL_law_1073 (by omega) (by omega) (fun v581 ev581 hv581 => ?_)
                                                                      refine zg_sld X hX hbl hbA (by omega) (by omega) dL_law_1074 (fun v582 ev582 => ?_)
                                                                      refine zg_cVi (As := [.int v576, .int v579, .int v582]) (st := []) X hx0 rfl (by decide) rfl (t_X10_meet l d L1 kd1 κ _ hI1 x0 hx0 v576 v579 v582 ) mk_L_146 mc_X10_meet mz_X10 mi_X10_meet ml_X10_meet (na := 3) ⟨md_X10.1, md_X10.2, by decide +kernel⟩ rfl ⟨by decide, by decide⟩ (Nat.le_of_ble_eq_true rfl) dL_law_1075 (fun v583 s584 hq => ?_)
                                                                      obtain ⟨hFs584, hSs584, hq⟩ := hq
                                                                      have h585 := hq
                                                                      have hMs584 := zSBM.c hM hx0 hSs584 (by decide) (by decide) (by decide)
                                                                      refine zg_pop X dL_law_1078 rfl ?_
                                                                      refine zg_aload_n X 1 rfl dL_law_1079 ?_
                                                                      refine zg_aload_n X 3 rfl dL_law_1080 ?_
                                                                      refine zg_iload_n X 0 rfl dL_law_1081 ?_
                                                                      refine zg_iconst X 1 dL_law_1082 (by decide) (fun v586 _ hv586 => ?_)
                                                                      refine zg_iadd X dL_law_1083 (by omega) (by omega) (fun v587 ev587 hv587 => ?_)
                                                                      refine zg_sld X hX hbl hbA (by omega) (by omega) dL_law_1084 (fun v588 ev588 => ?_)
                                                                      refine zg_aload_n X 3 rfl dL_law_1085 ?_
                                                                      refine zg_iload_n X 0 rfl dL_law_1086 ?_
                                                                      refine zg_iconst X 2 dL_law_1087 (by decide) (fun v589 _ hv589 => ?_)
                                                                      refine zg_iadd X dL_law_1088 (by omega) (by omega) (fun v590 ev590 hv590 => ?_)
                                                                      refine zg_sld X hX hbl hbA (by omega) (by omega) dL_law_1089 (fun v591 ev591 => ?_)
                                                                      refine zg_aload_n X 3 rfl dL_law_1090 ?_
                                                                      refine zg_iload_n X 0 rfl dL_law_1091 ?_
                                                                      refine zg_iconst X 3 dL_law_1092 (by decide) (fun v592 _ hv592 => ?_)
                                                                      refine zg_iadd X dL_law_1093 (by omega) (by omega) (fun v593 ev593 hv593 => ?_)
                                                                      refine zg_sld X hX hbl hbA (by omega) (by omega) dL_law_1094 (fun v594 ev594 => ?_)
                                                                      refine zg_swap ?_
                                                                      have X : zX d L2 kd2 A 4 p s m #[Value.ref b] c cL_law RL := X
                                                                      refine zg_cVi (As := [.int v588, .int v591, .int v594]) (st := []) X hm0 rfl (by decide) rfl (t_X11_meet l d L2 kd2 κ _ hI2 m0 hm0 v588 v591 v594  hgN hgH hgE hgL) mk_L_149 mc_X11_meet mz_X11 mi_X11_meet ml_X11_meet (na := 3) ⟨md_X11.1, md_X11.2, by decide +kernel⟩ rfl ⟨by decide, by decide⟩ (Nat.le_of_ble_eq_true rfl) dL_law_1095 (fun v595 s596 hq => ?_)
                                                                      obtain ⟨hFs596, hq⟩ := hq
                                                                      obtain ⟨⟨gNs596, gHs596, gEs596, gLs596⟩, h597, g598⟩ := hq
                                                                      have gKs596 := gK.same h597 hm0 g598 (by decide) hgK
                                                                      have hMs596 := zSBM.m hMs584 g598 (by decide) (by decide) (by decide)
                                                                      refine zg_pop X dL_law_1098 rfl ?_
                                                                      refine zg_goto X 1441 dL_law_1099 (by decide) ?_
                                                                      refine zg_iinc X 6 (fun v599 => [(3, .int v599), (2, .ref m0), (1, .ref x0), (0, .ref b)]) 0 dL_law_1441 rfl (by decide) (by decide) (by omega) (by omega) (fun _ => rfl) (fun v599 ev599 hv599 => ?_)
                                                                      refine zg_goto X 18 dL_law_1444 (by decide) ?_
                                                                      refine zg_swap ?_
                                                                      have X : zX d L1 kd1 A 4 p s m #[Value.ref b] c cL_law RL := X
                                                                      refine zg_sub [0, 1, 2, 3] rfl ?_
                                                                      exact ihLp _ _ _ v599 h585 h597 hMs596 gNs596 gHs596 gEs596 gLs596 gKs596 (by omega) (by omega)
                                                                    · skip
                                                                      by_cases q600 : v8.toInt = 32
                                                                      · refine zg_tabIn X 1102 32 dL_law_33 q600 (by decide) (by decide) rfl (by decide) ?_
                                                                        refine zg_aload_n X 2 rfl dL_law_1102 ?_
                                                                        refine zg_aload_n X 3 rfl dL_law_1103 ?_
                                                                        refine zg_iload_n X 0 rfl dL_law_1104 ?_
                                                                        refine zg_iconst X 1 dL_law_1105 (by decide) (fun v601 _ hv601 => ?_)
                                                                        refine zg_iadd X dL_law_1106 (by omega) (by omega) (fun v602 ev602 hv602 => ?_)
                                                                        refine zg_sld X hX hbl hbA (by omega) (by omega) dL_law_1107 (fun v603 ev603 => ?_)
                                                                        refine zg_cVi (As := [.int v603]) (st := []) X hx0 rfl (by decide) rfl (t_X10_when l d L1 kd1 κ _ hI1 x0 hx0 v603 ) mk_L_150 mc_X10_when mz_X10 mi_X10_when ml_X10_when (na := 1) ⟨md_X10.1, md_X10.2, by decide +kernel⟩ rfl ⟨by decide, by decide⟩ (Nat.le_of_ble_eq_true rfl) dL_law_1108 (fun v604 s605 hq => ?_)
                                                                        obtain ⟨hFs605, hSs605, hq⟩ := hq
                                                                        have h606 := hq
                                                                        have hMs605 := zSBM.c hM hx0 hSs605 (by decide) (by decide) (by decide)
                                                                        refine zg_pop X dL_law_1111 rfl ?_
                                                                        refine zg_aload_n X 1 rfl dL_law_1112 ?_
                                                                        refine zg_aload_n X 3 rfl dL_law_1113 ?_
                                                                        refine zg_iload_n X 0 rfl dL_law_1114 ?_
                                                                        refine zg_iconst X 1 dL_law_1115 (by decide) (fun v607 _ hv607 => ?_)
                                                                        refine zg_iadd X dL_law_1116 (by omega) (by omega) (fun v608 ev608 hv608 => ?_)
                                                                        refine zg_sld X hX hbl hbA (by omega) (by omega) dL_law_1117 (fun v609 ev609 => ?_)
                                                                        refine zg_swap ?_
                                                                        have X : zX d L2 kd2 A 4 p s m #[Value.ref b] c cL_law RL := X
                                                                        refine zg_cVi (As := [.int v609]) (st := []) X hm0 rfl (by decide) rfl (t_X11_when l d L2 kd2 κ _ hI2 m0 hm0 v609  hgN hgH hgE hgL) mk_L_153 mc_X11_when mz_X11 mi_X11_when ml_X11_when (na := 1) ⟨md_X11.1, md_X11.2, by decide +kernel⟩ rfl ⟨by decide, by decide⟩ (Nat.le_of_ble_eq_true rfl) dL_law_1118 (fun v610 s611 hq => ?_)
                                                                        obtain ⟨hFs611, hq⟩ := hq
                                                                        obtain ⟨⟨gNs611, gHs611, gEs611, gLs611⟩, h612, g613⟩ := hq
                                                                        have gKs611 := gK.same h612 hm0 g613 (by decide) hgK
                                                                        have hMs611 := zSBM.m hMs605 g613 (by decide) (by decide) (by decide)
                                                                        refine zg_pop X dL_law_1121 rfl ?_
                                                                        refine zg_goto X 1441 dL_law_1122 (by decide) ?_
                                                                        refine zg_iinc X 6 (fun v614 => [(3, .int v614), (2, .ref m0), (1, .ref x0), (0, .ref b)]) 0 dL_law_1441 rfl (by decide) (by decide) (by omega) (by omega) (fun _ => rfl) (fun v614 ev614 hv614 => ?_)
                                                                        refine zg_goto X 18 dL_law_1444 (by decide) ?_
                                                                        refine zg_swap ?_
                                                                        have X : zX d L1 kd1 A 4 p s m #[Value.ref b] c cL_law RL := X
                                                                        refine zg_sub [0, 1, 2, 3] rfl ?_
                                                                        exact ihLp _ _ _ v614 h606 h612 hMs611 gNs611 gHs611 gEs611 gLs611 gKs611 (by omega) (by omega)
                                                                      · skip
                                                                        by_cases q615 : v8.toInt = 33
                                                                        · refine zg_tabIn X 1125 33 dL_law_33 q615 (by decide) (by decide) rfl (by decide) ?_
                                                                          refine zg_aload_n X 2 rfl dL_law_1125 ?_
                                                                          refine zg_aload_n X 3 rfl dL_law_1126 ?_
                                                                          refine zg_iload_n X 0 rfl dL_law_1127 ?_
                                                                          refine zg_iconst X 1 dL_law_1128 (by decide) (fun v616 _ hv616 => ?_)
                                                                          refine zg_iadd X dL_law_1129 (by omega) (by omega) (fun v617 ev617 hv617 => ?_)
                                                                          refine zg_sld X hX hbl hbA (by omega) (by omega) dL_law_1130 (fun v618 ev618 => ?_)
                                                                          refine zg_aload_n X 3 rfl dL_law_1131 ?_
                                                                          refine zg_iload_n X 0 rfl dL_law_1132 ?_
                                                                          refine zg_iconst X 2 dL_law_1133 (by decide) (fun v619 _ hv619 => ?_)
                                                                          refine zg_iadd X dL_law_1134 (by omega) (by omega) (fun v620 ev620 hv620 => ?_)
                                                                          refine zg_sld X hX hbl hbA (by omega) (by omega) dL_law_1135 (fun v621 ev621 => ?_)
                                                                          refine zg_aload_n X 3 rfl dL_law_1136 ?_
                                                                          refine zg_iload_n X 0 rfl dL_law_1137 ?_
                                                                          refine zg_iconst X 3 dL_law_1138 (by decide) (fun v622 _ hv622 => ?_)
                                                                          refine zg_iadd X dL_law_1139 (by omega) (by omega) (fun v623 ev623 hv623 => ?_)
                                                                          refine zg_sld X hX hbl hbA (by omega) (by omega) dL_law_1140 (fun v624 ev624 => ?_)
                                                                          refine zg_cVi (As := [.int v618, .int v621, .int v624]) (st := []) X hx0 rfl (by decide) rfl (t_X10_then l d L1 kd1 κ _ hI1 x0 hx0 v618 v621 v624 ) mk_L_154 mc_X10_then mz_X10 mi_X10_then ml_X10_then (na := 3) ⟨md_X10.1, md_X10.2, by decide +kernel⟩ rfl ⟨by decide, by decide⟩ (Nat.le_of_ble_eq_true rfl) dL_law_1141 (fun v625 s626 hq => ?_)
                                                                          obtain ⟨hFs626, hSs626, hq⟩ := hq
                                                                          have h627 := hq
                                                                          have hMs626 := zSBM.c hM hx0 hSs626 (by decide) (by decide) (by decide)
                                                                          refine zg_pop X dL_law_1144 rfl ?_
                                                                          refine zg_aload_n X 1 rfl dL_law_1145 ?_
                                                                          refine zg_aload_n X 3 rfl dL_law_1146 ?_
                                                                          refine zg_iload_n X 0 rfl dL_law_1147 ?_
                                                                          refine zg_iconst X 1 dL_law_1148 (by decide) (fun v628 _ hv628 => ?_)
                                                                          refine zg_iadd X dL_law_1149 (by omega) (by omega) (fun v629 ev629 hv629 => ?_)
                                                                          refine zg_sld X hX hbl hbA (by omega) (by omega) dL_law_1150 (fun v630 ev630 => ?_)
                                                                          refine zg_aload_n X 3 rfl dL_law_1151 ?_
                                                                          refine zg_iload_n X 0 rfl dL_law_1152 ?_
                                                                          refine zg_iconst X 2 dL_law_1153 (by decide) (fun v631 _ hv631 => ?_)
                                                                          refine zg_iadd X dL_law_1154 (by omega) (by omega) (fun v632 ev632 hv632 => ?_)
                                                                          refine zg_sld X hX hbl hbA (by omega) (by omega) dL_law_1155 (fun v633 ev633 => ?_)
                                                                          refine zg_aload_n X 3 rfl dL_law_1156 ?_
                                                                          refine zg_iload_n X 0 rfl dL_law_1157 ?_
                                                                          refine zg_iconst X 3 dL_law_1158 (by decide) (fun v634 _ hv634 => ?_)
                                                                          refine zg_iadd X dL_law_1159 (by omega) (by omega) (fun v635 ev635 hv635 => ?_)
                                                                          refine zg_sld X hX hbl hbA (by omega) (by omega) dL_law_1160 (fun v636 ev636 => ?_)
                                                                          refine zg_swap ?_
                                                                          have X : zX d L2 kd2 A 4 p s m #[Value.ref b] c cL_law RL := X
                                                                          refine zg_cVi (As := [.int v630, .int v633, .int v636]) (st := []) X hm0 rfl (by decide) rfl (t_X11_then l d L2 kd2 κ _ hI2 m0 hm0 v630 v633 v636  hgN hgH hgE hgL) mk_L_157 mc_X11_then mz_X11 mi_X11_then ml_X11_then (na := 3) ⟨md_X11.1, md_X11.2, by decide +kernel⟩ rfl ⟨by decide, by decide⟩ (Nat.le_of_ble_eq_true rfl) dL_law_1161 (fun v637 s638 hq => ?_)
                                                                          obtain ⟨hFs638, hq⟩ := hq
                                                                          obtain ⟨⟨gNs638, gHs638, gEs638, gLs638⟩, h639, g640⟩ := hq
                                                                          have gKs638 := gK.same h639 hm0 g640 (by decide) hgK
                                                                          have hMs638 := zSBM.m hMs626 g640 (by decide) (by decide) (by decide)
                                                                          refine zg_pop X dL_law_1164 rfl ?_
                                                                          refine zg_goto X 1441 dL_law_1165 (by decide) ?_
                                                                          refine zg_iinc X 6 (fun v641 => [(3, .int v641), (2, .ref m0), (1, .ref x0), (0, .ref b)]) 0 dL_law_1441 rfl (by decide) (by decide) (by omega) (by omega) (fun _ => rfl) (fun v641 ev641 hv641 => ?_)
                                                                          refine zg_goto X 18 dL_law_1444 (by decide) ?_
                                                                          refine zg_swap ?_
                                                                          have X : zX d L1 kd1 A 4 p s m #[Value.ref b] c cL_law RL := X
                                                                          refine zg_sub [0, 1, 2, 3] rfl ?_
                                                                          exact ihLp _ _ _ v641 h627 h639 hMs638 gNs638 gHs638 gEs638 gLs638 gKs638 (by omega) (by omega)
                                                                        · skip
                                                                          by_cases q642 : v8.toInt = 34
                                                                          · refine zg_tabIn X 1168 34 dL_law_33 q642 (by decide) (by decide) rfl (by decide) ?_
                                                                            refine zg_aload_n X 2 rfl dL_law_1168 ?_
                                                                            refine zg_aload_n X 3 rfl dL_law_1169 ?_
                                                                            refine zg_iload_n X 0 rfl dL_law_1170 ?_
                                                                            refine zg_iconst X 1 dL_law_1171 (by decide) (fun v643 _ hv643 => ?_)
                                                                            refine zg_iadd X dL_law_1172 (by omega) (by omega) (fun v644 ev644 hv644 => ?_)
                                                                            refine zg_sld X hX hbl hbA (by omega) (by omega) dL_law_1173 (fun v645 ev645 => ?_)
                                                                            refine zg_cVi (As := [.int v645]) (st := []) X hx0 rfl (by decide) rfl (t_X10_flowIn l d L1 kd1 κ _ hI1 x0 hx0 v645 ) mk_L_158 mc_X10_flowIn mz_X10 mi_X10_flowIn ml_X10_flowIn (na := 1) ⟨md_X10.1, md_X10.2, by decide +kernel⟩ rfl ⟨by decide, by decide⟩ (Nat.le_of_ble_eq_true rfl) dL_law_1174 (fun v646 s647 hq => ?_)
                                                                            obtain ⟨hFs647, hSs647, hq⟩ := hq
                                                                            have h648 := hq
                                                                            have hMs647 := zSBM.c hM hx0 hSs647 (by decide) (by decide) (by decide)
                                                                            refine zg_pop X dL_law_1177 rfl ?_
                                                                            refine zg_aload_n X 1 rfl dL_law_1178 ?_
                                                                            refine zg_aload_n X 3 rfl dL_law_1179 ?_
                                                                            refine zg_iload_n X 0 rfl dL_law_1180 ?_
                                                                            refine zg_iconst X 1 dL_law_1181 (by decide) (fun v649 _ hv649 => ?_)
                                                                            refine zg_iadd X dL_law_1182 (by omega) (by omega) (fun v650 ev650 hv650 => ?_)
                                                                            refine zg_sld X hX hbl hbA (by omega) (by omega) dL_law_1183 (fun v651 ev651 => ?_)
                                                                            refine zg_swap ?_
                                                                            have X : zX d L2 kd2 A 4 p s m #[Value.ref b] c cL_law RL := X
                                                                            refine zg_cVi (As := [.int v651]) (st := []) X hm0 rfl (by decide) rfl (t_X11_flowIn l d L2 kd2 κ _ hI2 m0 hm0 v651  hgN hgH hgE hgL) mk_L_161 mc_X11_flowIn mz_X11 mi_X11_flowIn ml_X11_flowIn (na := 1) ⟨md_X11.1, md_X11.2, by decide +kernel⟩ rfl ⟨by decide, by decide⟩ (Nat.le_of_ble_eq_true rfl) dL_law_1184 (fun v652 s653 hq => ?_)
                                                                            obtain ⟨hFs653, hq⟩ := hq
                                                                            obtain ⟨⟨gNs653, gHs653, gEs653, gLs653⟩, h654, g655⟩ := hq
                                                                            have gKs653 := gK.same h654 hm0 g655 (by decide) hgK
                                                                            have hMs653 := zSBM.m hMs647 g655 (by decide) (by decide) (by decide)
                                                                            refine zg_pop X dL_law_1187 rfl ?_
                                                                            refine zg_goto X 1441 dL_law_1188 (by decide) ?_
                                                                            refine zg_iinc X 6 (fun v656 => [(3, .int v656), (2, .ref m0), (1, .ref x0), (0, .ref b)]) 0 dL_law_1441 rfl (by decide) (by decide) (by omega) (by omega) (fun _ => rfl) (fun v656 ev656 hv656 => ?_)
                                                                            refine zg_goto X 18 dL_law_1444 (by decide) ?_
                                                                            refine zg_swap ?_
                                                                            have X : zX d L1 kd1 A 4 p s m #[Value.ref b] c cL_law RL := X
                                                                            refine zg_sub [0, 1, 2, 3] rfl ?_
                                                                            exact ihLp _ _ _ v656 h648 h654 hMs653 gNs653 gHs653 gEs653 gLs653 gKs653 (by omega) (by omega)
                                                                          · skip
                                                                            by_cases q657 : v8.toInt = 35
                                                                            · refine zg_tabIn X 1191 35 dL_law_33 q657 (by decide) (by decide) rfl (by decide) ?_
                                                                              refine zg_aload_n X 2 rfl dL_law_1191 ?_
                                                                              refine zg_aload_n X 3 rfl dL_law_1192 ?_
                                                                              refine zg_iload_n X 0 rfl dL_law_1193 ?_
                                                                              refine zg_iconst X 1 dL_law_1194 (by decide) (fun v658 _ hv658 => ?_)
                                                                              refine zg_iadd X dL_law_1195 (by omega) (by omega) (fun v659 ev659 hv659 => ?_)
                                                                              refine zg_sld X hX hbl hbA (by omega) (by omega) dL_law_1196 (fun v660 ev660 => ?_)
                                                                              refine zg_aload_n X 3 rfl dL_law_1197 ?_
                                                                              refine zg_iload_n X 0 rfl dL_law_1198 ?_
                                                                              refine zg_iconst X 2 dL_law_1199 (by decide) (fun v661 _ hv661 => ?_)
                                                                              refine zg_iadd X dL_law_1200 (by omega) (by omega) (fun v662 ev662 hv662 => ?_)
                                                                              refine zg_sld X hX hbl hbA (by omega) (by omega) dL_law_1201 (fun v663 ev663 => ?_)
                                                                              refine zg_aload_n X 3 rfl dL_law_1202 ?_
                                                                              refine zg_iload_n X 0 rfl dL_law_1203 ?_
                                                                              refine zg_iconst X 3 dL_law_1204 (by decide) (fun v664 _ hv664 => ?_)
                                                                              refine zg_iadd X dL_law_1205 (by omega) (by omega) (fun v665 ev665 hv665 => ?_)
                                                                              refine zg_sld X hX hbl hbA (by omega) (by omega) dL_law_1206 (fun v666 ev666 => ?_)
                                                                              refine zg_cVi (As := [.int v660, .int v663, .int v666]) (st := []) X hx0 rfl (by decide) rfl (t_X10_year l d L1 kd1 κ _ hI1 x0 hx0 v660 v663 v666 ) mk_L_162 mc_X10_year mz_X10 mi_X10_year ml_X10_year (na := 3) ⟨md_X10.1, md_X10.2, by decide +kernel⟩ rfl ⟨by decide, by decide⟩ (Nat.le_of_ble_eq_true rfl) dL_law_1207 (fun v667 s668 hq => ?_)
                                                                              obtain ⟨hFs668, hSs668, hq⟩ := hq
                                                                              have h669 := hq
                                                                              have hMs668 := zSBM.c hM hx0 hSs668 (by decide) (by decide) (by decide)
                                                                              refine zg_pop X dL_law_1210 rfl ?_
                                                                              refine zg_aload_n X 1 rfl dL_law_1211 ?_
                                                                              refine zg_aload_n X 3 rfl dL_law_1212 ?_
                                                                              refine zg_iload_n X 0 rfl dL_law_1213 ?_
                                                                              refine zg_iconst X 1 dL_law_1214 (by decide) (fun v670 _ hv670 => ?_)
                                                                              refine zg_iadd X dL_law_1215 (by omega) (by omega) (fun v671 ev671 hv671 => ?_)
                                                                              refine zg_sld X hX hbl hbA (by omega) (by omega) dL_law_1216 (fun v672 ev672 => ?_)
                                                                              refine zg_aload_n X 3 rfl dL_law_1217 ?_
                                                                              refine zg_iload_n X 0 rfl dL_law_1218 ?_
                                                                              refine zg_iconst X 2 dL_law_1219 (by decide) (fun v673 _ hv673 => ?_)
                                                                              refine zg_iadd X dL_law_1220 (by omega) (by omega) (fun v674 ev674 hv674 => ?_)
                                                                              refine zg_sld X hX hbl hbA (by omega) (by omega) dL_law_1221 (fun v675 ev675 => ?_)
                                                                              refine zg_aload_n X 3 rfl dL_law_1222 ?_
                                                                              refine zg_iload_n X 0 rfl dL_law_1223 ?_
                                                                              refine zg_iconst X 3 dL_law_1224 (by decide) (fun v676 _ hv676 => ?_)
                                                                              refine zg_iadd X dL_law_1225 (by omega) (by omega) (fun v677 ev677 hv677 => ?_)
                                                                              refine zg_sld X hX hbl hbA (by omega) (by omega) dL_law_1226 (fun v678 ev678 => ?_)
                                                                              refine zg_swap ?_
                                                                              have X : zX d L2 kd2 A 4 p s m #[Value.ref b] c cL_law RL := X
                                                                              refine zg_cVi (As := [.int v672, .int v675, .int v678]) (st := []) X hm0 rfl (by decide) rfl (t_X11_year l d L2 kd2 κ _ hI2 m0 hm0 v672 v675 v678  hgN hgH hgE hgL) mk_L_165 mc_X11_year mz_X11 mi_X11_year ml_X11_year (na := 3) ⟨md_X11.1, md_X11.2, by decide +kernel⟩ rfl ⟨by decide, by decide⟩ (Nat.le_of_ble_eq_true rfl) dL_law_1227 (fun v679 s680 hq => ?_)
                                                                              obtain ⟨hFs680, hq⟩ := hq
                                                                              obtain ⟨⟨gNs680, gHs680, gEs680, gLs680⟩, h681, g682⟩ := hq
                                                                              have gKs680 := gK.same h681 hm0 g682 (by decide) hgK
                                                                              have hMs680 := zSBM.m hMs668 g682 (by decide) (by decide) (by decide)
                                                                              refine zg_pop X dL_law_1230 rfl ?_
                                                                              refine zg_goto X 1441 dL_law_1231 (by decide) ?_
                                                                              refine zg_iinc X 6 (fun v683 => [(3, .int v683), (2, .ref m0), (1, .ref x0), (0, .ref b)]) 0 dL_law_1441 rfl (by decide) (by decide) (by omega) (by omega) (fun _ => rfl) (fun v683 ev683 hv683 => ?_)
                                                                              refine zg_goto X 18 dL_law_1444 (by decide) ?_
                                                                              refine zg_swap ?_
                                                                              have X : zX d L1 kd1 A 4 p s m #[Value.ref b] c cL_law RL := X
                                                                              refine zg_sub [0, 1, 2, 3] rfl ?_
                                                                              exact ihLp _ _ _ v683 h669 h681 hMs680 gNs680 gHs680 gEs680 gLs680 gKs680 (by omega) (by omega)
                                                                            · skip
                                                                              by_cases q684 : v8.toInt = 36
                                                                              · refine zg_tabIn X 1234 36 dL_law_33 q684 (by decide) (by decide) rfl (by decide) ?_
                                                                                refine zg_aload_n X 2 rfl dL_law_1234 ?_
                                                                                refine zg_aload_n X 3 rfl dL_law_1235 ?_
                                                                                refine zg_iload_n X 0 rfl dL_law_1236 ?_
                                                                                refine zg_iconst X 1 dL_law_1237 (by decide) (fun v685 _ hv685 => ?_)
                                                                                refine zg_iadd X dL_law_1238 (by omega) (by omega) (fun v686 ev686 hv686 => ?_)
                                                                                refine zg_sld X hX hbl hbA (by omega) (by omega) dL_law_1239 (fun v687 ev687 => ?_)
                                                                                refine zg_aload_n X 3 rfl dL_law_1240 ?_
                                                                                refine zg_iload_n X 0 rfl dL_law_1241 ?_
                                                                                refine zg_iconst X 2 dL_law_1242 (by decide) (fun v688 _ hv688 => ?_)
                                                                                refine zg_iadd X dL_law_1243 (by omega) (by omega) (fun v689 ev689 hv689 => ?_)
                                                                                refine zg_sld X hX hbl hbA (by omega) (by omega) dL_law_1244 (fun v690 ev690 => ?_)
                                                                                refine zg_aload_n X 3 rfl dL_law_1245 ?_
                                                                                refine zg_iload_n X 0 rfl dL_law_1246 ?_
                                                                                refine zg_iconst X 3 dL_law_1247 (by decide) (fun v691 _ hv691 => ?_)
                                                                                refine zg_iadd X dL_law_1248 (by omega) (by omega) (fun v692 ev692 hv692 => ?_)
                                                                                refine zg_sld X hX hbl hbA (by omega) (by omega) dL_law_1249 (fun v693 ev693 => ?_)
                                                                                refine zg_aload_n X 3 rfl dL_law_1250 ?_
                                                                                refine zg_iload_n X 0 rfl dL_law_1251 ?_
                                                                                refine zg_iconst X 4 dL_law_1252 (by decide) (fun v694 _ hv694 => ?_)
                                                                                refine zg_iadd X dL_law_1253 (by omega) (by omega) (fun v695 ev695 hv695 => ?_)
                                                                                refine zg_sld X hX hbl hbA (by omega) (by omega) dL_law_1254 (fun v696 ev696 => ?_)
                                                                                refine zg_if_eq X 1262 dL_law_1255 (by decide) (fun c697 => ?_) (fun c697 => ?_)
                                                                                · skip
                                                                                  refine zg_iconst X 0 dL_law_1262 (by decide) (fun v698 _ hv698 => ?_)
                                                                                  refine zg_cVi (As := [.int v687, .int v690, .int v693, .int v698]) (st := []) X hx0 rfl (by decide) rfl (t_X10_tell l d L1 kd1 κ _ hI1 x0 hx0 v687 v690 v693 v698 (by omega)) mk_L_166 mc_X10_tell mz_X10 mi_X10_tell ml_X10_tell (na := 4) ⟨md_X10.1, md_X10.2, by decide +kernel⟩ rfl ⟨by decide, by decide⟩ (Nat.le_of_ble_eq_true rfl) dL_law_1263 (fun v699 s700 hq => ?_)
                                                                                  obtain ⟨hFs700, hSs700, hq⟩ := hq
                                                                                  have h701 := hq
                                                                                  have hMs700 := zSBM.c hM hx0 hSs700 (by decide) (by decide) (by decide)
                                                                                  refine zg_pop X dL_law_1266 rfl ?_
                                                                                  refine zg_aload_n X 1 rfl dL_law_1267 ?_
                                                                                  refine zg_aload_n X 3 rfl dL_law_1268 ?_
                                                                                  refine zg_iload_n X 0 rfl dL_law_1269 ?_
                                                                                  refine zg_iconst X 1 dL_law_1270 (by decide) (fun v702 _ hv702 => ?_)
                                                                                  refine zg_iadd X dL_law_1271 (by omega) (by omega) (fun v703 ev703 hv703 => ?_)
                                                                                  refine zg_sld X hX hbl hbA (by omega) (by omega) dL_law_1272 (fun v704 ev704 => ?_)
                                                                                  refine zg_aload_n X 3 rfl dL_law_1273 ?_
                                                                                  refine zg_iload_n X 0 rfl dL_law_1274 ?_
                                                                                  refine zg_iconst X 2 dL_law_1275 (by decide) (fun v705 _ hv705 => ?_)
                                                                                  refine zg_iadd X dL_law_1276 (by omega) (by omega) (fun v706 ev706 hv706 => ?_)
                                                                                  refine zg_sld X hX hbl hbA (by omega) (by omega) dL_law_1277 (fun v707 ev707 => ?_)
                                                                                  refine zg_aload_n X 3 rfl dL_law_1278 ?_
                                                                                  refine zg_iload_n X 0 rfl dL_law_1279 ?_
                                                                                  refine zg_iconst X 3 dL_law_1280 (by decide) (fun v708 _ hv708 => ?_)
                                                                                  refine zg_iadd X dL_law_1281 (by omega) (by omega) (fun v709 ev709 hv709 => ?_)
                                                                                  refine zg_sld X hX hbl hbA (by omega) (by omega) dL_law_1282 (fun v710 ev710 => ?_)
                                                                                  refine zg_aload_n X 3 rfl dL_law_1283 ?_
                                                                                  refine zg_iload_n X 0 rfl dL_law_1284 ?_
                                                                                  refine zg_iconst X 4 dL_law_1285 (by decide) (fun v711 _ hv711 => ?_)
                                                                                  refine zg_iadd X dL_law_1286 (by omega) (by omega) (fun v712 ev712 hv712 => ?_)
                                                                                  refine zg_sld X hX hbl hbA (by omega) (by omega) dL_law_1287 (fun v713 ev713 => ?_)
                                                                                  refine zg_if_eq X 1295 dL_law_1288 (by decide) (fun c714 => ?_) (fun c714 => ?_)
                                                                                  · skip
                                                                                    refine zg_iconst X 0 dL_law_1295 (by decide) (fun v715 _ hv715 => ?_)
                                                                                    refine zg_swap ?_
                                                                                    have X : zX d L2 kd2 A 4 p s m #[Value.ref b] c cL_law RL := X
                                                                                    refine zg_cVi (As := [.int v704, .int v707, .int v710, .int v715]) (st := []) X hm0 rfl (by decide) rfl (t_X11_tell l d L2 kd2 κ _ hI2 m0 hm0 v704 v707 v710 v715 (by omega) hgN hgH hgE hgL) mk_L_170 mc_X11_tell mz_X11 mi_X11_tell ml_X11_tell (na := 4) ⟨md_X11.1, md_X11.2, by decide +kernel⟩ rfl ⟨by decide, by decide⟩ (Nat.le_of_ble_eq_true rfl) dL_law_1296 (fun v716 s717 hq => ?_)
                                                                                    obtain ⟨hFs717, hq⟩ := hq
                                                                                    obtain ⟨⟨gNs717, gHs717, gEs717, gLs717⟩, h718, g719⟩ := hq
                                                                                    have gKs717 := gK.same h718 hm0 g719 (by decide) hgK
                                                                                    have hMs717 := zSBM.m hMs700 g719 (by decide) (by decide) (by decide)
                                                                                    refine zg_pop X dL_law_1299 rfl ?_
                                                                                    refine zg_goto X 1441 dL_law_1300 (by decide) ?_
                                                                                    refine zg_iinc X 6 (fun v720 => [(3, .int v720), (2, .ref m0), (1, .ref x0), (0, .ref b)]) 0 dL_law_1441 rfl (by decide) (by decide) (by omega) (by omega) (fun _ => rfl) (fun v720 ev720 hv720 => ?_)
                                                                                    refine zg_goto X 18 dL_law_1444 (by decide) ?_
                                                                                    refine zg_swap ?_
                                                                                    have X : zX d L1 kd1 A 4 p s m #[Value.ref b] c cL_law RL := X
                                                                                    refine zg_sub [0, 1, 2, 3] rfl ?_
                                                                                    exact ihLp _ _ _ v720 h701 h718 hMs717 gNs717 gHs717 gEs717 gLs717 gKs717 (by omega) (by omega)
                                                                                  · skip
                                                                                    refine zg_iconst X 1 dL_law_1291 (by decide) (fun v721 _ hv721 => ?_)
                                                                                    refine zg_goto X 1296 dL_law_1292 (by decide) ?_
                                                                                    refine zg_swap ?_
                                                                                    have X : zX d L2 kd2 A 4 p s m #[Value.ref b] c cL_law RL := X
                                                                                    refine zg_cVi (As := [.int v704, .int v707, .int v710, .int v721]) (st := []) X hm0 rfl (by decide) rfl (t_X11_tell l d L2 kd2 κ _ hI2 m0 hm0 v704 v707 v710 v721 (by omega) hgN hgH hgE hgL) mk_L_170 mc_X11_tell mz_X11 mi_X11_tell ml_X11_tell (na := 4) ⟨md_X11.1, md_X11.2, by decide +kernel⟩ rfl ⟨by decide, by decide⟩ (Nat.le_of_ble_eq_true rfl) dL_law_1296 (fun v722 s723 hq => ?_)
                                                                                    obtain ⟨hFs723, hq⟩ := hq
                                                                                    obtain ⟨⟨gNs723, gHs723, gEs723, gLs723⟩, h724, g725⟩ := hq
                                                                                    have gKs723 := gK.same h724 hm0 g725 (by decide) hgK
                                                                                    have hMs723 := zSBM.m hMs700 g725 (by decide) (by decide) (by decide)
                                                                                    refine zg_pop X dL_law_1299 rfl ?_
                                                                                    refine zg_goto X 1441 dL_law_1300 (by decide) ?_
                                                                                    refine zg_iinc X 6 (fun v726 => [(3, .int v726), (2, .ref m0), (1, .ref x0), (0, .ref b)]) 0 dL_law_1441 rfl (by decide) (by decide) (by omega) (by omega) (fun _ => rfl) (fun v726 ev726 hv726 => ?_)
                                                                                    refine zg_goto X 18 dL_law_1444 (by decide) ?_
                                                                                    refine zg_swap ?_
                                                                                    have X : zX d L1 kd1 A 4 p s m #[Value.ref b] c cL_law RL := X
                                                                                    refine zg_sub [0, 1, 2, 3] rfl ?_
                                                                                    exact ihLp _ _ _ v726 h701 h724 hMs723 gNs723 gHs723 gEs723 gLs723 gKs723 (by omega) (by omega)
                                                                                · skip
                                                                                  refine zg_iconst X 1 dL_law_1258 (by decide) (fun v727 _ hv727 => ?_)
                                                                                  refine zg_goto X 1263 dL_law_1259 (by decide) ?_
                                                                                  refine zg_cVi (As := [.int v687, .int v690, .int v693, .int v727]) (st := []) X hx0 rfl (by decide) rfl (t_X10_tell l d L1 kd1 κ _ hI1 x0 hx0 v687 v690 v693 v727 (by omega)) mk_L_166 mc_X10_tell mz_X10 mi_X10_tell ml_X10_tell (na := 4) ⟨md_X10.1, md_X10.2, by decide +kernel⟩ rfl ⟨by decide, by decide⟩ (Nat.le_of_ble_eq_true rfl) dL_law_1263 (fun v728 s729 hq => ?_)
                                                                                  obtain ⟨hFs729, hSs729, hq⟩ := hq
                                                                                  have h730 := hq
                                                                                  have hMs729 := zSBM.c hM hx0 hSs729 (by decide) (by decide) (by decide)
                                                                                  refine zg_pop X dL_law_1266 rfl ?_
                                                                                  refine zg_aload_n X 1 rfl dL_law_1267 ?_
                                                                                  refine zg_aload_n X 3 rfl dL_law_1268 ?_
                                                                                  refine zg_iload_n X 0 rfl dL_law_1269 ?_
                                                                                  refine zg_iconst X 1 dL_law_1270 (by decide) (fun v731 _ hv731 => ?_)
                                                                                  refine zg_iadd X dL_law_1271 (by omega) (by omega) (fun v732 ev732 hv732 => ?_)
                                                                                  refine zg_sld X hX hbl hbA (by omega) (by omega) dL_law_1272 (fun v733 ev733 => ?_)
                                                                                  refine zg_aload_n X 3 rfl dL_law_1273 ?_
                                                                                  refine zg_iload_n X 0 rfl dL_law_1274 ?_
                                                                                  refine zg_iconst X 2 dL_law_1275 (by decide) (fun v734 _ hv734 => ?_)
                                                                                  refine zg_iadd X dL_law_1276 (by omega) (by omega) (fun v735 ev735 hv735 => ?_)
                                                                                  refine zg_sld X hX hbl hbA (by omega) (by omega) dL_law_1277 (fun v736 ev736 => ?_)
                                                                                  refine zg_aload_n X 3 rfl dL_law_1278 ?_
                                                                                  refine zg_iload_n X 0 rfl dL_law_1279 ?_
                                                                                  refine zg_iconst X 3 dL_law_1280 (by decide) (fun v737 _ hv737 => ?_)
                                                                                  refine zg_iadd X dL_law_1281 (by omega) (by omega) (fun v738 ev738 hv738 => ?_)
                                                                                  refine zg_sld X hX hbl hbA (by omega) (by omega) dL_law_1282 (fun v739 ev739 => ?_)
                                                                                  refine zg_aload_n X 3 rfl dL_law_1283 ?_
                                                                                  refine zg_iload_n X 0 rfl dL_law_1284 ?_
                                                                                  refine zg_iconst X 4 dL_law_1285 (by decide) (fun v740 _ hv740 => ?_)
                                                                                  refine zg_iadd X dL_law_1286 (by omega) (by omega) (fun v741 ev741 hv741 => ?_)
                                                                                  refine zg_sld X hX hbl hbA (by omega) (by omega) dL_law_1287 (fun v742 ev742 => ?_)
                                                                                  refine zg_if_eq X 1295 dL_law_1288 (by decide) (fun c743 => ?_) (fun c743 => ?_)
                                                                                  · skip
                                                                                    refine zg_iconst X 0 dL_law_1295 (by decide) (fun v744 _ hv744 => ?_)
                                                                                    refine zg_swap ?_
                                                                                    have X : zX d L2 kd2 A 4 p s m #[Value.ref b] c cL_law RL := X
                                                                                    refine zg_cVi (As := [.int v733, .int v736, .int v739, .int v744]) (st := []) X hm0 rfl (by decide) rfl (t_X11_tell l d L2 kd2 κ _ hI2 m0 hm0 v733 v736 v739 v744 (by omega) hgN hgH hgE hgL) mk_L_170 mc_X11_tell mz_X11 mi_X11_tell ml_X11_tell (na := 4) ⟨md_X11.1, md_X11.2, by decide +kernel⟩ rfl ⟨by decide, by decide⟩ (Nat.le_of_ble_eq_true rfl) dL_law_1296 (fun v745 s746 hq => ?_)
                                                                                    obtain ⟨hFs746, hq⟩ := hq
                                                                                    obtain ⟨⟨gNs746, gHs746, gEs746, gLs746⟩, h747, g748⟩ := hq
                                                                                    have gKs746 := gK.same h747 hm0 g748 (by decide) hgK
                                                                                    have hMs746 := zSBM.m hMs729 g748 (by decide) (by decide) (by decide)
                                                                                    refine zg_pop X dL_law_1299 rfl ?_
                                                                                    refine zg_goto X 1441 dL_law_1300 (by decide) ?_
                                                                                    refine zg_iinc X 6 (fun v749 => [(3, .int v749), (2, .ref m0), (1, .ref x0), (0, .ref b)]) 0 dL_law_1441 rfl (by decide) (by decide) (by omega) (by omega) (fun _ => rfl) (fun v749 ev749 hv749 => ?_)
                                                                                    refine zg_goto X 18 dL_law_1444 (by decide) ?_
                                                                                    refine zg_swap ?_
                                                                                    have X : zX d L1 kd1 A 4 p s m #[Value.ref b] c cL_law RL := X
                                                                                    refine zg_sub [0, 1, 2, 3] rfl ?_
                                                                                    exact ihLp _ _ _ v749 h730 h747 hMs746 gNs746 gHs746 gEs746 gLs746 gKs746 (by omega) (by omega)
                                                                                  · skip
                                                                                    refine zg_iconst X 1 dL_law_1291 (by decide) (fun v750 _ hv750 => ?_)
                                                                                    refine zg_goto X 1296 dL_law_1292 (by decide) ?_
                                                                                    refine zg_swap ?_
                                                                                    have X : zX d L2 kd2 A 4 p s m #[Value.ref b] c cL_law RL := X
                                                                                    refine zg_cVi (As := [.int v733, .int v736, .int v739, .int v750]) (st := []) X hm0 rfl (by decide) rfl (t_X11_tell l d L2 kd2 κ _ hI2 m0 hm0 v733 v736 v739 v750 (by omega) hgN hgH hgE hgL) mk_L_170 mc_X11_tell mz_X11 mi_X11_tell ml_X11_tell (na := 4) ⟨md_X11.1, md_X11.2, by decide +kernel⟩ rfl ⟨by decide, by decide⟩ (Nat.le_of_ble_eq_true rfl) dL_law_1296 (fun v751 s752 hq => ?_)
                                                                                    obtain ⟨hFs752, hq⟩ := hq
                                                                                    obtain ⟨⟨gNs752, gHs752, gEs752, gLs752⟩, h753, g754⟩ := hq
                                                                                    have gKs752 := gK.same h753 hm0 g754 (by decide) hgK
                                                                                    have hMs752 := zSBM.m hMs729 g754 (by decide) (by decide) (by decide)
                                                                                    refine zg_pop X dL_law_1299 rfl ?_
                                                                                    refine zg_goto X 1441 dL_law_1300 (by decide) ?_
                                                                                    refine zg_iinc X 6 (fun v755 => [(3, .int v755), (2, .ref m0), (1, .ref x0), (0, .ref b)]) 0 dL_law_1441 rfl (by decide) (by decide) (by omega) (by omega) (fun _ => rfl) (fun v755 ev755 hv755 => ?_)
                                                                                    refine zg_goto X 18 dL_law_1444 (by decide) ?_
                                                                                    refine zg_swap ?_
                                                                                    have X : zX d L1 kd1 A 4 p s m #[Value.ref b] c cL_law RL := X
                                                                                    refine zg_sub [0, 1, 2, 3] rfl ?_
                                                                                    exact ihLp _ _ _ v755 h730 h753 hMs752 gNs752 gHs752 gEs752 gLs752 gKs752 (by omega) (by omega)
                                                                              · skip
                                                                                by_cases q756 : v8.toInt = 37
                                                                                · refine zg_tabIn X 1303 37 dL_law_33 q756 (by decide) (by decide) rfl (by decide) ?_
                                                                                  refine zg_aload_n X 2 rfl dL_law_1303 ?_
                                                                                  refine zg_cVi (As := []) (st := []) X hx0 rfl (by decide) rfl (t_X10_forget l d L1 kd1 κ _ hI1 x0 hx0  ) mk_L_171 mc_X10_forget mz_X10 mi_X10_forget ml_X10_forget (na := 0) ⟨md_X10.1, md_X10.2, by decide +kernel⟩ rfl ⟨by decide, by decide⟩ (Nat.le_of_ble_eq_true rfl) dL_law_1304 (fun v757 s758 hq => ?_)
                                                                                  obtain ⟨hFs758, hSs758, hq⟩ := hq
                                                                                  have h759 := hq
                                                                                  have hMs758 := zSBM.c hM hx0 hSs758 (by decide) (by decide) (by decide)
                                                                                  refine zg_pop X dL_law_1307 rfl ?_
                                                                                  refine zg_aload_n X 1 rfl dL_law_1308 ?_
                                                                                  refine zg_swap ?_
                                                                                  have X : zX d L2 kd2 A 4 p s m #[Value.ref b] c cL_law RL := X
                                                                                  refine zg_cVi (As := []) (st := []) X hm0 rfl (by decide) rfl (t_X11_forget l d L2 kd2 κ _ hI2 m0 hm0   hgN hgH hgE hgL) mk_L_174 mc_X11_forget mz_X11 mi_X11_forget ml_X11_forget (na := 0) ⟨md_X11.1, md_X11.2, by decide +kernel⟩ rfl ⟨by decide, by decide⟩ (Nat.le_of_ble_eq_true rfl) dL_law_1309 (fun v760 s761 hq => ?_)
                                                                                  obtain ⟨hFs761, hq⟩ := hq
                                                                                  obtain ⟨⟨gNs761, gHs761, gEs761, gLs761⟩, h762, g763⟩ := hq
                                                                                  have gKs761 := gK.same h762 hm0 g763 (by decide) hgK
                                                                                  have hMs761 := zSBM.m hMs758 g763 (by decide) (by decide) (by decide)
                                                                                  refine zg_pop X dL_law_1312 rfl ?_
                                                                                  refine zg_goto X 1441 dL_law_1313 (by decide) ?_
                                                                                  refine zg_iinc X 6 (fun v764 => [(3, .int v764), (2, .ref m0), (1, .ref x0), (0, .ref b)]) 0 dL_law_1441 rfl (by decide) (by decide) (by omega) (by omega) (fun _ => rfl) (fun v764 ev764 hv764 => ?_)
                                                                                  refine zg_goto X 18 dL_law_1444 (by decide) ?_
                                                                                  refine zg_swap ?_
                                                                                  have X : zX d L1 kd1 A 4 p s m #[Value.ref b] c cL_law RL := X
                                                                                  refine zg_sub [0, 1, 2, 3] rfl ?_
                                                                                  exact ihLp _ _ _ v764 h759 h762 hMs761 gNs761 gHs761 gEs761 gLs761 gKs761 (by omega) (by omega)
                                                                                · skip
                                                                                  by_cases q765 : v8.toInt = 38
                                                                                  · refine zg_tabIn X 1316 38 dL_law_33 q765 (by decide) (by decide) rfl (by decide) ?_
                                                                                    refine zg_aload_n X 2 rfl dL_law_1316 ?_
                                                                                    refine zg_aload_n X 3 rfl dL_law_1317 ?_
                                                                                    refine zg_iload_n X 0 rfl dL_law_1318 ?_
                                                                                    refine zg_iconst X 1 dL_law_1319 (by decide) (fun v766 _ hv766 => ?_)
                                                                                    refine zg_iadd X dL_law_1320 (by omega) (by omega) (fun v767 ev767 hv767 => ?_)
                                                                                    refine zg_sld X hX hbl hbA (by omega) (by omega) dL_law_1321 (fun v768 ev768 => ?_)
                                                                                    refine zg_aload_n X 3 rfl dL_law_1322 ?_
                                                                                    refine zg_iload_n X 0 rfl dL_law_1323 ?_
                                                                                    refine zg_iconst X 2 dL_law_1324 (by decide) (fun v769 _ hv769 => ?_)
                                                                                    refine zg_iadd X dL_law_1325 (by omega) (by omega) (fun v770 ev770 hv770 => ?_)
                                                                                    refine zg_sld X hX hbl hbA (by omega) (by omega) dL_law_1326 (fun v771 ev771 => ?_)
                                                                                    refine zg_cVi (As := [.int v768, .int v771]) (st := []) X hx0 rfl (by decide) rfl (t_X10_dyed l d L1 kd1 κ _ hI1 x0 hx0 v768 v771 ) mk_L_175 mc_X10_dyed mz_X10 mi_X10_dyed ml_X10_dyed (na := 2) ⟨md_X10.1, md_X10.2, by decide +kernel⟩ rfl ⟨by decide, by decide⟩ (Nat.le_of_ble_eq_true rfl) dL_law_1327 (fun v772 s773 hq => ?_)
                                                                                    obtain ⟨hFs773, hSs773, hq⟩ := hq
                                                                                    have h774 := hq
                                                                                    have hMs773 := zSBM.c hM hx0 hSs773 (by decide) (by decide) (by decide)
                                                                                    refine zg_pop X dL_law_1330 rfl ?_
                                                                                    refine zg_aload_n X 1 rfl dL_law_1331 ?_
                                                                                    refine zg_aload_n X 3 rfl dL_law_1332 ?_
                                                                                    refine zg_iload_n X 0 rfl dL_law_1333 ?_
                                                                                    refine zg_iconst X 1 dL_law_1334 (by decide) (fun v775 _ hv775 => ?_)
                                                                                    refine zg_iadd X dL_law_1335 (by omega) (by omega) (fun v776 ev776 hv776 => ?_)
                                                                                    refine zg_sld X hX hbl hbA (by omega) (by omega) dL_law_1336 (fun v777 ev777 => ?_)
                                                                                    refine zg_aload_n X 3 rfl dL_law_1337 ?_
                                                                                    refine zg_iload_n X 0 rfl dL_law_1338 ?_
                                                                                    refine zg_iconst X 2 dL_law_1339 (by decide) (fun v778 _ hv778 => ?_)
                                                                                    refine zg_iadd X dL_law_1340 (by omega) (by omega) (fun v779 ev779 hv779 => ?_)
                                                                                    refine zg_sld X hX hbl hbA (by omega) (by omega) dL_law_1341 (fun v780 ev780 => ?_)
                                                                                    refine zg_swap ?_
                                                                                    have X : zX d L2 kd2 A 4 p s m #[Value.ref b] c cL_law RL := X
                                                                                    refine zg_cVi (As := [.int v777, .int v780]) (st := []) X hm0 rfl (by decide) rfl (t_X11_dyed l d L2 kd2 κ _ hI2 m0 hm0 v777 v780  hgN hgH hgE hgL) mk_L_178 mc_X11_dyed mz_X11 mi_X11_dyed ml_X11_dyed (na := 2) ⟨md_X11.1, md_X11.2, by decide +kernel⟩ rfl ⟨by decide, by decide⟩ (Nat.le_of_ble_eq_true rfl) dL_law_1342 (fun v781 s782 hq => ?_)
                                                                                    obtain ⟨hFs782, hq⟩ := hq
                                                                                    obtain ⟨⟨gNs782, gHs782, gEs782, gLs782⟩, h783, g784⟩ := hq
                                                                                    have gKs782 := gK.same h783 hm0 g784 (by decide) hgK
                                                                                    have hMs782 := zSBM.m hMs773 g784 (by decide) (by decide) (by decide)
                                                                                    refine zg_pop X dL_law_1345 rfl ?_
                                                                                    refine zg_goto X 1441 dL_law_1346 (by decide) ?_
                                                                                    refine zg_iinc X 6 (fun v785 => [(3, .int v785), (2, .ref m0), (1, .ref x0), (0, .ref b)]) 0 dL_law_1441 rfl (by decide) (by decide) (by omega) (by omega) (fun _ => rfl) (fun v785 ev785 hv785 => ?_)
                                                                                    refine zg_goto X 18 dL_law_1444 (by decide) ?_
                                                                                    refine zg_swap ?_
                                                                                    have X : zX d L1 kd1 A 4 p s m #[Value.ref b] c cL_law RL := X
                                                                                    refine zg_sub [0, 1, 2, 3] rfl ?_
                                                                                    exact ihLp _ _ _ v785 h774 h783 hMs782 gNs782 gHs782 gEs782 gLs782 gKs782 (by omega) (by omega)
                                                                                  · skip
                                                                                    by_cases q786 : v8.toInt = 39
                                                                                    · refine zg_tabIn X 1349 39 dL_law_33 q786 (by decide) (by decide) rfl (by decide) ?_
                                                                                      refine zg_aload_n X 2 rfl dL_law_1349 ?_
                                                                                      refine zg_aload_n X 3 rfl dL_law_1350 ?_
                                                                                      refine zg_iload_n X 0 rfl dL_law_1351 ?_
                                                                                      refine zg_iconst X 1 dL_law_1352 (by decide) (fun v787 _ hv787 => ?_)
                                                                                      refine zg_iadd X dL_law_1353 (by omega) (by omega) (fun v788 ev788 hv788 => ?_)
                                                                                      refine zg_sld X hX hbl hbA (by omega) (by omega) dL_law_1354 (fun v789 ev789 => ?_)
                                                                                      refine zg_cVi (As := [.int v789]) (st := []) X hx0 rfl (by decide) rfl (t_X10_watch l d L1 kd1 κ _ hI1 x0 hx0 v789 ) mk_L_179 mc_X10_watch mz_X10 mi_X10_watch ml_X10_watch (na := 1) ⟨md_X10.1, md_X10.2, by decide +kernel⟩ rfl ⟨by decide, by decide⟩ (Nat.le_of_ble_eq_true rfl) dL_law_1355 (fun v790 s791 hq => ?_)
                                                                                      obtain ⟨hFs791, hSs791, hq⟩ := hq
                                                                                      have h792 := hq
                                                                                      have hMs791 := zSBM.c hM hx0 hSs791 (by decide) (by decide) (by decide)
                                                                                      refine zg_pop X dL_law_1358 rfl ?_
                                                                                      refine zg_aload_n X 1 rfl dL_law_1359 ?_
                                                                                      refine zg_aload_n X 3 rfl dL_law_1360 ?_
                                                                                      refine zg_iload_n X 0 rfl dL_law_1361 ?_
                                                                                      refine zg_iconst X 1 dL_law_1362 (by decide) (fun v793 _ hv793 => ?_)
                                                                                      refine zg_iadd X dL_law_1363 (by omega) (by omega) (fun v794 ev794 hv794 => ?_)
                                                                                      refine zg_sld X hX hbl hbA (by omega) (by omega) dL_law_1364 (fun v795 ev795 => ?_)
                                                                                      refine zg_swap ?_
                                                                                      have X : zX d L2 kd2 A 4 p s m #[Value.ref b] c cL_law RL := X
                                                                                      refine zg_cVi (As := [.int v795]) (st := []) X hm0 rfl (by decide) rfl (t_X11_watch l d L2 kd2 κ _ hI2 m0 hm0 v795  hgN hgH hgE hgL) mk_L_182 mc_X11_watch mz_X11 mi_X11_watch ml_X11_watch (na := 1) ⟨md_X11.1, md_X11.2, by decide +kernel⟩ rfl ⟨by decide, by decide⟩ (Nat.le_of_ble_eq_true rfl) dL_law_1365 (fun v796 s797 hq => ?_)
                                                                                      obtain ⟨hFs797, hq⟩ := hq
                                                                                      obtain ⟨⟨gNs797, gHs797, gEs797, gLs797⟩, h798, g799⟩ := hq
                                                                                      have gKs797 := gK.same h798 hm0 g799 (by decide) hgK
                                                                                      have hMs797 := zSBM.m hMs791 g799 (by decide) (by decide) (by decide)
                                                                                      refine zg_pop X dL_law_1368 rfl ?_
                                                                                      refine zg_goto X 1441 dL_law_1369 (by decide) ?_
                                                                                      refine zg_iinc X 6 (fun v800 => [(3, .int v800), (2, .ref m0), (1, .ref x0), (0, .ref b)]) 0 dL_law_1441 rfl (by decide) (by decide) (by omega) (by omega) (fun _ => rfl) (fun v800 ev800 hv800 => ?_)
                                                                                      refine zg_goto X 18 dL_law_1444 (by decide) ?_
                                                                                      refine zg_swap ?_
                                                                                      have X : zX d L1 kd1 A 4 p s m #[Value.ref b] c cL_law RL := X
                                                                                      refine zg_sub [0, 1, 2, 3] rfl ?_
                                                                                      exact ihLp _ _ _ v800 h792 h798 hMs797 gNs797 gHs797 gEs797 gLs797 gKs797 (by omega) (by omega)
                                                                                    · skip
                                                                                      by_cases q801 : v8.toInt = 40
                                                                                      · refine zg_tabIn X 1372 40 dL_law_33 q801 (by decide) (by decide) rfl (by decide) ?_
                                                                                        refine zg_aload_n X 2 rfl dL_law_1372 ?_
                                                                                        refine zg_aload_n X 3 rfl dL_law_1373 ?_
                                                                                        refine zg_iload_n X 0 rfl dL_law_1374 ?_
                                                                                        refine zg_iconst X 1 dL_law_1375 (by decide) (fun v802 _ hv802 => ?_)
                                                                                        refine zg_iadd X dL_law_1376 (by omega) (by omega) (fun v803 ev803 hv803 => ?_)
                                                                                        refine zg_sld X hX hbl hbA (by omega) (by omega) dL_law_1377 (fun v804 ev804 => ?_)
                                                                                        refine zg_cVi (As := [.int v804]) (st := []) X hx0 rfl (by decide) rfl (t_X10_hold l d L1 kd1 κ _ hI1 x0 hx0 v804 ) mk_L_183 mc_X10_hold mz_X10 mi_X10_hold ml_X10_hold (na := 1) ⟨md_X10.1, md_X10.2, by decide +kernel⟩ rfl ⟨by decide, by decide⟩ (Nat.le_of_ble_eq_true rfl) dL_law_1378 (fun v805 s806 hq => ?_)
                                                                                        obtain ⟨hFs806, hSs806, hq⟩ := hq
                                                                                        obtain ⟨hzh807, h807⟩ := hq
                                                                                        have hMs806 := zSBM.hold hM hI1 hx0 hFs806 hSs806 (by decide) (by decide)
                                                                                        refine zg_pop X dL_law_1381 rfl ?_
                                                                                        refine zg_aload_n X 1 rfl dL_law_1382 ?_
                                                                                        refine zg_aload_n X 3 rfl dL_law_1383 ?_
                                                                                        refine zg_iload_n X 0 rfl dL_law_1384 ?_
                                                                                        refine zg_iconst X 1 dL_law_1385 (by decide) (fun v808 _ hv808 => ?_)
                                                                                        refine zg_iadd X dL_law_1386 (by omega) (by omega) (fun v809 ev809 hv809 => ?_)
                                                                                        refine zg_sld X hX hbl hbA (by omega) (by omega) dL_law_1387 (fun v810 ev810 => ?_)
                                                                                        have tv810 : v810.toInt = v804.toInt := by rw [ev810, ev804, show v809 = v803 from Int32.toInt_inj.mp (by omega)]
                                                                                        refine zg_swap ?_
                                                                                        have X : zX d L2 kd2 A 4 p s m #[Value.ref b] c cL_law RL := X
                                                                                        refine zg_cVi (As := [.int v810]) (st := []) X hm0 rfl (by decide) rfl (t_X11_hold l d L2 kd2 κ _ hI2 m0 hm0 v810  hgN hgH hgE hgL) mk_L_186 mc_X11_hold mz_X11 mi_X11_hold ml_X11_hold (na := 1) ⟨md_X11.1, md_X11.2, by decide +kernel⟩ rfl ⟨by decide, by decide⟩ (Nat.le_of_ble_eq_true rfl) dL_law_1388 (fun v811 s812 hq => ?_)
                                                                                        obtain ⟨hFs812, hq⟩ := hq
                                                                                        obtain ⟨⟨fs812_res, fs812_fact0, gNs812, gHs812, gEs812, gLs812⟩, h813, g814⟩ := hq
                                                                                        have gKs812 := gK.same h813 hm0 g814 (by decide) hgK
                                                                                        have hMs812 := zSBM.m hMs806 g814 (by decide) (by decide) (by decide)
                                                                                        refine zg_pop X dL_law_1391 rfl ?_
                                                                                        refine zg_goto X 1441 dL_law_1392 (by decide) ?_
                                                                                        refine zg_iinc X 6 (fun v815 => [(3, .int v815), (2, .ref m0), (1, .ref x0), (0, .ref b)]) 0 dL_law_1441 rfl (by decide) (by decide) (by omega) (by omega) (fun _ => rfl) (fun v815 ev815 hv815 => ?_)
                                                                                        refine zg_goto X 18 dL_law_1444 (by decide) ?_
                                                                                        refine zg_swap ?_
                                                                                        have X : zX d L1 kd1 A 4 p s m #[Value.ref b] c cL_law RL := X
                                                                                        refine zg_sub [0, 1, 2, 3] rfl ?_
                                                                                        exact ihLp _ _ _ v815 h807 h813 hMs812 gNs812 gHs812 gEs812 gLs812 gKs812 (by omega) (by omega)
                                                                                      · skip
                                                                                        by_cases q816 : v8.toInt = 41
                                                                                        · refine zg_tabIn X 1395 41 dL_law_33 q816 (by decide) (by decide) rfl (by decide) ?_
                                                                                          refine zg_aload_n X 2 rfl dL_law_1395 ?_
                                                                                          refine zg_aload_n X 3 rfl dL_law_1396 ?_
                                                                                          refine zg_iload_n X 0 rfl dL_law_1397 ?_
                                                                                          refine zg_iconst X 1 dL_law_1398 (by decide) (fun v817 _ hv817 => ?_)
                                                                                          refine zg_iadd X dL_law_1399 (by omega) (by omega) (fun v818 ev818 hv818 => ?_)
                                                                                          refine zg_sld X hX hbl hbA (by omega) (by omega) dL_law_1400 (fun v819 ev819 => ?_)
                                                                                          refine zg_cVi (As := [.int v819]) (st := []) X hx0 rfl (by decide) rfl (t_X10_restore l d L1 kd1 κ _ hI1 x0 hx0 v819 ) mk_L_187 mc_X10_restore mz_X10 mi_X10_restore ml_X10_restore (na := 1) ⟨md_X10.1, md_X10.2, by decide +kernel⟩ rfl ⟨by decide, by decide⟩ (Nat.le_of_ble_eq_true rfl) dL_law_1401 (fun v820 s821 hq => ?_)
                                                                                          obtain ⟨hFs821, hSs821, hq⟩ := hq
                                                                                          obtain ⟨hzh822, h822⟩ := hq
                                                                                          have hMs821 := zSBM.c hM hx0 hSs821 (by decide) (by decide) (by decide)
                                                                                          refine zg_pop X dL_law_1404 rfl ?_
                                                                                          refine zg_aload_n X 1 rfl dL_law_1405 ?_
                                                                                          refine zg_aload_n X 3 rfl dL_law_1406 ?_
                                                                                          refine zg_iload_n X 0 rfl dL_law_1407 ?_
                                                                                          refine zg_iconst X 1 dL_law_1408 (by decide) (fun v823 _ hv823 => ?_)
                                                                                          refine zg_iadd X dL_law_1409 (by omega) (by omega) (fun v824 ev824 hv824 => ?_)
                                                                                          refine zg_sld X hX hbl hbA (by omega) (by omega) dL_law_1410 (fun v825 ev825 => ?_)
                                                                                          refine zg_swap ?_
                                                                                          have X : zX d L2 kd2 A 4 p s m #[Value.ref b] c cL_law RL := X
                                                                                          refine zg_cVi (As := [.int v825]) (st := []) X hm0 rfl (by decide) rfl (t_X11_restore l d L2 kd2 κ _ hI2 m0 hm0 v825  hgN hgH hgE hgL) mk_L_190 mc_X11_restore mz_X11 mi_X11_restore ml_X11_restore (na := 1) ⟨md_X11.1, md_X11.2, by decide +kernel⟩ rfl ⟨by decide, by decide⟩ (Nat.le_of_ble_eq_true rfl) dL_law_1411 (fun v826 s827 hq => ?_)
                                                                                          obtain ⟨hFs827, hq⟩ := hq
                                                                                          obtain ⟨⟨fs827_res, gNs827, gHs827, gEs827, gLs827⟩, h828, g829⟩ := hq
                                                                                          have gKs827 := gK.same h828 hm0 g829 (by decide) hgK
                                                                                          have hMs827 := zSBM.m hMs821 g829 (by decide) (by decide) (by decide)
                                                                                          refine zg_pop X dL_law_1414 rfl ?_
                                                                                          refine zg_goto X 1441 dL_law_1415 (by decide) ?_
                                                                                          refine zg_iinc X 6 (fun v830 => [(3, .int v830), (2, .ref m0), (1, .ref x0), (0, .ref b)]) 0 dL_law_1441 rfl (by decide) (by decide) (by omega) (by omega) (fun _ => rfl) (fun v830 ev830 hv830 => ?_)
                                                                                          refine zg_goto X 18 dL_law_1444 (by decide) ?_
                                                                                          refine zg_swap ?_
                                                                                          have X : zX d L1 kd1 A 4 p s m #[Value.ref b] c cL_law RL := X
                                                                                          refine zg_sub [0, 1, 2, 3] rfl ?_
                                                                                          exact ihLp _ _ _ v830 h822 h828 hMs827 gNs827 gHs827 gEs827 gLs827 gKs827 (by omega) (by omega)
                                                                                        · skip
                                                                                          by_cases q831 : v8.toInt = 42
                                                                                          · refine zg_tabIn X 1418 42 dL_law_33 q831 (by decide) (by decide) rfl (by decide) ?_
                                                                                            refine zg_aload_n X 2 rfl dL_law_1418 ?_
                                                                                            refine zg_aload_n X 3 rfl dL_law_1419 ?_
                                                                                            refine zg_iload_n X 0 rfl dL_law_1420 ?_
                                                                                            refine zg_iconst X 1 dL_law_1421 (by decide) (fun v832 _ hv832 => ?_)
                                                                                            refine zg_iadd X dL_law_1422 (by omega) (by omega) (fun v833 ev833 hv833 => ?_)
                                                                                            refine zg_sld X hX hbl hbA (by omega) (by omega) dL_law_1423 (fun v834 ev834 => ?_)
                                                                                            refine zg_cVi (As := [.int v834]) (st := []) X hx0 rfl (by decide) rfl (t_X10_count l d L1 kd1 κ _ hI1 x0 hx0 v834 ) mk_L_191 mc_X10_count mz_X10 mi_X10_count ml_X10_count (na := 1) ⟨md_X10.1, md_X10.2, by decide +kernel⟩ rfl ⟨by decide, by decide⟩ (Nat.le_of_ble_eq_true rfl) dL_law_1424 (fun v835 s836 hq => ?_)
                                                                                            obtain ⟨hFs836, hSs836, hq⟩ := hq
                                                                                            have h837 := hq
                                                                                            have hMs836 := zSBM.c hM hx0 hSs836 (by decide) (by decide) (by decide)
                                                                                            refine zg_pop X dL_law_1427 rfl ?_
                                                                                            refine zg_aload_n X 1 rfl dL_law_1428 ?_
                                                                                            refine zg_aload_n X 3 rfl dL_law_1429 ?_
                                                                                            refine zg_iload_n X 0 rfl dL_law_1430 ?_
                                                                                            refine zg_iconst X 1 dL_law_1431 (by decide) (fun v838 _ hv838 => ?_)
                                                                                            refine zg_iadd X dL_law_1432 (by omega) (by omega) (fun v839 ev839 hv839 => ?_)
                                                                                            refine zg_sld X hX hbl hbA (by omega) (by omega) dL_law_1433 (fun v840 ev840 => ?_)
                                                                                            refine zg_swap ?_
                                                                                            have X : zX d L2 kd2 A 4 p s m #[Value.ref b] c cL_law RL := X
                                                                                            refine zg_cVi (As := [.int v840]) (st := []) X hm0 rfl (by decide) rfl (t_X11_count l d L2 kd2 κ _ hI2 m0 hm0 v840  hgN hgH hgE hgL) mk_L_194 mc_X11_count mz_X11 mi_X11_count ml_X11_count (na := 1) ⟨md_X11.1, md_X11.2, by decide +kernel⟩ rfl ⟨by decide, by decide⟩ (Nat.le_of_ble_eq_true rfl) dL_law_1434 (fun v841 s842 hq => ?_)
                                                                                            obtain ⟨hFs842, hq⟩ := hq
                                                                                            obtain ⟨⟨gNs842, gHs842, gEs842, gLs842⟩, h843, g844⟩ := hq
                                                                                            have gKs842 := gK.same h843 hm0 g844 (by decide) hgK
                                                                                            have hMs842 := zSBM.m hMs836 g844 (by decide) (by decide) (by decide)
                                                                                            refine zg_pop X dL_law_1437 rfl ?_
                                                                                            refine zg_goto X 1441 dL_law_1438 (by decide) ?_
                                                                                            refine zg_iinc X 6 (fun v845 => [(3, .int v845), (2, .ref m0), (1, .ref x0), (0, .ref b)]) 0 dL_law_1441 rfl (by decide) (by decide) (by omega) (by omega) (fun _ => rfl) (fun v845 ev845 hv845 => ?_)
                                                                                            refine zg_goto X 18 dL_law_1444 (by decide) ?_
                                                                                            refine zg_swap ?_
                                                                                            have X : zX d L1 kd1 A 4 p s m #[Value.ref b] c cL_law RL := X
                                                                                            refine zg_sub [0, 1, 2, 3] rfl ?_
                                                                                            exact ihLp _ _ _ v845 h837 h843 hMs842 gNs842 gHs842 gEs842 gLs842 gKs842 (by omega) (by omega)
                                                                                          · skip
                                                                                            refine zg_tabOut X 1441 dL_law_33 (by omega) (by decide) ?_
                                                                                            refine zg_iinc X 6 (fun v846 => [(3, .int v846), (2, .ref m0), (1, .ref x0), (0, .ref b)]) 0 dL_law_1441 rfl (by decide) (by decide) (by omega) (by omega) (fun _ => rfl) (fun v846 ev846 hv846 => ?_)
                                                                                            refine zg_goto X 18 dL_law_1444 (by decide) ?_
                                                                                            refine zg_sub [0, 1, 2, 3] rfl ?_
                                                                                            exact ihLp _ _ _ v846 hI1 hI2 hM hgN hgH hgE hgL hgK (by omega) (by omega)
